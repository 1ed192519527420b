def cAddP (c : Int → Int) (b n ve no : Int) : Int → Int := fun x => if x = 2 then c 2 + 1 else if x = b + 2 then no else if x = b + 1 then ve else if x = b then n else c x
theorem cAddP_u {m : zM} {b n ve no : Int} (hb : 32 ≤ b) : cAddP (m a_c) b n ve no = zu (zu (zu (zu m a_c b n) a_c (b + 1) ve) a_c (b + 2) no) a_c 2 (m a_c 2 + 1) a_c := by
  funext x
  unfold cAddP
  by_cases e : x = 2
  · rw [if_pos e, e, zu_s]
  · rw [if_neg e, zu_j e]
    by_cases e1 : x = b + 2
    · rw [if_pos e1, e1, zu_s]
    · rw [if_neg e1, zu_j e1]
      by_cases e2 : x = b + 1
      · rw [if_pos e2, e2, zu_s]
      · rw [if_neg e2, zu_j e2]
        by_cases e3 : x = b
        · rw [if_pos e3, e3, zu_s]
        · rw [if_neg e3, zu_j e3]
/-- the letters of a point -/
def pRow (K : zK) (b o ve no : Int) : Nat → (Int → Int) → Int → Int → zPr
  | 0, c, _, p => (0, 0, c, p)
  | j + 1, c, n, p => if n ≠ 0 ∧ kSo K p ≠ 1 then (0, 0, cAddP c b n ve no, p)
    else if ¬ (kSo K p = 1 ∧ kSz K p = 1) then (kMis K p, p, c, p) else if ¬ 0 ≤ cFld c (kW K p) then (3, p, c, p) else if ¬ (n < 6 ∧ o + n < 12) then (6, p, c, p)
    else if kSn K (kR K p) 39 ∧ ¬ c (4 + 3 * cFld c (kW K p) + 1) = 1 then (4, kR K p, c, p)
    else pRow K b o ve no j (eU c (b + 3 + n) (2 * cFld c (kW K p) + zb (kSn K (kR K p) 39))) (n + 1) (if kSn K (kR K p) 39 then kR K (kR K p) else kR K p)
theorem pRow_s (K : zK) (b o ve no : Int) (j : Nat) (c : Int → Int) (n p : Int) : pRow K b o ve no (j + 1) c n p = if n ≠ 0 ∧ kSo K p ≠ 1 then (0, 0, cAddP c b n ve no, p)
    else if ¬ (kSo K p = 1 ∧ kSz K p = 1) then (kMis K p, p, c, p) else if ¬ 0 ≤ cFld c (kW K p) then (3, p, c, p) else if ¬ (n < 6 ∧ o + n < 12) then (6, p, c, p)
    else if kSn K (kR K p) 39 ∧ ¬ c (4 + 3 * cFld c (kW K p) + 1) = 1 then (4, kR K p, c, p)
    else pRow K b o ve no j (eU c (b + 3 + n) (2 * cFld c (kW K p) + zb (kSn K (kR K p) 39))) (n + 1) (if kSn K (kR K p) 39 then kR K (kR K p) else kR K p) := rfl
def pVe (K : zK) (p : Int) : Int := if kWd K p 209220123 then zb (kWd K (kR K p) 318702192) else zb (kWd K p 318702192)
def pP1 (K : zK) (p : Int) : Int := if kWd K p 209220123 then kR K p else p
def cVx (c : Int → Int) : Int := zsum (fun p => c (32 + 9 * p + 1)) (c 2).toNat 0
/-- a point -/
def pPoint (K : zK) (c : Int → Int) (p : Int) : zPr :=
  if ¬ (c 2 < 8 ∧ ¬ (pVe K p = 1 ∧ zsum (fun p => c (32 + 9 * p + 1)) (c 2).toNat 0 = 5)) then (6, p, c, p)
  else if ¬ (kWd K (pP1 K p) 318702192 ∨ kWd K (pP1 K p) 8399691) then (kMis K (pP1 K p), pP1 K p, c, p)
  else pRow K (32 + 9 * c 2) (cPre c (c 2).toNat) (pVe K p) (zb (kWd K p 209220123)) 7 c 0 (kR K (pP1 K p))
theorem cPre_rg {c : Int → Int} (hw : wfC c) : 0 ≤ cPre c (c 2).toNat ∧ cPre c (c 2).toNat ≤ 48 := by
  have h := zsum_bd (f := fun q => c (32 + 9 * q)) (b := 6) (j := (c 2).toNat) (k := 0) (fun i q0 q1 => by have := (hw.2.2.2.2.2 i q0 (by omega)).1; omega)
  have := hw.2.2.1
  unfold cPre
  omega
theorem l_readsPoint (d : Nat) {E : zE} {P : Option zV → zM → Prop} (hE : shM E) (b o ve no : Int) (hb : 32 ≤ b ∧ b ≤ 95) (hob : 0 ≤ o ∧ o ≤ 48) (hve : ve = 0 ∨ ve = 1) (hno : no = 0 ∨ no = 1) : ∀ (j : Nat) (n p : Int) (m : zM), mB m → m aM f_wrong = 0 → mTk m p → (0 ≤ m a_c 0 ∧ m a_c 0 ≤ 6) → (0 ≤ m a_c 2 ∧ m a_c 2 ≤ 8) → n + j = 7 → (0 ≤ n ∧ n ≤ 6) → (∀ m2, mPr m m2 (pRow (mK m) b o ve no j (m a_c) n p) → P none m2) → zA zX12_readsPoint (d + 4) E E P 121 [zP aM, zI no, zI ve, zI b, zI n, zI o, zN, zN] [] m E := by
  intro j
  induction j with
  | zero =>
    intro n p m hB hw ht hc0 hc2 hj hn hP
    omega
  | succ j ih =>
    intro n p m hB hw ht hc0 hc2 hj hn hP
    have hm := hB.1
    have hB0 := hB
    have hw0 := hw
    have ht0 := ht
    have hK0 : mK m = mK m := rfl
    have hn0 : m aM f_end = m aM f_end := rfl
    have hm0 := hm
    have hok := mK_ok hB.2.1
    have z0 : zfr fTh m m := zfr_rf
    have ha_c0 : m a_c = m a_c := rfl
    refine z_aload_n dX12_readsPoint_121 rfl ?_
    refine z_gIv f_wrong rfl flX12_487 dX12_readsPoint_122 (sh_M hE) rfl hw0 ?_
    refine z_if_ne (tgt := 267) dX12_readsPoint_125 rfl (fun h => absurd h (by omega)) (fun h125 => ?_)
    refine z_iload dX12_readsPoint_128 rfl ?_
    refine z_if_eq (tgt := 141) dX12_readsPoint_130 rfl (fun h130 => ?_) (fun h130 => ?_)
    · refine z_aload_n dX12_readsPoint_141 rfl ?_
      refine z_callV mlX12_510 dX12_readsPoint_142 (sh_M hE) (av := _) rfl rfl (Nat.le_of_ble_eq_true rfl) (by have h := v_fieldTold (d + 1) hE hB0 hw0 p ht0 (by rw [ha_c0]; exact hc0); rw [hK0, ha_c0] at h; exact h) (Nat.le_refl _) (Nat.le_refl _) (Nat.le_refl _) (Nat.le_refl _) ?_
      rintro _ m1 (⟨g1, i1, rfl, rfl⟩ | ⟨g1, i1, rfl, b1⟩ | ⟨g1, rfl, b1⟩)
      · obtain ⟨j1, l1⟩ := cFld_rg hc0 i1
        refine z_istore dX12_readsPoint_145 (Nat.le_of_ble_eq_true rfl) ?_
        refine z_aload_n dX12_readsPoint_147 rfl ?_
        refine z_iload dX12_readsPoint_148 rfl ?_
        refine z_bipush dX12_readsPoint_150 rfl (by decide) ?_
        try dsimp only [zs0, zsI, zsP, zsN, zsJ, zsS, zst2, Nat.reduceAdd]
        refine z_icmp_ge (tgt := 169) dX12_readsPoint_152 rfl (fun h152 => ?_) (fun h152 => ?_)
        · refine z_iconst dX12_readsPoint_169 (by decide) ?_
          refine z_bipush dX12_readsPoint_170 rfl (by decide) ?_
          refine z_callV mlX12_493 dX12_readsPoint_172 (sh_M hE) (av := [_, _]) rfl rfl (Nat.le_of_ble_eq_true rfl) (x_mustK _ hE hB0 hw0 p ht0 6 (by decide)) (Nat.le_refl _) (Nat.le_refl _) (Nat.le_refl _) (Nat.le_refl _) ?_
          rintro _ m1 ⟨rfl, b1⟩
          have hB1 : mB m1 := b1 ▸ mB_bad hB0
          have hw1 : m1 aM f_wrong = 6 := b1 ▸ mBad_w
          have ha1 : m1 aM f_wrongAt = p := b1 ▸ mBad_a
          have z1 : zfr fTh m m1 := b1 ▸ zfr_uj (zfr_uj z0 (by decide)) (by decide)
          have hd1 : 0 < m1 aM f_wrong := by rw [hw1]; first | exact kMis_pos | decide
          have hm1 : ptM m1 := hB1.1
          have ha_c1 : m1 a_c = m a_c := b1 ▸ (zu_fn (by decide)).trans (zu_fn (by decide))
          refine z_aload_n dX12_readsPoint_175 rfl ?_
          refine z_gIv f_wrong rfl flX12_487 dX12_readsPoint_176 (sh_M hE) rfl hw1 ?_
          refine z_if_le (tgt := 183) dX12_readsPoint_179 rfl (fun h => absurd h (by omega)) (fun h179 => ?_)
          refine z_vret dX12_readsPoint_182 rfl rfl ?_
          have eA : pRow (mK m) b o ve no (j + 1) (m a_c) n p = (6, p, m a_c, p) := by rw [pRow_s, if_neg (fun h => absurd h.1 (by omega)), if_neg (not_not_intro g1), if_neg (not_not_intro i1), if_pos (by omega)]
          refine hP _ ?_
          rw [eA]
          exact ⟨z1, hw1, fun _ => ha1, fun h => absurd (show (6 : Int) = 0 from h) (by first | exact kMis_ne | decide), fun x hx => congrFun ha_c1 x⟩
        · refine z_iload dX12_readsPoint_155 rfl ?_
          refine z_iload dX12_readsPoint_157 rfl ?_
          refine z_add dX12_readsPoint_159 (by omega) ?_
          refine z_bipush dX12_readsPoint_160 rfl (by decide) ?_
          refine z_icmp_ge (tgt := 169) dX12_readsPoint_162 rfl (fun h162 => ?_) (fun h162 => ?_)
          · refine z_iconst dX12_readsPoint_169 (by decide) ?_
            refine z_bipush dX12_readsPoint_170 rfl (by decide) ?_
            refine z_callV mlX12_493 dX12_readsPoint_172 (sh_M hE) (av := [_, _]) rfl rfl (Nat.le_of_ble_eq_true rfl) (x_mustK _ hE hB0 hw0 p ht0 6 (by decide)) (Nat.le_refl _) (Nat.le_refl _) (Nat.le_refl _) (Nat.le_refl _) ?_
            rintro _ m1 ⟨rfl, b1⟩
            have hB1 : mB m1 := b1 ▸ mB_bad hB0
            have hw1 : m1 aM f_wrong = 6 := b1 ▸ mBad_w
            have ha1 : m1 aM f_wrongAt = p := b1 ▸ mBad_a
            have z1 : zfr fTh m m1 := b1 ▸ zfr_uj (zfr_uj z0 (by decide)) (by decide)
            have hd1 : 0 < m1 aM f_wrong := by rw [hw1]; first | exact kMis_pos | decide
            have hm1 : ptM m1 := hB1.1
            have ha_c1 : m1 a_c = m a_c := b1 ▸ (zu_fn (by decide)).trans (zu_fn (by decide))
            refine z_aload_n dX12_readsPoint_175 rfl ?_
            refine z_gIv f_wrong rfl flX12_487 dX12_readsPoint_176 (sh_M hE) rfl hw1 ?_
            refine z_if_le (tgt := 183) dX12_readsPoint_179 rfl (fun h => absurd h (by omega)) (fun h179 => ?_)
            refine z_vret dX12_readsPoint_182 rfl rfl ?_
            have eA : pRow (mK m) b o ve no (j + 1) (m a_c) n p = (6, p, m a_c, p) := by rw [pRow_s, if_neg (fun h => absurd h.1 (by omega)), if_neg (not_not_intro g1), if_neg (not_not_intro i1), if_pos (by omega)]
            refine hP _ ?_
            rw [eA]
            exact ⟨z1, hw1, fun _ => ha1, fun h => absurd (show (6 : Int) = 0 from h) (by first | exact kMis_ne | decide), fun x hx => congrFun ha_c1 x⟩
          · refine z_iconst dX12_readsPoint_165 (by decide) ?_
            refine z_goto (tgt := 170) dX12_readsPoint_166 rfl ?_
            refine z_bipush dX12_readsPoint_170 rfl (by decide) ?_
            refine z_callV mlX12_493 dX12_readsPoint_172 (sh_M hE) (av := [_, _]) rfl rfl (Nat.le_of_ble_eq_true rfl) (x_mustT _ hE hB0 1 6 (Or.inl (by decide))) (Nat.le_refl _) (Nat.le_refl _) (Nat.le_refl _) (Nat.le_refl _) ?_
            rintro _ _ ⟨rfl, rfl⟩
            refine z_aload_n dX12_readsPoint_175 rfl ?_
            refine z_gIv f_wrong rfl flX12_487 dX12_readsPoint_176 (sh_M hE) rfl hw0 ?_
            refine z_if_le (tgt := 183) dX12_readsPoint_179 rfl (fun h179 => ?_) (fun h => absurd (by omega) h)
            refine z_aload_n dX12_readsPoint_183 rfl ?_
            refine z_callV mlX12_497 dX12_readsPoint_184 (sh_M hE) (av := _) rfl rfl (Nat.le_of_ble_eq_true rfl) (x_reads _ hE hB0 hw0 p ht0 (by rw [hn0]; exact kSo_lt hok (by rw [g1.1]; decide))) (Nat.le_refl _) (Nat.le_refl _) (Nat.le_refl _) (Nat.le_refl _) ?_
            rintro _ m1 ⟨rfl, f1, t1⟩
            have hB1 := mB_fr hB0 (zfr_sub f1 (by decide))
            have hK1 : mK m1 = mK m := (mK_fr f1 (by decide)).trans hK0
            have hw1 : m1 aM f_wrong = 0 := (zfr_at f1 (by decide)).trans hw0
            have z1 : zfr fTh m m1 := zfr_tr z0 (zfr_sub f1 (by decide))
            have hn1 : m1 aM f_end = m aM f_end := (zfr_at f1 (by decide)).trans hn0
            have hm1 : ptM m1 := hB1.1
            have ha_c1 : m1 a_c = m a_c := (zfr_cell f1 (by decide)).trans ha_c0
            rw [hK0] at t1
            obtain ⟨p1, e1⟩ : ∃ x, x = kR (mK m) p := ⟨_, rfl⟩
            rw [← e1] at t1
            have ht1 := t1
            refine z_aload_n dX12_readsPoint_187 rfl ?_
            refine z_bipush dX12_readsPoint_188 rfl (by decide) ?_
            refine z_callV mlX12_520 dX12_readsPoint_190 (sh_M hE) (av := [_]) rfl rfl (Nat.le_of_ble_eq_true rfl) (by have h := x_isSign (d + 3) hE hB1 hw1 p1 ht1 39 (by decide) (by decide); rw [hK1] at h; exact h) (Nat.le_refl _) (Nat.le_refl _) (Nat.le_refl _) (Nat.le_refl _) ?_
            rintro _ _ ⟨rfl, rfl⟩
            refine z_istore dX12_readsPoint_193 (Nat.le_of_ble_eq_true rfl) ?_
            refine z_aload_n dX12_readsPoint_195 rfl ?_
            refine z_iload dX12_readsPoint_196 rfl ?_
            try dsimp only [zs0, zsI, zsP, zsN, zsJ, zsS, zst2, Nat.reduceAdd]
            refine z_ifz_eq (tgt := 210) dX12_readsPoint_198 rfl (fun h198 => ?_) (fun h198 => ?_)
            · refine z_iconst dX12_readsPoint_210 (by decide) ?_
              refine z_goto (tgt := 215) dX12_readsPoint_211 rfl ?_
              refine z_iconst dX12_readsPoint_215 (by decide) ?_
              refine z_callV mlX12_493 dX12_readsPoint_216 (sh_M hE) (av := [_, _]) rfl rfl (Nat.le_of_ble_eq_true rfl) (x_mustT _ hE hB1 1 4 (Or.inl (by decide))) (Nat.le_refl _) (Nat.le_refl _) (Nat.le_refl _) (Nat.le_refl _) ?_
              rintro _ _ ⟨rfl, rfl⟩
              refine z_iload dX12_readsPoint_219 rfl ?_
              refine z_ifz_eq (tgt := 235) dX12_readsPoint_221 rfl (fun h221 => ?_) (fun h => absurd h h198)
              refine z_aload_n dX12_readsPoint_235 rfl ?_
              refine z_gP 0 rfl (r := a_c) flX12_7 dX12_readsPoint_236 (sh_M hE) rfl (pt_c hm1) (by decide) ?_
              refine z_iload_n dX12_readsPoint_239 rfl ?_
              refine z_iconst dX12_readsPoint_240 (by decide) ?_
              refine z_add dX12_readsPoint_241 (by omega) ?_
              refine z_iload dX12_readsPoint_242 rfl ?_
              refine z_add dX12_readsPoint_244 (by omega) ?_
              refine z_iconst dX12_readsPoint_245 (by decide) ?_
              refine z_iload dX12_readsPoint_246 rfl ?_
              refine z_mul dX12_readsPoint_248 (by omega) ?_
              refine z_iload dX12_readsPoint_249 rfl ?_
              refine z_ifz_eq (tgt := 258) dX12_readsPoint_251 rfl (fun h251 => ?_) (fun h => absurd h h198)
              refine z_iconst dX12_readsPoint_258 (by decide) ?_
              refine z_add dX12_readsPoint_259 (by omega) ?_
              refine z_iast dX12_readsPoint_260 (sh_c hE) (by omega) (by omega) ?_
              refine z_inc dX12_readsPoint_261 rfl (by omega) ?_
              refine z_goto (tgt := 121) dX12_readsPoint_264 rfl ?_
              try dsimp only [zs0, zsI, zsP, zsN, zsJ, zsS, zst2, Nat.reduceAdd]
              refine zA_wk [_, _, _, _, _, _, zN, zN] (by exact ⟨Or.inr rfl, Or.inr rfl, Or.inr rfl, Or.inr rfl, Or.inr rfl, Or.inr rfl, Or.inl rfl, Or.inl rfl, trivial⟩) ?_
              have gf : zfr fTh m (zu m1 a_c (b + 3 + n) (2 * (cFld (m a_c) (kW (mK m) p)) + 0)) := zfr_ua z1 (by decide)
              have gK : mK (zu m1 a_c (b + 3 + n) (2 * (cFld (m a_c) (kW (mK m) p)) + 0)) = mK m := mK_fr gf (by decide)
              have gc : zu m1 a_c (b + 3 + n) (2 * (cFld (m a_c) (kW (mK m) p)) + 0) a_c = eU (m a_c) (b + 3 + n) (2 * (cFld (m a_c) (kW (mK m) p)) + 0) := eU_u ha_c1
              refine ih (n + 1) p1 _ (mB_fr hB1 (zfr_ua zfr_rf (by decide))) ((zu_a (by decide)).trans hw1) (mTk_c (zfr_ua zfr_rf (by decide)) ht1) (by rw [gc, eU_o (by omega)]; exact hc0) (by rw [gc, eU_o (by omega)]; exact hc2) (by omega) (by omega) (fun m2 g => hP m2 ?_)
              have eA : pRow (mK m) b o ve no (j + 1) (m a_c) n p = pRow (mK m) b o ve no j (eU (m a_c) (b + 3 + n) (2 * (cFld (m a_c) (kW (mK m) p)) + 0)) (n + 1) p1 := by rw [pRow_s, if_neg (fun h => absurd h.1 (by omega)), if_neg (not_not_intro g1), if_neg (not_not_intro i1), if_neg (not_not_intro (by omega)), ← e1, if_neg (fun h => h198 h.1), zb_f h198, if_neg h198]
              rw [gK, gc, ← eA] at g
              exact ⟨zfr_tr gf g.1, g.2.1, g.2.2.1, g.2.2.2.1, fun x hx => (g.2.2.2.2 x hx).trans ((zu_j (by omega)).trans (congrFun ha_c1 x))⟩
            · refine z_aload_n dX12_readsPoint_201 rfl ?_
              refine z_iload dX12_readsPoint_202 rfl ?_
              refine z_callV mlX12_148 dX12_readsPoint_204 (sh_M hE) (av := [_]) rfl rfl (Nat.le_of_ble_eq_true rfl) (by have h := r_isPair (d + 3) hE hm1 (cFld (m a_c) (kW (mK m) p)) (by omega) (by omega); rw [ha_c1] at h; exact h) (Nat.le_refl _) (Nat.le_refl _) (Nat.le_refl _) (Nat.le_refl _) ?_
              rintro _ _ ⟨rfl, rfl⟩
              refine z_ifz_eq (tgt := 214) dX12_readsPoint_207 rfl (fun h207 => ?_) (fun h207 => ?_)
              · refine z_iconst dX12_readsPoint_214 (by decide) ?_
                refine z_iconst dX12_readsPoint_215 (by decide) ?_
                refine z_callV mlX12_493 dX12_readsPoint_216 (sh_M hE) (av := [_, _]) rfl rfl (Nat.le_of_ble_eq_true rfl) (x_mustK _ hE hB1 hw1 p1 ht1 4 (by decide)) (Nat.le_refl _) (Nat.le_refl _) (Nat.le_refl _) (Nat.le_refl _) ?_
                rintro _ m2 ⟨rfl, b2⟩
                have hB2 : mB m2 := b2 ▸ mB_bad hB1
                have hw2 : m2 aM f_wrong = 4 := b2 ▸ mBad_w
                have ha2 : m2 aM f_wrongAt = p1 := b2 ▸ mBad_a
                have z2 : zfr fTh m m2 := b2 ▸ zfr_uj (zfr_uj z1 (by decide)) (by decide)
                have hd2 : 0 < m2 aM f_wrong := by rw [hw2]; first | exact kMis_pos | decide
                have hm2 : ptM m2 := hB2.1
                have ha_c2 : m2 a_c = m a_c := (b2 ▸ (zu_fn (by decide)).trans (zu_fn (by decide)) : m2 a_c = m1 a_c).trans ha_c1
                refine z_iload dX12_readsPoint_219 rfl ?_
                refine z_ifz_eq (tgt := 235) dX12_readsPoint_221 rfl (fun h => absurd h198 h) (fun h221 => ?_)
                refine z_aload_n dX12_readsPoint_224 rfl ?_
                refine z_gIv f_wrong rfl flX12_487 dX12_readsPoint_225 (sh_M hE) rfl hw2 ?_
                refine z_if_ne (tgt := 235) dX12_readsPoint_228 rfl (fun h228 => ?_) (fun h => absurd (by omega) h)
                refine z_aload_n dX12_readsPoint_235 rfl ?_
                refine z_gP 0 rfl (r := a_c) flX12_7 dX12_readsPoint_236 (sh_M hE) rfl (pt_c hm2) (by decide) ?_
                refine z_iload_n dX12_readsPoint_239 rfl ?_
                refine z_iconst dX12_readsPoint_240 (by decide) ?_
                refine z_add dX12_readsPoint_241 (by omega) ?_
                refine z_iload dX12_readsPoint_242 rfl ?_
                refine z_add dX12_readsPoint_244 (by omega) ?_
                refine z_iconst dX12_readsPoint_245 (by decide) ?_
                refine z_iload dX12_readsPoint_246 rfl ?_
                refine z_mul dX12_readsPoint_248 (by omega) ?_
                refine z_iload dX12_readsPoint_249 rfl ?_
                refine z_ifz_eq (tgt := 258) dX12_readsPoint_251 rfl (fun h => absurd h198 h) (fun h251 => ?_)
                refine z_iconst dX12_readsPoint_254 (by decide) ?_
                refine z_goto (tgt := 259) dX12_readsPoint_255 rfl ?_
                refine z_add dX12_readsPoint_259 (by omega) ?_
                refine z_iast dX12_readsPoint_260 (sh_c hE) (by omega) (by omega) ?_
                refine z_inc dX12_readsPoint_261 rfl (by omega) ?_
                refine z_goto (tgt := 121) dX12_readsPoint_264 rfl ?_
                try dsimp only [zs0, zsI, zsP, zsN, zsJ, zsS, zst2, Nat.reduceAdd]
                refine z_aload_n dX12_readsPoint_121 rfl ?_
                refine z_gIv f_wrong rfl flX12_487 dX12_readsPoint_122 (sh_M hE) rfl ((zu_a (by decide)).trans hw2) ?_
                refine z_if_ne (tgt := 267) dX12_readsPoint_125 rfl (fun h125 => ?_) (fun h => absurd (by omega) h)
                refine z_aload_n dX12_readsPoint_267 rfl ?_
                refine z_gIv f_wrong rfl flX12_487 dX12_readsPoint_268 (sh_M hE) rfl ((zu_a (by decide)).trans hw2) ?_
                refine z_if_le (tgt := 275) dX12_readsPoint_271 rfl (fun h => absurd h (by omega)) (fun h271 => ?_)
                refine z_vret dX12_readsPoint_274 rfl rfl ?_
                have eA : pRow (mK m) b o ve no (j + 1) (m a_c) n p = (4, p1, m a_c, p) := by rw [pRow_s, if_neg (fun h => absurd h.1 (by omega)), if_neg (not_not_intro g1), if_neg (not_not_intro i1), if_neg (not_not_intro (by omega)), ← e1, if_pos ⟨h198, h207⟩]
                refine hP _ ?_
                rw [eA]
                exact ⟨(zfr_ua z2 (by decide)), (zu_a (by decide)).trans hw2, fun _ => (zu_a (by decide)).trans ha2, fun h => absurd (show (4 : Int) = 0 from h) (by first | exact kMis_ne | decide), fun x hx => (zu_j (by omega)).trans (congrFun ha_c2 x)⟩
              · refine z_iconst dX12_readsPoint_210 (by decide) ?_
                refine z_goto (tgt := 215) dX12_readsPoint_211 rfl ?_
                refine z_iconst dX12_readsPoint_215 (by decide) ?_
                refine z_callV mlX12_493 dX12_readsPoint_216 (sh_M hE) (av := [_, _]) rfl rfl (Nat.le_of_ble_eq_true rfl) (x_mustT _ hE hB1 1 4 (Or.inl (by decide))) (Nat.le_refl _) (Nat.le_refl _) (Nat.le_refl _) (Nat.le_refl _) ?_
                rintro _ _ ⟨rfl, rfl⟩
                refine z_iload dX12_readsPoint_219 rfl ?_
                refine z_ifz_eq (tgt := 235) dX12_readsPoint_221 rfl (fun h => absurd h198 h) (fun h221 => ?_)
                refine z_aload_n dX12_readsPoint_224 rfl ?_
                refine z_gIv f_wrong rfl flX12_487 dX12_readsPoint_225 (sh_M hE) rfl hw1 ?_
                refine z_if_ne (tgt := 235) dX12_readsPoint_228 rfl (fun h => absurd h (by omega)) (fun h228 => ?_)
                refine z_aload_n dX12_readsPoint_231 rfl ?_
                refine z_callV mlX12_497 dX12_readsPoint_232 (sh_M hE) (av := _) rfl rfl (Nat.le_of_ble_eq_true rfl) (x_reads _ hE hB1 hw1 p1 ht1 (by rw [hn1]; exact kSo_lt hok (by omega))) (Nat.le_refl _) (Nat.le_refl _) (Nat.le_refl _) (Nat.le_refl _) ?_
                rintro _ m2 ⟨rfl, f2, t2⟩
                have hB2 := mB_fr hB1 (zfr_sub f2 (by decide))
                have hK2 : mK m2 = mK m := (mK_fr f2 (by decide)).trans hK1
                have hw2 : m2 aM f_wrong = 0 := (zfr_at f2 (by decide)).trans hw1
                have z2 : zfr fTh m m2 := zfr_tr z1 (zfr_sub f2 (by decide))
                have hn2 : m2 aM f_end = m aM f_end := (zfr_at f2 (by decide)).trans hn1
                have hm2 : ptM m2 := hB2.1
                have ha_c2 : m2 a_c = m a_c := (zfr_cell f2 (by decide)).trans ha_c1
                rw [hK1] at t2
                obtain ⟨p2, e2⟩ : ∃ x, x = kR (mK m) p1 := ⟨_, rfl⟩
                rw [← e2] at t2
                have ht2 := t2
                refine z_aload_n dX12_readsPoint_235 rfl ?_
                refine z_gP 0 rfl (r := a_c) flX12_7 dX12_readsPoint_236 (sh_M hE) rfl (pt_c hm2) (by decide) ?_
                refine z_iload_n dX12_readsPoint_239 rfl ?_
                refine z_iconst dX12_readsPoint_240 (by decide) ?_
                refine z_add dX12_readsPoint_241 (by omega) ?_
                refine z_iload dX12_readsPoint_242 rfl ?_
                refine z_add dX12_readsPoint_244 (by omega) ?_
                refine z_iconst dX12_readsPoint_245 (by decide) ?_
                refine z_iload dX12_readsPoint_246 rfl ?_
                refine z_mul dX12_readsPoint_248 (by omega) ?_
                refine z_iload dX12_readsPoint_249 rfl ?_
                refine z_ifz_eq (tgt := 258) dX12_readsPoint_251 rfl (fun h => absurd h198 h) (fun h251 => ?_)
                refine z_iconst dX12_readsPoint_254 (by decide) ?_
                refine z_goto (tgt := 259) dX12_readsPoint_255 rfl ?_
                refine z_add dX12_readsPoint_259 (by omega) ?_
                refine z_iast dX12_readsPoint_260 (sh_c hE) (by omega) (by omega) ?_
                refine z_inc dX12_readsPoint_261 rfl (by omega) ?_
                refine z_goto (tgt := 121) dX12_readsPoint_264 rfl ?_
                try dsimp only [zs0, zsI, zsP, zsN, zsJ, zsS, zst2, Nat.reduceAdd]
                refine zA_wk [_, _, _, _, _, _, zN, zN] (by exact ⟨Or.inr rfl, Or.inr rfl, Or.inr rfl, Or.inr rfl, Or.inr rfl, Or.inr rfl, Or.inl rfl, Or.inl rfl, trivial⟩) ?_
                have gf : zfr fTh m (zu m2 a_c (b + 3 + n) (2 * (cFld (m a_c) (kW (mK m) p)) + 1)) := zfr_ua z2 (by decide)
                have gK : mK (zu m2 a_c (b + 3 + n) (2 * (cFld (m a_c) (kW (mK m) p)) + 1)) = mK m := mK_fr gf (by decide)
                have gc : zu m2 a_c (b + 3 + n) (2 * (cFld (m a_c) (kW (mK m) p)) + 1) a_c = eU (m a_c) (b + 3 + n) (2 * (cFld (m a_c) (kW (mK m) p)) + 1) := eU_u ha_c2
                refine ih (n + 1) p2 _ (mB_fr hB2 (zfr_ua zfr_rf (by decide))) ((zu_a (by decide)).trans hw2) (mTk_c (zfr_ua zfr_rf (by decide)) ht2) (by rw [gc, eU_o (by omega)]; exact hc0) (by rw [gc, eU_o (by omega)]; exact hc2) (by omega) (by omega) (fun m2 g => hP m2 ?_)
                have eA : pRow (mK m) b o ve no (j + 1) (m a_c) n p = pRow (mK m) b o ve no j (eU (m a_c) (b + 3 + n) (2 * (cFld (m a_c) (kW (mK m) p)) + 1)) (n + 1) p2 := by rw [pRow_s, if_neg (fun h => absurd h.1 (by omega)), if_neg (not_not_intro g1), if_neg (not_not_intro i1), if_neg (not_not_intro (by omega)), ← e1, if_neg (fun h => h.2 h207), zb_t h198, if_pos h198, ← e2]
                rw [gK, gc, ← eA] at g
                exact ⟨zfr_tr gf g.1, g.2.1, g.2.2.1, g.2.2.2.1, fun x hx => (g.2.2.2.2 x hx).trans ((zu_j (by omega)).trans (congrFun ha_c2 x))⟩
      · have hB1 : mB m1 := b1 ▸ mB_bad hB0
        have hw1 : m1 aM f_wrong = 3 := b1 ▸ mBad_w
        have ha1 : m1 aM f_wrongAt = p := b1 ▸ mBad_a
        have z1 : zfr fTh m m1 := b1 ▸ zfr_uj (zfr_uj z0 (by decide)) (by decide)
        have hd1 : 0 < m1 aM f_wrong := by rw [hw1]; first | exact kMis_pos | decide
        have hm1 : ptM m1 := hB1.1
        have ha_c1 : m1 a_c = m a_c := b1 ▸ (zu_fn (by decide)).trans (zu_fn (by decide))
        refine z_istore dX12_readsPoint_145 (Nat.le_of_ble_eq_true rfl) ?_
        refine z_aload_n dX12_readsPoint_147 rfl ?_
        refine z_iload dX12_readsPoint_148 rfl ?_
        refine z_bipush dX12_readsPoint_150 rfl (by decide) ?_
        try dsimp only [zs0, zsI, zsP, zsN, zsJ, zsS, zst2, Nat.reduceAdd]
        refine z_icmp_ge (tgt := 169) dX12_readsPoint_152 rfl (fun h152 => ?_) (fun h152 => ?_)
        · refine z_iconst dX12_readsPoint_169 (by decide) ?_
          refine z_bipush dX12_readsPoint_170 rfl (by decide) ?_
          refine z_callV mlX12_493 dX12_readsPoint_172 (sh_M hE) (av := [_, _]) rfl rfl (Nat.le_of_ble_eq_true rfl) (x_mustT _ hE hB1 _ 6 (Or.inr hd1)) (Nat.le_refl _) (Nat.le_refl _) (Nat.le_refl _) (Nat.le_refl _) ?_
          rintro _ _ ⟨rfl, rfl⟩
          refine z_aload_n dX12_readsPoint_175 rfl ?_
          refine z_gIv f_wrong rfl flX12_487 dX12_readsPoint_176 (sh_M hE) rfl hw1 ?_
          refine z_if_le (tgt := 183) dX12_readsPoint_179 rfl (fun h => absurd h (by omega)) (fun h179 => ?_)
          refine z_vret dX12_readsPoint_182 rfl rfl ?_
          have eA : pRow (mK m) b o ve no (j + 1) (m a_c) n p = (3, p, m a_c, p) := by rw [pRow_s, if_neg (fun h => absurd h.1 (by omega)), if_neg (not_not_intro g1), if_pos i1]
          refine hP _ ?_
          rw [eA]
          exact ⟨z1, hw1, fun _ => ha1, fun h => absurd (show (3 : Int) = 0 from h) (by first | exact kMis_ne | decide), fun x hx => congrFun ha_c1 x⟩
        · refine z_iload dX12_readsPoint_155 rfl ?_
          refine z_iload dX12_readsPoint_157 rfl ?_
          refine z_add dX12_readsPoint_159 (by omega) ?_
          refine z_bipush dX12_readsPoint_160 rfl (by decide) ?_
          refine z_icmp_ge (tgt := 169) dX12_readsPoint_162 rfl (fun h162 => ?_) (fun h162 => ?_)
          · refine z_iconst dX12_readsPoint_169 (by decide) ?_
            refine z_bipush dX12_readsPoint_170 rfl (by decide) ?_
            refine z_callV mlX12_493 dX12_readsPoint_172 (sh_M hE) (av := [_, _]) rfl rfl (Nat.le_of_ble_eq_true rfl) (x_mustT _ hE hB1 _ 6 (Or.inr hd1)) (Nat.le_refl _) (Nat.le_refl _) (Nat.le_refl _) (Nat.le_refl _) ?_
            rintro _ _ ⟨rfl, rfl⟩
            refine z_aload_n dX12_readsPoint_175 rfl ?_
            refine z_gIv f_wrong rfl flX12_487 dX12_readsPoint_176 (sh_M hE) rfl hw1 ?_
            refine z_if_le (tgt := 183) dX12_readsPoint_179 rfl (fun h => absurd h (by omega)) (fun h179 => ?_)
            refine z_vret dX12_readsPoint_182 rfl rfl ?_
            have eA : pRow (mK m) b o ve no (j + 1) (m a_c) n p = (3, p, m a_c, p) := by rw [pRow_s, if_neg (fun h => absurd h.1 (by omega)), if_neg (not_not_intro g1), if_pos i1]
            refine hP _ ?_
            rw [eA]
            exact ⟨z1, hw1, fun _ => ha1, fun h => absurd (show (3 : Int) = 0 from h) (by first | exact kMis_ne | decide), fun x hx => congrFun ha_c1 x⟩
          · refine z_iconst dX12_readsPoint_165 (by decide) ?_
            refine z_goto (tgt := 170) dX12_readsPoint_166 rfl ?_
            refine z_bipush dX12_readsPoint_170 rfl (by decide) ?_
            refine z_callV mlX12_493 dX12_readsPoint_172 (sh_M hE) (av := [_, _]) rfl rfl (Nat.le_of_ble_eq_true rfl) (x_mustT _ hE hB1 _ 6 (Or.inr hd1)) (Nat.le_refl _) (Nat.le_refl _) (Nat.le_refl _) (Nat.le_refl _) ?_
            rintro _ _ ⟨rfl, rfl⟩
            refine z_aload_n dX12_readsPoint_175 rfl ?_
            refine z_gIv f_wrong rfl flX12_487 dX12_readsPoint_176 (sh_M hE) rfl hw1 ?_
            refine z_if_le (tgt := 183) dX12_readsPoint_179 rfl (fun h => absurd h (by omega)) (fun h179 => ?_)
            refine z_vret dX12_readsPoint_182 rfl rfl ?_
            have eA : pRow (mK m) b o ve no (j + 1) (m a_c) n p = (3, p, m a_c, p) := by rw [pRow_s, if_neg (fun h => absurd h.1 (by omega)), if_neg (not_not_intro g1), if_pos i1]
            refine hP _ ?_
            rw [eA]
            exact ⟨z1, hw1, fun _ => ha1, fun h => absurd (show (3 : Int) = 0 from h) (by first | exact kMis_ne | decide), fun x hx => congrFun ha_c1 x⟩
      · have hB1 : mB m1 := b1 ▸ mB_bad hB0
        have hw1 : m1 aM f_wrong = kMis (mK m) p := b1 ▸ mBad_w
        have ha1 : m1 aM f_wrongAt = p := b1 ▸ mBad_a
        have z1 : zfr fTh m m1 := b1 ▸ zfr_uj (zfr_uj z0 (by decide)) (by decide)
        have hd1 : 0 < m1 aM f_wrong := by rw [hw1]; first | exact kMis_pos | decide
        have hm1 : ptM m1 := hB1.1
        have ha_c1 : m1 a_c = m a_c := b1 ▸ (zu_fn (by decide)).trans (zu_fn (by decide))
        refine z_istore dX12_readsPoint_145 (Nat.le_of_ble_eq_true rfl) ?_
        refine z_aload_n dX12_readsPoint_147 rfl ?_
        refine z_iload dX12_readsPoint_148 rfl ?_
        refine z_bipush dX12_readsPoint_150 rfl (by decide) ?_
        try dsimp only [zs0, zsI, zsP, zsN, zsJ, zsS, zst2, Nat.reduceAdd]
        refine z_icmp_ge (tgt := 169) dX12_readsPoint_152 rfl (fun h152 => ?_) (fun h152 => ?_)
        · refine z_iconst dX12_readsPoint_169 (by decide) ?_
          refine z_bipush dX12_readsPoint_170 rfl (by decide) ?_
          refine z_callV mlX12_493 dX12_readsPoint_172 (sh_M hE) (av := [_, _]) rfl rfl (Nat.le_of_ble_eq_true rfl) (x_mustT _ hE hB1 _ 6 (Or.inr hd1)) (Nat.le_refl _) (Nat.le_refl _) (Nat.le_refl _) (Nat.le_refl _) ?_
          rintro _ _ ⟨rfl, rfl⟩
          refine z_aload_n dX12_readsPoint_175 rfl ?_
          refine z_gIv f_wrong rfl flX12_487 dX12_readsPoint_176 (sh_M hE) rfl hw1 ?_
          refine z_if_le (tgt := 183) dX12_readsPoint_179 rfl (fun h => absurd h (by omega)) (fun h179 => ?_)
          refine z_vret dX12_readsPoint_182 rfl rfl ?_
          have eA : pRow (mK m) b o ve no (j + 1) (m a_c) n p = (kMis (mK m) p, p, m a_c, p) := by rw [pRow_s, if_neg (fun h => absurd h.1 (by omega)), if_pos g1]
          refine hP _ ?_
          rw [eA]
          exact ⟨z1, hw1, fun _ => ha1, fun h => absurd (show (kMis (mK m) p : Int) = 0 from h) (by first | exact kMis_ne | decide), fun x hx => congrFun ha_c1 x⟩
        · refine z_iload dX12_readsPoint_155 rfl ?_
          refine z_iload dX12_readsPoint_157 rfl ?_
          refine z_add dX12_readsPoint_159 (by omega) ?_
          refine z_bipush dX12_readsPoint_160 rfl (by decide) ?_
          refine z_icmp_ge (tgt := 169) dX12_readsPoint_162 rfl (fun h162 => ?_) (fun h162 => ?_)
          · refine z_iconst dX12_readsPoint_169 (by decide) ?_
            refine z_bipush dX12_readsPoint_170 rfl (by decide) ?_
            refine z_callV mlX12_493 dX12_readsPoint_172 (sh_M hE) (av := [_, _]) rfl rfl (Nat.le_of_ble_eq_true rfl) (x_mustT _ hE hB1 _ 6 (Or.inr hd1)) (Nat.le_refl _) (Nat.le_refl _) (Nat.le_refl _) (Nat.le_refl _) ?_
            rintro _ _ ⟨rfl, rfl⟩
            refine z_aload_n dX12_readsPoint_175 rfl ?_
            refine z_gIv f_wrong rfl flX12_487 dX12_readsPoint_176 (sh_M hE) rfl hw1 ?_
            refine z_if_le (tgt := 183) dX12_readsPoint_179 rfl (fun h => absurd h (by omega)) (fun h179 => ?_)
            refine z_vret dX12_readsPoint_182 rfl rfl ?_
            have eA : pRow (mK m) b o ve no (j + 1) (m a_c) n p = (kMis (mK m) p, p, m a_c, p) := by rw [pRow_s, if_neg (fun h => absurd h.1 (by omega)), if_pos g1]
            refine hP _ ?_
            rw [eA]
            exact ⟨z1, hw1, fun _ => ha1, fun h => absurd (show (kMis (mK m) p : Int) = 0 from h) (by first | exact kMis_ne | decide), fun x hx => congrFun ha_c1 x⟩
          · refine z_iconst dX12_readsPoint_165 (by decide) ?_
            refine z_goto (tgt := 170) dX12_readsPoint_166 rfl ?_
            refine z_bipush dX12_readsPoint_170 rfl (by decide) ?_
            refine z_callV mlX12_493 dX12_readsPoint_172 (sh_M hE) (av := [_, _]) rfl rfl (Nat.le_of_ble_eq_true rfl) (x_mustT _ hE hB1 _ 6 (Or.inr hd1)) (Nat.le_refl _) (Nat.le_refl _) (Nat.le_refl _) (Nat.le_refl _) ?_
            rintro _ _ ⟨rfl, rfl⟩
            refine z_aload_n dX12_readsPoint_175 rfl ?_
            refine z_gIv f_wrong rfl flX12_487 dX12_readsPoint_176 (sh_M hE) rfl hw1 ?_
            refine z_if_le (tgt := 183) dX12_readsPoint_179 rfl (fun h => absurd h (by omega)) (fun h179 => ?_)
            refine z_vret dX12_readsPoint_182 rfl rfl ?_
            have eA : pRow (mK m) b o ve no (j + 1) (m a_c) n p = (kMis (mK m) p, p, m a_c, p) := by rw [pRow_s, if_neg (fun h => absurd h.1 (by omega)), if_pos g1]
            refine hP _ ?_
            rw [eA]
            exact ⟨z1, hw1, fun _ => ha1, fun h => absurd (show (kMis (mK m) p : Int) = 0 from h) (by first | exact kMis_ne | decide), fun x hx => congrFun ha_c1 x⟩
    · refine z_aload_n dX12_readsPoint_133 rfl ?_
      refine z_gIv f_sort rfl flX12_471 dX12_readsPoint_134 (sh_M hE) rfl ht0.2.2.2.1 ?_
      refine z_iconst dX12_readsPoint_137 (by decide) ?_
      refine z_icmp_ne (tgt := 267) dX12_readsPoint_138 rfl (fun h138 => ?_) (fun h138 => ?_)
      · refine z_aload_n dX12_readsPoint_267 rfl ?_
        refine z_gIv f_wrong rfl flX12_487 dX12_readsPoint_268 (sh_M hE) rfl hw0 ?_
        refine z_if_le (tgt := 275) dX12_readsPoint_271 rfl (fun h271 => ?_) (fun h => absurd (by omega) h)
        refine z_aload_n dX12_readsPoint_275 rfl ?_
        refine z_gP 0 rfl (r := a_c) flX12_7 dX12_readsPoint_276 (sh_M hE) rfl (pt_c hm) (by decide) ?_
        refine z_iload_n dX12_readsPoint_279 rfl ?_
        refine z_iload dX12_readsPoint_280 rfl ?_
        refine z_iast dX12_readsPoint_282 (sh_c hE) (by omega) (by omega) ?_
        refine z_aload_n dX12_readsPoint_283 rfl ?_
        refine z_gP 0 rfl (r := a_c) flX12_7 dX12_readsPoint_284 (sh_M hE) rfl (pt_c (ptM_a hm (by decide))) (by decide) ?_
        refine z_iload_n dX12_readsPoint_287 rfl ?_
        refine z_iconst dX12_readsPoint_288 (by decide) ?_
        refine z_add dX12_readsPoint_289 (by omega) ?_
        refine z_iload_n dX12_readsPoint_290 rfl ?_
        refine z_if_eq (tgt := 298) dX12_readsPoint_291 rfl (fun h291 => ?_) (fun h291 => ?_)
        · refine z_iconst dX12_readsPoint_298 (by decide) ?_
          refine z_iast dX12_readsPoint_299 (sh_c hE) (by omega) (by omega) ?_
          refine z_aload_n dX12_readsPoint_300 rfl ?_
          refine z_gP 0 rfl (r := a_c) flX12_7 dX12_readsPoint_301 (sh_M hE) rfl (pt_c (ptM_a (ptM_a hm (by decide)) (by decide))) (by decide) ?_
          refine z_iload_n dX12_readsPoint_304 rfl ?_
          refine z_iconst dX12_readsPoint_305 (by decide) ?_
          refine z_add dX12_readsPoint_306 (by omega) ?_
          refine z_iload_n dX12_readsPoint_307 rfl ?_
          refine z_if_eq (tgt := 315) dX12_readsPoint_308 rfl (fun h308 => ?_) (fun h308 => ?_)
          · refine z_iconst dX12_readsPoint_315 (by decide) ?_
            refine z_iast dX12_readsPoint_316 (sh_c hE) (by omega) (by omega) ?_
            refine z_aload_n dX12_readsPoint_317 rfl ?_
            refine z_gP 0 rfl (r := a_c) flX12_7 dX12_readsPoint_318 (sh_M hE) rfl (pt_c (ptM_a (ptM_a (ptM_a hm (by decide)) (by decide)) (by decide))) (by decide) ?_
            refine z_iconst dX12_readsPoint_321 (by decide) ?_
            refine z_dup2 dX12_readsPoint_322 rfl rfl ?_
            refine z_ialv dX12_readsPoint_323 (sh_c hE) (by omega) (by omega) ((zu_j (by omega)).trans ((zu_j (by omega)).trans (zu_j (by omega)))) ?_
            refine z_iconst dX12_readsPoint_324 (by decide) ?_
            refine z_add dX12_readsPoint_325 (by omega) ?_
            refine z_iast dX12_readsPoint_326 (sh_c hE) (by omega) (by omega) ?_
            refine z_vret dX12_readsPoint_327 rfl rfl ?_
            have eA : pRow (mK m) b o ve no (j + 1) (m a_c) n p = (0, 0, cAddP (m a_c) b n ve no, p) := by rw [pRow_s, if_pos ⟨h130, h138⟩]
            refine hP _ ?_
            rw [eA]
            rw [show ve = 0 by omega, show no = 0 by omega]
            refine ⟨zfr_ua (zfr_ua (zfr_ua (zfr_ua z0 (by decide)) (by decide)) (by decide)) (by decide), (zu_a (by decide)).trans ((zu_a (by decide)).trans ((zu_a (by decide)).trans ((zu_a (by decide)).trans hw0))), fun h => absurd rfl h, fun _ => ⟨?_, ?_⟩, fun x hx => (zu_j (by omega)).trans ((zu_j (by omega)).trans ((zu_j (by omega)).trans (zu_j (by omega))))⟩
            · exact (cAddP_u (by omega)).symm
            · exact mTk_c (zfr_ua (zfr_ua (zfr_ua (zfr_ua zfr_rf (by decide)) (by decide)) (by decide)) (by decide)) ht0
          · refine z_iconst dX12_readsPoint_311 (by decide) ?_
            refine z_goto (tgt := 316) dX12_readsPoint_312 rfl ?_
            refine z_iast dX12_readsPoint_316 (sh_c hE) (by omega) (by omega) ?_
            refine z_aload_n dX12_readsPoint_317 rfl ?_
            refine z_gP 0 rfl (r := a_c) flX12_7 dX12_readsPoint_318 (sh_M hE) rfl (pt_c (ptM_a (ptM_a (ptM_a hm (by decide)) (by decide)) (by decide))) (by decide) ?_
            refine z_iconst dX12_readsPoint_321 (by decide) ?_
            refine z_dup2 dX12_readsPoint_322 rfl rfl ?_
            refine z_ialv dX12_readsPoint_323 (sh_c hE) (by omega) (by omega) ((zu_j (by omega)).trans ((zu_j (by omega)).trans (zu_j (by omega)))) ?_
            refine z_iconst dX12_readsPoint_324 (by decide) ?_
            refine z_add dX12_readsPoint_325 (by omega) ?_
            refine z_iast dX12_readsPoint_326 (sh_c hE) (by omega) (by omega) ?_
            refine z_vret dX12_readsPoint_327 rfl rfl ?_
            have eA : pRow (mK m) b o ve no (j + 1) (m a_c) n p = (0, 0, cAddP (m a_c) b n ve no, p) := by rw [pRow_s, if_pos ⟨h130, h138⟩]
            refine hP _ ?_
            rw [eA]
            rw [show ve = 0 by omega, show no = 1 by omega]
            refine ⟨zfr_ua (zfr_ua (zfr_ua (zfr_ua z0 (by decide)) (by decide)) (by decide)) (by decide), (zu_a (by decide)).trans ((zu_a (by decide)).trans ((zu_a (by decide)).trans ((zu_a (by decide)).trans hw0))), fun h => absurd rfl h, fun _ => ⟨?_, ?_⟩, fun x hx => (zu_j (by omega)).trans ((zu_j (by omega)).trans ((zu_j (by omega)).trans (zu_j (by omega))))⟩
            · exact (cAddP_u (by omega)).symm
            · exact mTk_c (zfr_ua (zfr_ua (zfr_ua (zfr_ua zfr_rf (by decide)) (by decide)) (by decide)) (by decide)) ht0
        · refine z_iconst dX12_readsPoint_294 (by decide) ?_
          refine z_goto (tgt := 299) dX12_readsPoint_295 rfl ?_
          refine z_iast dX12_readsPoint_299 (sh_c hE) (by omega) (by omega) ?_
          refine z_aload_n dX12_readsPoint_300 rfl ?_
          refine z_gP 0 rfl (r := a_c) flX12_7 dX12_readsPoint_301 (sh_M hE) rfl (pt_c (ptM_a (ptM_a hm (by decide)) (by decide))) (by decide) ?_
          refine z_iload_n dX12_readsPoint_304 rfl ?_
          refine z_iconst dX12_readsPoint_305 (by decide) ?_
          refine z_add dX12_readsPoint_306 (by omega) ?_
          refine z_iload_n dX12_readsPoint_307 rfl ?_
          refine z_if_eq (tgt := 315) dX12_readsPoint_308 rfl (fun h308 => ?_) (fun h308 => ?_)
          · refine z_iconst dX12_readsPoint_315 (by decide) ?_
            refine z_iast dX12_readsPoint_316 (sh_c hE) (by omega) (by omega) ?_
            refine z_aload_n dX12_readsPoint_317 rfl ?_
            refine z_gP 0 rfl (r := a_c) flX12_7 dX12_readsPoint_318 (sh_M hE) rfl (pt_c (ptM_a (ptM_a (ptM_a hm (by decide)) (by decide)) (by decide))) (by decide) ?_
            refine z_iconst dX12_readsPoint_321 (by decide) ?_
            refine z_dup2 dX12_readsPoint_322 rfl rfl ?_
            refine z_ialv dX12_readsPoint_323 (sh_c hE) (by omega) (by omega) ((zu_j (by omega)).trans ((zu_j (by omega)).trans (zu_j (by omega)))) ?_
            refine z_iconst dX12_readsPoint_324 (by decide) ?_
            refine z_add dX12_readsPoint_325 (by omega) ?_
            refine z_iast dX12_readsPoint_326 (sh_c hE) (by omega) (by omega) ?_
            refine z_vret dX12_readsPoint_327 rfl rfl ?_
            have eA : pRow (mK m) b o ve no (j + 1) (m a_c) n p = (0, 0, cAddP (m a_c) b n ve no, p) := by rw [pRow_s, if_pos ⟨h130, h138⟩]
            refine hP _ ?_
            rw [eA]
            rw [show ve = 1 by omega, show no = 0 by omega]
            refine ⟨zfr_ua (zfr_ua (zfr_ua (zfr_ua z0 (by decide)) (by decide)) (by decide)) (by decide), (zu_a (by decide)).trans ((zu_a (by decide)).trans ((zu_a (by decide)).trans ((zu_a (by decide)).trans hw0))), fun h => absurd rfl h, fun _ => ⟨?_, ?_⟩, fun x hx => (zu_j (by omega)).trans ((zu_j (by omega)).trans ((zu_j (by omega)).trans (zu_j (by omega))))⟩
            · exact (cAddP_u (by omega)).symm
            · exact mTk_c (zfr_ua (zfr_ua (zfr_ua (zfr_ua zfr_rf (by decide)) (by decide)) (by decide)) (by decide)) ht0
          · refine z_iconst dX12_readsPoint_311 (by decide) ?_
            refine z_goto (tgt := 316) dX12_readsPoint_312 rfl ?_
            refine z_iast dX12_readsPoint_316 (sh_c hE) (by omega) (by omega) ?_
            refine z_aload_n dX12_readsPoint_317 rfl ?_
            refine z_gP 0 rfl (r := a_c) flX12_7 dX12_readsPoint_318 (sh_M hE) rfl (pt_c (ptM_a (ptM_a (ptM_a hm (by decide)) (by decide)) (by decide))) (by decide) ?_
            refine z_iconst dX12_readsPoint_321 (by decide) ?_
            refine z_dup2 dX12_readsPoint_322 rfl rfl ?_
            refine z_ialv dX12_readsPoint_323 (sh_c hE) (by omega) (by omega) ((zu_j (by omega)).trans ((zu_j (by omega)).trans (zu_j (by omega)))) ?_
            refine z_iconst dX12_readsPoint_324 (by decide) ?_
            refine z_add dX12_readsPoint_325 (by omega) ?_
            refine z_iast dX12_readsPoint_326 (sh_c hE) (by omega) (by omega) ?_
            refine z_vret dX12_readsPoint_327 rfl rfl ?_
            have eA : pRow (mK m) b o ve no (j + 1) (m a_c) n p = (0, 0, cAddP (m a_c) b n ve no, p) := by rw [pRow_s, if_pos ⟨h130, h138⟩]
            refine hP _ ?_
            rw [eA]
            rw [show ve = 1 by omega, show no = 1 by omega]
            refine ⟨zfr_ua (zfr_ua (zfr_ua (zfr_ua z0 (by decide)) (by decide)) (by decide)) (by decide), (zu_a (by decide)).trans ((zu_a (by decide)).trans ((zu_a (by decide)).trans ((zu_a (by decide)).trans hw0))), fun h => absurd rfl h, fun _ => ⟨?_, ?_⟩, fun x hx => (zu_j (by omega)).trans ((zu_j (by omega)).trans ((zu_j (by omega)).trans (zu_j (by omega))))⟩
            · exact (cAddP_u (by omega)).symm
            · exact mTk_c (zfr_ua (zfr_ua (zfr_ua (zfr_ua zfr_rf (by decide)) (by decide)) (by decide)) (by decide)) ht0
      · refine z_aload_n dX12_readsPoint_141 rfl ?_
        refine z_callV mlX12_510 dX12_readsPoint_142 (sh_M hE) (av := _) rfl rfl (Nat.le_of_ble_eq_true rfl) (by have h := v_fieldTold (d + 1) hE hB0 hw0 p ht0 (by rw [ha_c0]; exact hc0); rw [hK0, ha_c0] at h; exact h) (Nat.le_refl _) (Nat.le_refl _) (Nat.le_refl _) (Nat.le_refl _) ?_
        rintro _ m1 (⟨g1, i1, rfl, rfl⟩ | ⟨g1, i1, rfl, b1⟩ | ⟨g1, rfl, b1⟩)
        · obtain ⟨j1, l1⟩ := cFld_rg hc0 i1
          refine z_istore dX12_readsPoint_145 (Nat.le_of_ble_eq_true rfl) ?_
          refine z_aload_n dX12_readsPoint_147 rfl ?_
          refine z_iload dX12_readsPoint_148 rfl ?_
          refine z_bipush dX12_readsPoint_150 rfl (by decide) ?_
          try dsimp only [zs0, zsI, zsP, zsN, zsJ, zsS, zst2, Nat.reduceAdd]
          refine z_icmp_ge (tgt := 169) dX12_readsPoint_152 rfl (fun h152 => ?_) (fun h152 => ?_)
          · refine z_iconst dX12_readsPoint_169 (by decide) ?_
            refine z_bipush dX12_readsPoint_170 rfl (by decide) ?_
            refine z_callV mlX12_493 dX12_readsPoint_172 (sh_M hE) (av := [_, _]) rfl rfl (Nat.le_of_ble_eq_true rfl) (x_mustK _ hE hB0 hw0 p ht0 6 (by decide)) (Nat.le_refl _) (Nat.le_refl _) (Nat.le_refl _) (Nat.le_refl _) ?_
            rintro _ m1 ⟨rfl, b1⟩
            have hB1 : mB m1 := b1 ▸ mB_bad hB0
            have hw1 : m1 aM f_wrong = 6 := b1 ▸ mBad_w
            have ha1 : m1 aM f_wrongAt = p := b1 ▸ mBad_a
            have z1 : zfr fTh m m1 := b1 ▸ zfr_uj (zfr_uj z0 (by decide)) (by decide)
            have hd1 : 0 < m1 aM f_wrong := by rw [hw1]; first | exact kMis_pos | decide
            have hm1 : ptM m1 := hB1.1
            have ha_c1 : m1 a_c = m a_c := b1 ▸ (zu_fn (by decide)).trans (zu_fn (by decide))
            refine z_aload_n dX12_readsPoint_175 rfl ?_
            refine z_gIv f_wrong rfl flX12_487 dX12_readsPoint_176 (sh_M hE) rfl hw1 ?_
            refine z_if_le (tgt := 183) dX12_readsPoint_179 rfl (fun h => absurd h (by omega)) (fun h179 => ?_)
            refine z_vret dX12_readsPoint_182 rfl rfl ?_
            have eA : pRow (mK m) b o ve no (j + 1) (m a_c) n p = (6, p, m a_c, p) := by rw [pRow_s, if_neg (fun h => h.2 (Decidable.not_not.mp h138)), if_neg (not_not_intro g1), if_neg (not_not_intro i1), if_pos (by omega)]
            refine hP _ ?_
            rw [eA]
            exact ⟨z1, hw1, fun _ => ha1, fun h => absurd (show (6 : Int) = 0 from h) (by first | exact kMis_ne | decide), fun x hx => congrFun ha_c1 x⟩
          · refine z_iload dX12_readsPoint_155 rfl ?_
            refine z_iload dX12_readsPoint_157 rfl ?_
            refine z_add dX12_readsPoint_159 (by omega) ?_
            refine z_bipush dX12_readsPoint_160 rfl (by decide) ?_
            refine z_icmp_ge (tgt := 169) dX12_readsPoint_162 rfl (fun h162 => ?_) (fun h162 => ?_)
            · refine z_iconst dX12_readsPoint_169 (by decide) ?_
              refine z_bipush dX12_readsPoint_170 rfl (by decide) ?_
              refine z_callV mlX12_493 dX12_readsPoint_172 (sh_M hE) (av := [_, _]) rfl rfl (Nat.le_of_ble_eq_true rfl) (x_mustK _ hE hB0 hw0 p ht0 6 (by decide)) (Nat.le_refl _) (Nat.le_refl _) (Nat.le_refl _) (Nat.le_refl _) ?_
              rintro _ m1 ⟨rfl, b1⟩
              have hB1 : mB m1 := b1 ▸ mB_bad hB0
              have hw1 : m1 aM f_wrong = 6 := b1 ▸ mBad_w
              have ha1 : m1 aM f_wrongAt = p := b1 ▸ mBad_a
              have z1 : zfr fTh m m1 := b1 ▸ zfr_uj (zfr_uj z0 (by decide)) (by decide)
              have hd1 : 0 < m1 aM f_wrong := by rw [hw1]; first | exact kMis_pos | decide
              have hm1 : ptM m1 := hB1.1
              have ha_c1 : m1 a_c = m a_c := b1 ▸ (zu_fn (by decide)).trans (zu_fn (by decide))
              refine z_aload_n dX12_readsPoint_175 rfl ?_
              refine z_gIv f_wrong rfl flX12_487 dX12_readsPoint_176 (sh_M hE) rfl hw1 ?_
              refine z_if_le (tgt := 183) dX12_readsPoint_179 rfl (fun h => absurd h (by omega)) (fun h179 => ?_)
              refine z_vret dX12_readsPoint_182 rfl rfl ?_
              have eA : pRow (mK m) b o ve no (j + 1) (m a_c) n p = (6, p, m a_c, p) := by rw [pRow_s, if_neg (fun h => h.2 (Decidable.not_not.mp h138)), if_neg (not_not_intro g1), if_neg (not_not_intro i1), if_pos (by omega)]
              refine hP _ ?_
              rw [eA]
              exact ⟨z1, hw1, fun _ => ha1, fun h => absurd (show (6 : Int) = 0 from h) (by first | exact kMis_ne | decide), fun x hx => congrFun ha_c1 x⟩
            · refine z_iconst dX12_readsPoint_165 (by decide) ?_
              refine z_goto (tgt := 170) dX12_readsPoint_166 rfl ?_
              refine z_bipush dX12_readsPoint_170 rfl (by decide) ?_
              refine z_callV mlX12_493 dX12_readsPoint_172 (sh_M hE) (av := [_, _]) rfl rfl (Nat.le_of_ble_eq_true rfl) (x_mustT _ hE hB0 1 6 (Or.inl (by decide))) (Nat.le_refl _) (Nat.le_refl _) (Nat.le_refl _) (Nat.le_refl _) ?_
              rintro _ _ ⟨rfl, rfl⟩
              refine z_aload_n dX12_readsPoint_175 rfl ?_
              refine z_gIv f_wrong rfl flX12_487 dX12_readsPoint_176 (sh_M hE) rfl hw0 ?_
              refine z_if_le (tgt := 183) dX12_readsPoint_179 rfl (fun h179 => ?_) (fun h => absurd (by omega) h)
              refine z_aload_n dX12_readsPoint_183 rfl ?_
              refine z_callV mlX12_497 dX12_readsPoint_184 (sh_M hE) (av := _) rfl rfl (Nat.le_of_ble_eq_true rfl) (x_reads _ hE hB0 hw0 p ht0 (by rw [hn0]; exact kSo_lt hok (by rw [g1.1]; decide))) (Nat.le_refl _) (Nat.le_refl _) (Nat.le_refl _) (Nat.le_refl _) ?_
              rintro _ m1 ⟨rfl, f1, t1⟩
              have hB1 := mB_fr hB0 (zfr_sub f1 (by decide))
              have hK1 : mK m1 = mK m := (mK_fr f1 (by decide)).trans hK0
              have hw1 : m1 aM f_wrong = 0 := (zfr_at f1 (by decide)).trans hw0
              have z1 : zfr fTh m m1 := zfr_tr z0 (zfr_sub f1 (by decide))
              have hn1 : m1 aM f_end = m aM f_end := (zfr_at f1 (by decide)).trans hn0
              have hm1 : ptM m1 := hB1.1
              have ha_c1 : m1 a_c = m a_c := (zfr_cell f1 (by decide)).trans ha_c0
              rw [hK0] at t1
              obtain ⟨p1, e1⟩ : ∃ x, x = kR (mK m) p := ⟨_, rfl⟩
              rw [← e1] at t1
              have ht1 := t1
              refine z_aload_n dX12_readsPoint_187 rfl ?_
              refine z_bipush dX12_readsPoint_188 rfl (by decide) ?_
              refine z_callV mlX12_520 dX12_readsPoint_190 (sh_M hE) (av := [_]) rfl rfl (Nat.le_of_ble_eq_true rfl) (by have h := x_isSign (d + 3) hE hB1 hw1 p1 ht1 39 (by decide) (by decide); rw [hK1] at h; exact h) (Nat.le_refl _) (Nat.le_refl _) (Nat.le_refl _) (Nat.le_refl _) ?_
              rintro _ _ ⟨rfl, rfl⟩
              refine z_istore dX12_readsPoint_193 (Nat.le_of_ble_eq_true rfl) ?_
              refine z_aload_n dX12_readsPoint_195 rfl ?_
              refine z_iload dX12_readsPoint_196 rfl ?_
              try dsimp only [zs0, zsI, zsP, zsN, zsJ, zsS, zst2, Nat.reduceAdd]
              refine z_ifz_eq (tgt := 210) dX12_readsPoint_198 rfl (fun h198 => ?_) (fun h198 => ?_)
              · refine z_iconst dX12_readsPoint_210 (by decide) ?_
                refine z_goto (tgt := 215) dX12_readsPoint_211 rfl ?_
                refine z_iconst dX12_readsPoint_215 (by decide) ?_
                refine z_callV mlX12_493 dX12_readsPoint_216 (sh_M hE) (av := [_, _]) rfl rfl (Nat.le_of_ble_eq_true rfl) (x_mustT _ hE hB1 1 4 (Or.inl (by decide))) (Nat.le_refl _) (Nat.le_refl _) (Nat.le_refl _) (Nat.le_refl _) ?_
                rintro _ _ ⟨rfl, rfl⟩
                refine z_iload dX12_readsPoint_219 rfl ?_
                refine z_ifz_eq (tgt := 235) dX12_readsPoint_221 rfl (fun h221 => ?_) (fun h => absurd h h198)
                refine z_aload_n dX12_readsPoint_235 rfl ?_
                refine z_gP 0 rfl (r := a_c) flX12_7 dX12_readsPoint_236 (sh_M hE) rfl (pt_c hm1) (by decide) ?_
                refine z_iload_n dX12_readsPoint_239 rfl ?_
                refine z_iconst dX12_readsPoint_240 (by decide) ?_
                refine z_add dX12_readsPoint_241 (by omega) ?_
                refine z_iload dX12_readsPoint_242 rfl ?_
                refine z_add dX12_readsPoint_244 (by omega) ?_
                refine z_iconst dX12_readsPoint_245 (by decide) ?_
                refine z_iload dX12_readsPoint_246 rfl ?_
                refine z_mul dX12_readsPoint_248 (by omega) ?_
                refine z_iload dX12_readsPoint_249 rfl ?_
                refine z_ifz_eq (tgt := 258) dX12_readsPoint_251 rfl (fun h251 => ?_) (fun h => absurd h h198)
                refine z_iconst dX12_readsPoint_258 (by decide) ?_
                refine z_add dX12_readsPoint_259 (by omega) ?_
                refine z_iast dX12_readsPoint_260 (sh_c hE) (by omega) (by omega) ?_
                refine z_inc dX12_readsPoint_261 rfl (by omega) ?_
                refine z_goto (tgt := 121) dX12_readsPoint_264 rfl ?_
                try dsimp only [zs0, zsI, zsP, zsN, zsJ, zsS, zst2, Nat.reduceAdd]
                refine zA_wk [_, _, _, _, _, _, zN, zN] (by exact ⟨Or.inr rfl, Or.inr rfl, Or.inr rfl, Or.inr rfl, Or.inr rfl, Or.inr rfl, Or.inl rfl, Or.inl rfl, trivial⟩) ?_
                have gf : zfr fTh m (zu m1 a_c (b + 3 + n) (2 * (cFld (m a_c) (kW (mK m) p)) + 0)) := zfr_ua z1 (by decide)
                have gK : mK (zu m1 a_c (b + 3 + n) (2 * (cFld (m a_c) (kW (mK m) p)) + 0)) = mK m := mK_fr gf (by decide)
                have gc : zu m1 a_c (b + 3 + n) (2 * (cFld (m a_c) (kW (mK m) p)) + 0) a_c = eU (m a_c) (b + 3 + n) (2 * (cFld (m a_c) (kW (mK m) p)) + 0) := eU_u ha_c1
                refine ih (n + 1) p1 _ (mB_fr hB1 (zfr_ua zfr_rf (by decide))) ((zu_a (by decide)).trans hw1) (mTk_c (zfr_ua zfr_rf (by decide)) ht1) (by rw [gc, eU_o (by omega)]; exact hc0) (by rw [gc, eU_o (by omega)]; exact hc2) (by omega) (by omega) (fun m2 g => hP m2 ?_)
                have eA : pRow (mK m) b o ve no (j + 1) (m a_c) n p = pRow (mK m) b o ve no j (eU (m a_c) (b + 3 + n) (2 * (cFld (m a_c) (kW (mK m) p)) + 0)) (n + 1) p1 := by rw [pRow_s, if_neg (fun h => h.2 (Decidable.not_not.mp h138)), if_neg (not_not_intro g1), if_neg (not_not_intro i1), if_neg (not_not_intro (by omega)), ← e1, if_neg (fun h => h198 h.1), zb_f h198, if_neg h198]
                rw [gK, gc, ← eA] at g
                exact ⟨zfr_tr gf g.1, g.2.1, g.2.2.1, g.2.2.2.1, fun x hx => (g.2.2.2.2 x hx).trans ((zu_j (by omega)).trans (congrFun ha_c1 x))⟩
              · refine z_aload_n dX12_readsPoint_201 rfl ?_
                refine z_iload dX12_readsPoint_202 rfl ?_
                refine z_callV mlX12_148 dX12_readsPoint_204 (sh_M hE) (av := [_]) rfl rfl (Nat.le_of_ble_eq_true rfl) (by have h := r_isPair (d + 3) hE hm1 (cFld (m a_c) (kW (mK m) p)) (by omega) (by omega); rw [ha_c1] at h; exact h) (Nat.le_refl _) (Nat.le_refl _) (Nat.le_refl _) (Nat.le_refl _) ?_
                rintro _ _ ⟨rfl, rfl⟩
                refine z_ifz_eq (tgt := 214) dX12_readsPoint_207 rfl (fun h207 => ?_) (fun h207 => ?_)
                · refine z_iconst dX12_readsPoint_214 (by decide) ?_
                  refine z_iconst dX12_readsPoint_215 (by decide) ?_
                  refine z_callV mlX12_493 dX12_readsPoint_216 (sh_M hE) (av := [_, _]) rfl rfl (Nat.le_of_ble_eq_true rfl) (x_mustK _ hE hB1 hw1 p1 ht1 4 (by decide)) (Nat.le_refl _) (Nat.le_refl _) (Nat.le_refl _) (Nat.le_refl _) ?_
                  rintro _ m2 ⟨rfl, b2⟩
                  have hB2 : mB m2 := b2 ▸ mB_bad hB1
                  have hw2 : m2 aM f_wrong = 4 := b2 ▸ mBad_w
                  have ha2 : m2 aM f_wrongAt = p1 := b2 ▸ mBad_a
                  have z2 : zfr fTh m m2 := b2 ▸ zfr_uj (zfr_uj z1 (by decide)) (by decide)
                  have hd2 : 0 < m2 aM f_wrong := by rw [hw2]; first | exact kMis_pos | decide
                  have hm2 : ptM m2 := hB2.1
                  have ha_c2 : m2 a_c = m a_c := (b2 ▸ (zu_fn (by decide)).trans (zu_fn (by decide)) : m2 a_c = m1 a_c).trans ha_c1
                  refine z_iload dX12_readsPoint_219 rfl ?_
                  refine z_ifz_eq (tgt := 235) dX12_readsPoint_221 rfl (fun h => absurd h198 h) (fun h221 => ?_)
                  refine z_aload_n dX12_readsPoint_224 rfl ?_
                  refine z_gIv f_wrong rfl flX12_487 dX12_readsPoint_225 (sh_M hE) rfl hw2 ?_
                  refine z_if_ne (tgt := 235) dX12_readsPoint_228 rfl (fun h228 => ?_) (fun h => absurd (by omega) h)
                  refine z_aload_n dX12_readsPoint_235 rfl ?_
                  refine z_gP 0 rfl (r := a_c) flX12_7 dX12_readsPoint_236 (sh_M hE) rfl (pt_c hm2) (by decide) ?_
                  refine z_iload_n dX12_readsPoint_239 rfl ?_
                  refine z_iconst dX12_readsPoint_240 (by decide) ?_
                  refine z_add dX12_readsPoint_241 (by omega) ?_
                  refine z_iload dX12_readsPoint_242 rfl ?_
                  refine z_add dX12_readsPoint_244 (by omega) ?_
                  refine z_iconst dX12_readsPoint_245 (by decide) ?_
                  refine z_iload dX12_readsPoint_246 rfl ?_
                  refine z_mul dX12_readsPoint_248 (by omega) ?_
                  refine z_iload dX12_readsPoint_249 rfl ?_
                  refine z_ifz_eq (tgt := 258) dX12_readsPoint_251 rfl (fun h => absurd h198 h) (fun h251 => ?_)
                  refine z_iconst dX12_readsPoint_254 (by decide) ?_
                  refine z_goto (tgt := 259) dX12_readsPoint_255 rfl ?_
                  refine z_add dX12_readsPoint_259 (by omega) ?_
                  refine z_iast dX12_readsPoint_260 (sh_c hE) (by omega) (by omega) ?_
                  refine z_inc dX12_readsPoint_261 rfl (by omega) ?_
                  refine z_goto (tgt := 121) dX12_readsPoint_264 rfl ?_
                  try dsimp only [zs0, zsI, zsP, zsN, zsJ, zsS, zst2, Nat.reduceAdd]
                  refine z_aload_n dX12_readsPoint_121 rfl ?_
                  refine z_gIv f_wrong rfl flX12_487 dX12_readsPoint_122 (sh_M hE) rfl ((zu_a (by decide)).trans hw2) ?_
                  refine z_if_ne (tgt := 267) dX12_readsPoint_125 rfl (fun h125 => ?_) (fun h => absurd (by omega) h)
                  refine z_aload_n dX12_readsPoint_267 rfl ?_
                  refine z_gIv f_wrong rfl flX12_487 dX12_readsPoint_268 (sh_M hE) rfl ((zu_a (by decide)).trans hw2) ?_
                  refine z_if_le (tgt := 275) dX12_readsPoint_271 rfl (fun h => absurd h (by omega)) (fun h271 => ?_)
                  refine z_vret dX12_readsPoint_274 rfl rfl ?_
                  have eA : pRow (mK m) b o ve no (j + 1) (m a_c) n p = (4, p1, m a_c, p) := by rw [pRow_s, if_neg (fun h => h.2 (Decidable.not_not.mp h138)), if_neg (not_not_intro g1), if_neg (not_not_intro i1), if_neg (not_not_intro (by omega)), ← e1, if_pos ⟨h198, h207⟩]
                  refine hP _ ?_
                  rw [eA]
                  exact ⟨(zfr_ua z2 (by decide)), (zu_a (by decide)).trans hw2, fun _ => (zu_a (by decide)).trans ha2, fun h => absurd (show (4 : Int) = 0 from h) (by first | exact kMis_ne | decide), fun x hx => (zu_j (by omega)).trans (congrFun ha_c2 x)⟩
                · refine z_iconst dX12_readsPoint_210 (by decide) ?_
                  refine z_goto (tgt := 215) dX12_readsPoint_211 rfl ?_
                  refine z_iconst dX12_readsPoint_215 (by decide) ?_
                  refine z_callV mlX12_493 dX12_readsPoint_216 (sh_M hE) (av := [_, _]) rfl rfl (Nat.le_of_ble_eq_true rfl) (x_mustT _ hE hB1 1 4 (Or.inl (by decide))) (Nat.le_refl _) (Nat.le_refl _) (Nat.le_refl _) (Nat.le_refl _) ?_
                  rintro _ _ ⟨rfl, rfl⟩
                  refine z_iload dX12_readsPoint_219 rfl ?_
                  refine z_ifz_eq (tgt := 235) dX12_readsPoint_221 rfl (fun h => absurd h198 h) (fun h221 => ?_)
                  refine z_aload_n dX12_readsPoint_224 rfl ?_
                  refine z_gIv f_wrong rfl flX12_487 dX12_readsPoint_225 (sh_M hE) rfl hw1 ?_
                  refine z_if_ne (tgt := 235) dX12_readsPoint_228 rfl (fun h => absurd h (by omega)) (fun h228 => ?_)
                  refine z_aload_n dX12_readsPoint_231 rfl ?_
                  refine z_callV mlX12_497 dX12_readsPoint_232 (sh_M hE) (av := _) rfl rfl (Nat.le_of_ble_eq_true rfl) (x_reads _ hE hB1 hw1 p1 ht1 (by rw [hn1]; exact kSo_lt hok (by omega))) (Nat.le_refl _) (Nat.le_refl _) (Nat.le_refl _) (Nat.le_refl _) ?_
                  rintro _ m2 ⟨rfl, f2, t2⟩
                  have hB2 := mB_fr hB1 (zfr_sub f2 (by decide))
                  have hK2 : mK m2 = mK m := (mK_fr f2 (by decide)).trans hK1
                  have hw2 : m2 aM f_wrong = 0 := (zfr_at f2 (by decide)).trans hw1
                  have z2 : zfr fTh m m2 := zfr_tr z1 (zfr_sub f2 (by decide))
                  have hn2 : m2 aM f_end = m aM f_end := (zfr_at f2 (by decide)).trans hn1
                  have hm2 : ptM m2 := hB2.1
                  have ha_c2 : m2 a_c = m a_c := (zfr_cell f2 (by decide)).trans ha_c1
                  rw [hK1] at t2
                  obtain ⟨p2, e2⟩ : ∃ x, x = kR (mK m) p1 := ⟨_, rfl⟩
                  rw [← e2] at t2
                  have ht2 := t2
                  refine z_aload_n dX12_readsPoint_235 rfl ?_
                  refine z_gP 0 rfl (r := a_c) flX12_7 dX12_readsPoint_236 (sh_M hE) rfl (pt_c hm2) (by decide) ?_
                  refine z_iload_n dX12_readsPoint_239 rfl ?_
                  refine z_iconst dX12_readsPoint_240 (by decide) ?_
                  refine z_add dX12_readsPoint_241 (by omega) ?_
                  refine z_iload dX12_readsPoint_242 rfl ?_
                  refine z_add dX12_readsPoint_244 (by omega) ?_
                  refine z_iconst dX12_readsPoint_245 (by decide) ?_
                  refine z_iload dX12_readsPoint_246 rfl ?_
                  refine z_mul dX12_readsPoint_248 (by omega) ?_
                  refine z_iload dX12_readsPoint_249 rfl ?_
                  refine z_ifz_eq (tgt := 258) dX12_readsPoint_251 rfl (fun h => absurd h198 h) (fun h251 => ?_)
                  refine z_iconst dX12_readsPoint_254 (by decide) ?_
                  refine z_goto (tgt := 259) dX12_readsPoint_255 rfl ?_
                  refine z_add dX12_readsPoint_259 (by omega) ?_
                  refine z_iast dX12_readsPoint_260 (sh_c hE) (by omega) (by omega) ?_
                  refine z_inc dX12_readsPoint_261 rfl (by omega) ?_
                  refine z_goto (tgt := 121) dX12_readsPoint_264 rfl ?_
                  try dsimp only [zs0, zsI, zsP, zsN, zsJ, zsS, zst2, Nat.reduceAdd]
                  refine zA_wk [_, _, _, _, _, _, zN, zN] (by exact ⟨Or.inr rfl, Or.inr rfl, Or.inr rfl, Or.inr rfl, Or.inr rfl, Or.inr rfl, Or.inl rfl, Or.inl rfl, trivial⟩) ?_
                  have gf : zfr fTh m (zu m2 a_c (b + 3 + n) (2 * (cFld (m a_c) (kW (mK m) p)) + 1)) := zfr_ua z2 (by decide)
                  have gK : mK (zu m2 a_c (b + 3 + n) (2 * (cFld (m a_c) (kW (mK m) p)) + 1)) = mK m := mK_fr gf (by decide)
                  have gc : zu m2 a_c (b + 3 + n) (2 * (cFld (m a_c) (kW (mK m) p)) + 1) a_c = eU (m a_c) (b + 3 + n) (2 * (cFld (m a_c) (kW (mK m) p)) + 1) := eU_u ha_c2
                  refine ih (n + 1) p2 _ (mB_fr hB2 (zfr_ua zfr_rf (by decide))) ((zu_a (by decide)).trans hw2) (mTk_c (zfr_ua zfr_rf (by decide)) ht2) (by rw [gc, eU_o (by omega)]; exact hc0) (by rw [gc, eU_o (by omega)]; exact hc2) (by omega) (by omega) (fun m2 g => hP m2 ?_)
                  have eA : pRow (mK m) b o ve no (j + 1) (m a_c) n p = pRow (mK m) b o ve no j (eU (m a_c) (b + 3 + n) (2 * (cFld (m a_c) (kW (mK m) p)) + 1)) (n + 1) p2 := by rw [pRow_s, if_neg (fun h => h.2 (Decidable.not_not.mp h138)), if_neg (not_not_intro g1), if_neg (not_not_intro i1), if_neg (not_not_intro (by omega)), ← e1, if_neg (fun h => h.2 h207), zb_t h198, if_pos h198, ← e2]
                  rw [gK, gc, ← eA] at g
                  exact ⟨zfr_tr gf g.1, g.2.1, g.2.2.1, g.2.2.2.1, fun x hx => (g.2.2.2.2 x hx).trans ((zu_j (by omega)).trans (congrFun ha_c2 x))⟩
        · have hB1 : mB m1 := b1 ▸ mB_bad hB0
          have hw1 : m1 aM f_wrong = 3 := b1 ▸ mBad_w
          have ha1 : m1 aM f_wrongAt = p := b1 ▸ mBad_a
          have z1 : zfr fTh m m1 := b1 ▸ zfr_uj (zfr_uj z0 (by decide)) (by decide)
          have hd1 : 0 < m1 aM f_wrong := by rw [hw1]; first | exact kMis_pos | decide
          have hm1 : ptM m1 := hB1.1
          have ha_c1 : m1 a_c = m a_c := b1 ▸ (zu_fn (by decide)).trans (zu_fn (by decide))
          refine z_istore dX12_readsPoint_145 (Nat.le_of_ble_eq_true rfl) ?_
          refine z_aload_n dX12_readsPoint_147 rfl ?_
          refine z_iload dX12_readsPoint_148 rfl ?_
          refine z_bipush dX12_readsPoint_150 rfl (by decide) ?_
          try dsimp only [zs0, zsI, zsP, zsN, zsJ, zsS, zst2, Nat.reduceAdd]
          refine z_icmp_ge (tgt := 169) dX12_readsPoint_152 rfl (fun h152 => ?_) (fun h152 => ?_)
          · refine z_iconst dX12_readsPoint_169 (by decide) ?_
            refine z_bipush dX12_readsPoint_170 rfl (by decide) ?_
            refine z_callV mlX12_493 dX12_readsPoint_172 (sh_M hE) (av := [_, _]) rfl rfl (Nat.le_of_ble_eq_true rfl) (x_mustT _ hE hB1 _ 6 (Or.inr hd1)) (Nat.le_refl _) (Nat.le_refl _) (Nat.le_refl _) (Nat.le_refl _) ?_
            rintro _ _ ⟨rfl, rfl⟩
            refine z_aload_n dX12_readsPoint_175 rfl ?_
            refine z_gIv f_wrong rfl flX12_487 dX12_readsPoint_176 (sh_M hE) rfl hw1 ?_
            refine z_if_le (tgt := 183) dX12_readsPoint_179 rfl (fun h => absurd h (by omega)) (fun h179 => ?_)
            refine z_vret dX12_readsPoint_182 rfl rfl ?_
            have eA : pRow (mK m) b o ve no (j + 1) (m a_c) n p = (3, p, m a_c, p) := by rw [pRow_s, if_neg (fun h => h.2 (Decidable.not_not.mp h138)), if_neg (not_not_intro g1), if_pos i1]
            refine hP _ ?_
            rw [eA]
            exact ⟨z1, hw1, fun _ => ha1, fun h => absurd (show (3 : Int) = 0 from h) (by first | exact kMis_ne | decide), fun x hx => congrFun ha_c1 x⟩
          · refine z_iload dX12_readsPoint_155 rfl ?_
            refine z_iload dX12_readsPoint_157 rfl ?_
            refine z_add dX12_readsPoint_159 (by omega) ?_
            refine z_bipush dX12_readsPoint_160 rfl (by decide) ?_
            refine z_icmp_ge (tgt := 169) dX12_readsPoint_162 rfl (fun h162 => ?_) (fun h162 => ?_)
            · refine z_iconst dX12_readsPoint_169 (by decide) ?_
              refine z_bipush dX12_readsPoint_170 rfl (by decide) ?_
              refine z_callV mlX12_493 dX12_readsPoint_172 (sh_M hE) (av := [_, _]) rfl rfl (Nat.le_of_ble_eq_true rfl) (x_mustT _ hE hB1 _ 6 (Or.inr hd1)) (Nat.le_refl _) (Nat.le_refl _) (Nat.le_refl _) (Nat.le_refl _) ?_
              rintro _ _ ⟨rfl, rfl⟩
              refine z_aload_n dX12_readsPoint_175 rfl ?_
              refine z_gIv f_wrong rfl flX12_487 dX12_readsPoint_176 (sh_M hE) rfl hw1 ?_
              refine z_if_le (tgt := 183) dX12_readsPoint_179 rfl (fun h => absurd h (by omega)) (fun h179 => ?_)
              refine z_vret dX12_readsPoint_182 rfl rfl ?_
              have eA : pRow (mK m) b o ve no (j + 1) (m a_c) n p = (3, p, m a_c, p) := by rw [pRow_s, if_neg (fun h => h.2 (Decidable.not_not.mp h138)), if_neg (not_not_intro g1), if_pos i1]
              refine hP _ ?_
              rw [eA]
              exact ⟨z1, hw1, fun _ => ha1, fun h => absurd (show (3 : Int) = 0 from h) (by first | exact kMis_ne | decide), fun x hx => congrFun ha_c1 x⟩
            · refine z_iconst dX12_readsPoint_165 (by decide) ?_
              refine z_goto (tgt := 170) dX12_readsPoint_166 rfl ?_
              refine z_bipush dX12_readsPoint_170 rfl (by decide) ?_
              refine z_callV mlX12_493 dX12_readsPoint_172 (sh_M hE) (av := [_, _]) rfl rfl (Nat.le_of_ble_eq_true rfl) (x_mustT _ hE hB1 _ 6 (Or.inr hd1)) (Nat.le_refl _) (Nat.le_refl _) (Nat.le_refl _) (Nat.le_refl _) ?_
              rintro _ _ ⟨rfl, rfl⟩
              refine z_aload_n dX12_readsPoint_175 rfl ?_
              refine z_gIv f_wrong rfl flX12_487 dX12_readsPoint_176 (sh_M hE) rfl hw1 ?_
              refine z_if_le (tgt := 183) dX12_readsPoint_179 rfl (fun h => absurd h (by omega)) (fun h179 => ?_)
              refine z_vret dX12_readsPoint_182 rfl rfl ?_
              have eA : pRow (mK m) b o ve no (j + 1) (m a_c) n p = (3, p, m a_c, p) := by rw [pRow_s, if_neg (fun h => h.2 (Decidable.not_not.mp h138)), if_neg (not_not_intro g1), if_pos i1]
              refine hP _ ?_
              rw [eA]
              exact ⟨z1, hw1, fun _ => ha1, fun h => absurd (show (3 : Int) = 0 from h) (by first | exact kMis_ne | decide), fun x hx => congrFun ha_c1 x⟩
        · have hB1 : mB m1 := b1 ▸ mB_bad hB0
          have hw1 : m1 aM f_wrong = kMis (mK m) p := b1 ▸ mBad_w
          have ha1 : m1 aM f_wrongAt = p := b1 ▸ mBad_a
          have z1 : zfr fTh m m1 := b1 ▸ zfr_uj (zfr_uj z0 (by decide)) (by decide)
          have hd1 : 0 < m1 aM f_wrong := by rw [hw1]; first | exact kMis_pos | decide
          have hm1 : ptM m1 := hB1.1
          have ha_c1 : m1 a_c = m a_c := b1 ▸ (zu_fn (by decide)).trans (zu_fn (by decide))
          refine z_istore dX12_readsPoint_145 (Nat.le_of_ble_eq_true rfl) ?_
          refine z_aload_n dX12_readsPoint_147 rfl ?_
          refine z_iload dX12_readsPoint_148 rfl ?_
          refine z_bipush dX12_readsPoint_150 rfl (by decide) ?_
          try dsimp only [zs0, zsI, zsP, zsN, zsJ, zsS, zst2, Nat.reduceAdd]
          refine z_icmp_ge (tgt := 169) dX12_readsPoint_152 rfl (fun h152 => ?_) (fun h152 => ?_)
          · refine z_iconst dX12_readsPoint_169 (by decide) ?_
            refine z_bipush dX12_readsPoint_170 rfl (by decide) ?_
            refine z_callV mlX12_493 dX12_readsPoint_172 (sh_M hE) (av := [_, _]) rfl rfl (Nat.le_of_ble_eq_true rfl) (x_mustT _ hE hB1 _ 6 (Or.inr hd1)) (Nat.le_refl _) (Nat.le_refl _) (Nat.le_refl _) (Nat.le_refl _) ?_
            rintro _ _ ⟨rfl, rfl⟩
            refine z_aload_n dX12_readsPoint_175 rfl ?_
            refine z_gIv f_wrong rfl flX12_487 dX12_readsPoint_176 (sh_M hE) rfl hw1 ?_
            refine z_if_le (tgt := 183) dX12_readsPoint_179 rfl (fun h => absurd h (by omega)) (fun h179 => ?_)
            refine z_vret dX12_readsPoint_182 rfl rfl ?_
            have eA : pRow (mK m) b o ve no (j + 1) (m a_c) n p = (kMis (mK m) p, p, m a_c, p) := by rw [pRow_s, if_neg (fun h => h.2 (Decidable.not_not.mp h138)), if_pos g1]
            refine hP _ ?_
            rw [eA]
            exact ⟨z1, hw1, fun _ => ha1, fun h => absurd (show (kMis (mK m) p : Int) = 0 from h) (by first | exact kMis_ne | decide), fun x hx => congrFun ha_c1 x⟩
          · refine z_iload dX12_readsPoint_155 rfl ?_
            refine z_iload dX12_readsPoint_157 rfl ?_
            refine z_add dX12_readsPoint_159 (by omega) ?_
            refine z_bipush dX12_readsPoint_160 rfl (by decide) ?_
            refine z_icmp_ge (tgt := 169) dX12_readsPoint_162 rfl (fun h162 => ?_) (fun h162 => ?_)
            · refine z_iconst dX12_readsPoint_169 (by decide) ?_
              refine z_bipush dX12_readsPoint_170 rfl (by decide) ?_
              refine z_callV mlX12_493 dX12_readsPoint_172 (sh_M hE) (av := [_, _]) rfl rfl (Nat.le_of_ble_eq_true rfl) (x_mustT _ hE hB1 _ 6 (Or.inr hd1)) (Nat.le_refl _) (Nat.le_refl _) (Nat.le_refl _) (Nat.le_refl _) ?_
              rintro _ _ ⟨rfl, rfl⟩
              refine z_aload_n dX12_readsPoint_175 rfl ?_
              refine z_gIv f_wrong rfl flX12_487 dX12_readsPoint_176 (sh_M hE) rfl hw1 ?_
              refine z_if_le (tgt := 183) dX12_readsPoint_179 rfl (fun h => absurd h (by omega)) (fun h179 => ?_)
              refine z_vret dX12_readsPoint_182 rfl rfl ?_
              have eA : pRow (mK m) b o ve no (j + 1) (m a_c) n p = (kMis (mK m) p, p, m a_c, p) := by rw [pRow_s, if_neg (fun h => h.2 (Decidable.not_not.mp h138)), if_pos g1]
              refine hP _ ?_
              rw [eA]
              exact ⟨z1, hw1, fun _ => ha1, fun h => absurd (show (kMis (mK m) p : Int) = 0 from h) (by first | exact kMis_ne | decide), fun x hx => congrFun ha_c1 x⟩
            · refine z_iconst dX12_readsPoint_165 (by decide) ?_
              refine z_goto (tgt := 170) dX12_readsPoint_166 rfl ?_
              refine z_bipush dX12_readsPoint_170 rfl (by decide) ?_
              refine z_callV mlX12_493 dX12_readsPoint_172 (sh_M hE) (av := [_, _]) rfl rfl (Nat.le_of_ble_eq_true rfl) (x_mustT _ hE hB1 _ 6 (Or.inr hd1)) (Nat.le_refl _) (Nat.le_refl _) (Nat.le_refl _) (Nat.le_refl _) ?_
              rintro _ _ ⟨rfl, rfl⟩
              refine z_aload_n dX12_readsPoint_175 rfl ?_
              refine z_gIv f_wrong rfl flX12_487 dX12_readsPoint_176 (sh_M hE) rfl hw1 ?_
              refine z_if_le (tgt := 183) dX12_readsPoint_179 rfl (fun h => absurd h (by omega)) (fun h179 => ?_)
              refine z_vret dX12_readsPoint_182 rfl rfl ?_
              have eA : pRow (mK m) b o ve no (j + 1) (m a_c) n p = (kMis (mK m) p, p, m a_c, p) := by rw [pRow_s, if_neg (fun h => h.2 (Decidable.not_not.mp h138)), if_pos g1]
              refine hP _ ?_
              rw [eA]
              exact ⟨z1, hw1, fun _ => ha1, fun h => absurd (show (kMis (mK m) p : Int) = 0 from h) (by first | exact kMis_ne | decide), fun x hx => congrFun ha_c1 x⟩

theorem x_readsPoint (d : Nat) {E : zE} {m : zM} (hE : shM E) (hB : mB m) (hw : m aM f_wrong = 0) (p : Int) (ht : mTk m p) (hwf : wfC (m a_c)) (hne : kSo (mK m) p ≠ 0) : zR zX12_readsPoint (d + 4) [zP aM] m E E (fun r m' => r = none ∧ mPr m m' (pPoint (mK m) (m a_c) p)) := by
  have hc0 := hwf.1
  have hc2 := hwf.2.2.1
  have hm := hB.1
  have hB0 := hB
  have hw0 := hw
  have ht0 := ht
  have hK0 : mK m = mK m := rfl
  have hn0 : m aM f_end = m aM f_end := rfl
  have hm0 := hm
  have hok := mK_ok hB.2.1
  have z0 : zfr fTh m m := zfr_rf
  have ha_c0 : m a_c = m a_c := rfl
  refine zR_go [zP aM, zN, zN, zN, zN, zN, zN, zN] (by decide +kernel) (Nat.le_of_ble_eq_true rfl) rfl rfl ?_
  refine z_aload_n dX12_readsPoint_0 rfl ?_
  refine z_iconst dX12_readsPoint_1 (by decide) ?_
  refine z_callV mlX12_503 dX12_readsPoint_2 (sh_M hE) (av := [_]) rfl rfl (Nat.le_of_ble_eq_true rfl) (by have h := x_isWord (d + 3) hE hB0 hw0 p ht0 5 209220123 (by decide) (by decide) hB0.2.2.2.2.2.2.2.2.1; rw [hK0] at h; exact h) (Nat.le_refl _) (Nat.le_refl _) (Nat.le_refl _) (Nat.le_refl _) ?_
  rintro _ _ ⟨rfl, rfl⟩
  refine z_ist 1 dX12_readsPoint_5 rfl (Nat.le_of_ble_eq_true rfl) ?_
  refine z_iload_n dX12_readsPoint_6 rfl ?_
  try dsimp only [zs0, zsI, zsP, zsN, zsJ, zsS, zst2, Nat.reduceAdd]
  refine z_ifz_eq (tgt := 17) dX12_readsPoint_7 rfl (fun h7 => ?_) (fun h7 => ?_)
  · refine z_aload_n dX12_readsPoint_17 rfl ?_
    refine z_bipush dX12_readsPoint_18 rfl (by decide) ?_
    refine z_callV mlX12_503 dX12_readsPoint_20 (sh_M hE) (av := [_]) rfl rfl (Nat.le_of_ble_eq_true rfl) (by have h := x_isWord (d + 3) hE hB0 hw0 p ht0 7 318702192 (by decide) (by decide) hB0.2.2.2.2.2.2.2.2.2.2; rw [hK0] at h; exact h) (Nat.le_refl _) (Nat.le_refl _) (Nat.le_refl _) (Nat.le_refl _) ?_
    rintro _ _ ⟨rfl, rfl⟩
    refine z_ist 2 dX12_readsPoint_23 rfl (Nat.le_of_ble_eq_true rfl) ?_
    refine z_aload_n dX12_readsPoint_24 rfl ?_
    refine z_aload_n dX12_readsPoint_25 rfl ?_
    refine z_gP 0 rfl (r := a_c) flX12_7 dX12_readsPoint_26 (sh_M hE) rfl (pt_c hm) (by decide) ?_
    refine z_iconst dX12_readsPoint_29 (by decide) ?_
    refine z_ialv dX12_readsPoint_30 (sh_c hE) (by omega) (by omega) (congrFun ha_c0 2) ?_
    refine z_bipush dX12_readsPoint_31 rfl (by decide) ?_
    try dsimp only [zs0, zsI, zsP, zsN, zsJ, zsS, zst2, Nat.reduceAdd]
    refine z_icmp_ge (tgt := 52) dX12_readsPoint_33 rfl (fun h33 => ?_) (fun h33 => ?_)
    · refine z_iconst dX12_readsPoint_52 (by decide) ?_
      refine z_bipush dX12_readsPoint_53 rfl (by decide) ?_
      refine z_callV mlX12_493 dX12_readsPoint_55 (sh_M hE) (av := [_, _]) rfl rfl (Nat.le_of_ble_eq_true rfl) (x_mustK _ hE hB0 hw0 p ht0 6 (by decide)) (Nat.le_refl _) (Nat.le_refl _) (Nat.le_refl _) (Nat.le_refl _) ?_
      rintro _ m1 ⟨rfl, b1⟩
      have hB1 : mB m1 := b1 ▸ mB_bad hB0
      have hw1 : m1 aM f_wrong = 6 := b1 ▸ mBad_w
      have ha1 : m1 aM f_wrongAt = p := b1 ▸ mBad_a
      have z1 : zfr fTh m m1 := b1 ▸ zfr_uj (zfr_uj z0 (by decide)) (by decide)
      have hd1 : 0 < m1 aM f_wrong := by rw [hw1]; first | exact kMis_pos | decide
      have hm1 : ptM m1 := hB1.1
      have ha_c1 : m1 a_c = m a_c := b1 ▸ (zu_fn (by decide)).trans (zu_fn (by decide))
      refine z_aload_n dX12_readsPoint_58 rfl ?_
      refine z_gIv f_wrong rfl flX12_487 dX12_readsPoint_59 (sh_M hE) rfl hw1 ?_
      refine z_if_le (tgt := 66) dX12_readsPoint_62 rfl (fun h => absurd h (by omega)) (fun h62 => ?_)
      refine z_vret dX12_readsPoint_65 rfl rfl ?_
      have eA : pPoint (mK m) (m a_c) p = (6, p, m a_c, p) := by unfold pPoint; rw [show pVe (mK m) p = zb (kWd (mK m) p 318702192) by unfold pVe; rw [if_neg h7], show pP1 (mK m) p = p by unfold pP1; rw [if_neg h7], if_pos (fun h => absurd h.1 (by omega))]
      rw [eA]
      refine ⟨rfl, ?_⟩
      exact ⟨z1, hw1, fun _ => ha1, fun h => absurd (show (6 : Int) = 0 from h) (by first | exact kMis_ne | decide), fun x hx => congrFun ha_c1 x⟩
    · refine z_iload_n dX12_readsPoint_36 rfl ?_
      refine z_ifz_eq (tgt := 48) dX12_readsPoint_37 rfl (fun h37 => ?_) (fun h37 => ?_)
      · refine z_iconst dX12_readsPoint_48 (by decide) ?_
        refine z_goto (tgt := 53) dX12_readsPoint_49 rfl ?_
        refine z_bipush dX12_readsPoint_53 rfl (by decide) ?_
        refine z_callV mlX12_493 dX12_readsPoint_55 (sh_M hE) (av := [_, _]) rfl rfl (Nat.le_of_ble_eq_true rfl) (x_mustT _ hE hB0 1 6 (Or.inl (by decide))) (Nat.le_refl _) (Nat.le_refl _) (Nat.le_refl _) (Nat.le_refl _) ?_
        rintro _ _ ⟨rfl, rfl⟩
        refine z_aload_n dX12_readsPoint_58 rfl ?_
        refine z_gIv f_wrong rfl flX12_487 dX12_readsPoint_59 (sh_M hE) rfl hw0 ?_
        refine z_if_le (tgt := 66) dX12_readsPoint_62 rfl (fun h62 => ?_) (fun h => absurd (by omega) h)
        refine z_iload_n dX12_readsPoint_66 rfl ?_
        refine z_ifz_eq (tgt := 74) dX12_readsPoint_67 rfl (fun h67 => ?_) (fun h => absurd h h7)
        refine z_aload_n dX12_readsPoint_74 rfl ?_
        refine z_aload_n dX12_readsPoint_75 rfl ?_
        refine z_bipush dX12_readsPoint_76 rfl (by decide) ?_
        refine z_callV mlX12_503 dX12_readsPoint_78 (sh_M hE) (av := [_]) rfl rfl (Nat.le_of_ble_eq_true rfl) (by have h := x_isWord (d + 3) hE hB0 hw0 p ht0 7 318702192 (by decide) (by decide) hB0.2.2.2.2.2.2.2.2.2.2; rw [hK0] at h; exact h) (Nat.le_refl _) (Nat.le_refl _) (Nat.le_refl _) (Nat.le_refl _) ?_
        rintro _ _ ⟨rfl, rfl⟩
        refine z_ifz_ne (tgt := 93) dX12_readsPoint_81 rfl (fun h81 => ?_) (fun h81 => ?_)
        · refine z_iconst dX12_readsPoint_93 (by decide) ?_
          refine z_goto (tgt := 98) dX12_readsPoint_94 rfl ?_
          refine z_callV mlX12_506 dX12_readsPoint_98 (sh_M hE) (av := [_]) rfl rfl (Nat.le_of_ble_eq_true rfl) (x_takesT _ hE hB0 hw0 p ht0 (by rw [hn0]; exact kSo_lt hok hne)) (Nat.le_refl _) (Nat.le_refl _) (Nat.le_refl _) (Nat.le_refl _) ?_
          rintro _ m1 ⟨rfl, f1, t1⟩
          have hB1 := mB_fr hB0 (zfr_sub f1 (by decide))
          have hK1 : mK m1 = mK m := (mK_fr f1 (by decide)).trans hK0
          have hw1 : m1 aM f_wrong = 0 := (zfr_at f1 (by decide)).trans hw0
          have z1 : zfr fTh m m1 := zfr_tr z0 (zfr_sub f1 (by decide))
          have hn1 : m1 aM f_end = m aM f_end := (zfr_at f1 (by decide)).trans hn0
          have hm1 : ptM m1 := hB1.1
          have ha_c1 : m1 a_c = m a_c := (zfr_cell f1 (by decide)).trans ha_c0
          rw [hK0] at t1
          obtain ⟨p1, e1⟩ : ∃ x, x = kR (mK m) p := ⟨_, rfl⟩
          rw [← e1] at t1
          have ht1 := t1
          refine z_aload_n dX12_readsPoint_101 rfl ?_
          refine z_aload_n dX12_readsPoint_102 rfl ?_
          refine z_gP 0 rfl (r := a_c) flX12_7 dX12_readsPoint_103 (sh_M hE) rfl (pt_c hm1) (by decide) ?_
          refine z_iconst dX12_readsPoint_106 (by decide) ?_
          refine z_ialv dX12_readsPoint_107 (sh_c hE) (by omega) (by omega) (congrFun ha_c1 2) ?_
          refine z_callV mlX12_120 dX12_readsPoint_108 (sh_M hE) (av := [_]) rfl rfl (Nat.le_of_ble_eq_true rfl) (r_at _ hE hm1 (m a_c 2) (by omega) (by omega)) (Nat.le_refl _) (Nat.le_refl _) (Nat.le_refl _) (Nat.le_refl _) ?_
          rintro _ _ ⟨rfl, rfl⟩
          refine z_ist 3 dX12_readsPoint_111 rfl (Nat.le_of_ble_eq_true rfl) ?_
          refine z_iconst dX12_readsPoint_112 (by decide) ?_
          refine z_istore dX12_readsPoint_113 (Nat.le_of_ble_eq_true rfl) ?_
          refine z_aload_n dX12_readsPoint_115 rfl ?_
          try dsimp only [zs0, zsI, zsP, zsN, zsJ, zsS, zst2, Nat.reduceAdd]
          refine z_callV mlX12_517 dX12_readsPoint_116 (sh_M hE) (av := _) rfl rfl (Nat.le_of_ble_eq_true rfl) (by have h := x_lettersTold (d + 1) hE hB1 (by rw [ha_c1]; exact hwf); rw [ha_c1] at h; exact h) (Nat.le_refl _) (Nat.le_refl _) (Nat.le_refl _) (Nat.le_refl _) ?_
          rintro _ _ ⟨rfl, rfl⟩
          refine z_istore dX12_readsPoint_119 (Nat.le_of_ble_eq_true rfl) ?_
          try dsimp only [zs0, zsI, zsP, zsN, zsJ, zsS, zst2, Nat.reduceAdd]
          have hpr := cPre_rg hwf
          refine l_readsPoint d hE (32 + 9 * m a_c 2) (cPre (m a_c) (m a_c 2).toNat) (zb (kWd (mK m) p 318702192)) (zb (kWd (mK m) p 209220123)) (by omega) (by omega) (zb01 _) (zb01 _) 7 0 p1 m1 hB1 hw1 ht1 (by rw [ha_c1]; exact hc0) (by rw [ha_c1]; exact hc2) (by omega) (by omega) (fun m9 g => ?_)
          have eA : pPoint (mK m) (m a_c) p = pRow (mK m) (32 + 9 * m a_c 2) (cPre (m a_c) (m a_c 2).toNat) (zb (kWd (mK m) p 318702192)) (zb (kWd (mK m) p 209220123)) 7 (m a_c) 0 p1 := by unfold pPoint; rw [show pVe (mK m) p = zb (kWd (mK m) p 318702192) by unfold pVe; rw [if_neg h7], show pP1 (mK m) p = p by unfold pP1; rw [if_neg h7], if_neg (not_not_intro ⟨by omega, fun h => absurd h.1 (by rw [zb_f h37]; decide)⟩), if_neg (not_not_intro (Or.inl h81)), ← e1]
          rw [hK1, ha_c1, ← eA] at g
          exact ⟨rfl, zfr_tr z1 g.1, g.2.1, g.2.2.1, g.2.2.2.1, fun x hx => (g.2.2.2.2 x hx).trans (congrFun ha_c1 x)⟩
        · refine z_aload_n dX12_readsPoint_84 rfl ?_
          refine z_bipush dX12_readsPoint_85 rfl (by decide) ?_
          refine z_callV mlX12_503 dX12_readsPoint_87 (sh_M hE) (av := [_]) rfl rfl (Nat.le_of_ble_eq_true rfl) (by have h := x_isWord (d + 3) hE hB0 hw0 p ht0 6 8399691 (by decide) (by decide) hB0.2.2.2.2.2.2.2.2.2.1; rw [hK0] at h; exact h) (Nat.le_refl _) (Nat.le_refl _) (Nat.le_refl _) (Nat.le_refl _) ?_
          rintro _ _ ⟨rfl, rfl⟩
          refine z_ifz_eq (tgt := 97) dX12_readsPoint_90 rfl (fun h90 => ?_) (fun h90 => ?_)
          · refine z_iconst dX12_readsPoint_97 (by decide) ?_
            refine z_callV mlX12_506 dX12_readsPoint_98 (sh_M hE) (av := [_]) rfl rfl (Nat.le_of_ble_eq_true rfl) (by have h := x_takesF (d) hE hB0 hw0 p ht0; rw [hK0] at h; exact h) (Nat.le_refl _) (Nat.le_refl _) (Nat.le_refl _) (Nat.le_refl _) ?_
            rintro _ m1 ⟨rfl, b1⟩
            have hB1 : mB m1 := b1 ▸ mB_bad hB0
            have hw1 : m1 aM f_wrong = kMis (mK m) p := b1 ▸ mBad_w
            have ha1 : m1 aM f_wrongAt = p := b1 ▸ mBad_a
            have z1 : zfr fTh m m1 := b1 ▸ zfr_uj (zfr_uj z0 (by decide)) (by decide)
            have hd1 : 0 < m1 aM f_wrong := by rw [hw1]; first | exact kMis_pos | decide
            have hm1 : ptM m1 := hB1.1
            have ha_c1 : m1 a_c = m a_c := b1 ▸ (zu_fn (by decide)).trans (zu_fn (by decide))
            refine z_aload_n dX12_readsPoint_101 rfl ?_
            refine z_aload_n dX12_readsPoint_102 rfl ?_
            refine z_gP 0 rfl (r := a_c) flX12_7 dX12_readsPoint_103 (sh_M hE) rfl (pt_c hm1) (by decide) ?_
            refine z_iconst dX12_readsPoint_106 (by decide) ?_
            refine z_ialv dX12_readsPoint_107 (sh_c hE) (by omega) (by omega) (congrFun ha_c1 2) ?_
            refine z_callV mlX12_120 dX12_readsPoint_108 (sh_M hE) (av := [_]) rfl rfl (Nat.le_of_ble_eq_true rfl) (r_at _ hE hm1 (m a_c 2) (by omega) (by omega)) (Nat.le_refl _) (Nat.le_refl _) (Nat.le_refl _) (Nat.le_refl _) ?_
            rintro _ _ ⟨rfl, rfl⟩
            refine z_ist 3 dX12_readsPoint_111 rfl (Nat.le_of_ble_eq_true rfl) ?_
            refine z_iconst dX12_readsPoint_112 (by decide) ?_
            refine z_istore dX12_readsPoint_113 (Nat.le_of_ble_eq_true rfl) ?_
            refine z_aload_n dX12_readsPoint_115 rfl ?_
            try dsimp only [zs0, zsI, zsP, zsN, zsJ, zsS, zst2, Nat.reduceAdd]
            refine z_callV mlX12_517 dX12_readsPoint_116 (sh_M hE) (av := _) rfl rfl (Nat.le_of_ble_eq_true rfl) (by have h := x_lettersTold (d + 1) hE hB1 (by rw [ha_c1]; exact hwf); rw [ha_c1] at h; exact h) (Nat.le_refl _) (Nat.le_refl _) (Nat.le_refl _) (Nat.le_refl _) ?_
            rintro _ _ ⟨rfl, rfl⟩
            refine z_istore dX12_readsPoint_119 (Nat.le_of_ble_eq_true rfl) ?_
            try dsimp only [zs0, zsI, zsP, zsN, zsJ, zsS, zst2, Nat.reduceAdd]
            refine z_aload_n dX12_readsPoint_121 rfl ?_
            refine z_gIv f_wrong rfl flX12_487 dX12_readsPoint_122 (sh_M hE) rfl hw1 ?_
            refine z_if_ne (tgt := 267) dX12_readsPoint_125 rfl (fun h125 => ?_) (fun h => absurd (by omega) h)
            refine z_aload_n dX12_readsPoint_267 rfl ?_
            refine z_gIv f_wrong rfl flX12_487 dX12_readsPoint_268 (sh_M hE) rfl hw1 ?_
            refine z_if_le (tgt := 275) dX12_readsPoint_271 rfl (fun h => absurd h (by omega)) (fun h271 => ?_)
            refine z_vret dX12_readsPoint_274 rfl rfl ?_
            have eA : pPoint (mK m) (m a_c) p = (kMis (mK m) p, p, m a_c, p) := by unfold pPoint; rw [show pVe (mK m) p = zb (kWd (mK m) p 318702192) by unfold pVe; rw [if_neg h7], show pP1 (mK m) p = p by unfold pP1; rw [if_neg h7], if_neg (not_not_intro ⟨by omega, fun h => absurd h.1 (by rw [zb_f h37]; decide)⟩), if_pos (by rintro (h | h); exact h81 h; exact h90 h)]
            rw [eA]
            refine ⟨rfl, ?_⟩
            exact ⟨z1, hw1, fun _ => ha1, fun h => absurd (show (kMis (mK m) p : Int) = 0 from h) (by first | exact kMis_ne | decide), fun x hx => congrFun ha_c1 x⟩
          · refine z_iconst dX12_readsPoint_93 (by decide) ?_
            refine z_goto (tgt := 98) dX12_readsPoint_94 rfl ?_
            refine z_callV mlX12_506 dX12_readsPoint_98 (sh_M hE) (av := [_]) rfl rfl (Nat.le_of_ble_eq_true rfl) (x_takesT _ hE hB0 hw0 p ht0 (by rw [hn0]; exact kSo_lt hok hne)) (Nat.le_refl _) (Nat.le_refl _) (Nat.le_refl _) (Nat.le_refl _) ?_
            rintro _ m1 ⟨rfl, f1, t1⟩
            have hB1 := mB_fr hB0 (zfr_sub f1 (by decide))
            have hK1 : mK m1 = mK m := (mK_fr f1 (by decide)).trans hK0
            have hw1 : m1 aM f_wrong = 0 := (zfr_at f1 (by decide)).trans hw0
            have z1 : zfr fTh m m1 := zfr_tr z0 (zfr_sub f1 (by decide))
            have hn1 : m1 aM f_end = m aM f_end := (zfr_at f1 (by decide)).trans hn0
            have hm1 : ptM m1 := hB1.1
            have ha_c1 : m1 a_c = m a_c := (zfr_cell f1 (by decide)).trans ha_c0
            rw [hK0] at t1
            obtain ⟨p1, e1⟩ : ∃ x, x = kR (mK m) p := ⟨_, rfl⟩
            rw [← e1] at t1
            have ht1 := t1
            refine z_aload_n dX12_readsPoint_101 rfl ?_
            refine z_aload_n dX12_readsPoint_102 rfl ?_
            refine z_gP 0 rfl (r := a_c) flX12_7 dX12_readsPoint_103 (sh_M hE) rfl (pt_c hm1) (by decide) ?_
            refine z_iconst dX12_readsPoint_106 (by decide) ?_
            refine z_ialv dX12_readsPoint_107 (sh_c hE) (by omega) (by omega) (congrFun ha_c1 2) ?_
            refine z_callV mlX12_120 dX12_readsPoint_108 (sh_M hE) (av := [_]) rfl rfl (Nat.le_of_ble_eq_true rfl) (r_at _ hE hm1 (m a_c 2) (by omega) (by omega)) (Nat.le_refl _) (Nat.le_refl _) (Nat.le_refl _) (Nat.le_refl _) ?_
            rintro _ _ ⟨rfl, rfl⟩
            refine z_ist 3 dX12_readsPoint_111 rfl (Nat.le_of_ble_eq_true rfl) ?_
            refine z_iconst dX12_readsPoint_112 (by decide) ?_
            refine z_istore dX12_readsPoint_113 (Nat.le_of_ble_eq_true rfl) ?_
            refine z_aload_n dX12_readsPoint_115 rfl ?_
            try dsimp only [zs0, zsI, zsP, zsN, zsJ, zsS, zst2, Nat.reduceAdd]
            refine z_callV mlX12_517 dX12_readsPoint_116 (sh_M hE) (av := _) rfl rfl (Nat.le_of_ble_eq_true rfl) (by have h := x_lettersTold (d + 1) hE hB1 (by rw [ha_c1]; exact hwf); rw [ha_c1] at h; exact h) (Nat.le_refl _) (Nat.le_refl _) (Nat.le_refl _) (Nat.le_refl _) ?_
            rintro _ _ ⟨rfl, rfl⟩
            refine z_istore dX12_readsPoint_119 (Nat.le_of_ble_eq_true rfl) ?_
            try dsimp only [zs0, zsI, zsP, zsN, zsJ, zsS, zst2, Nat.reduceAdd]
            have hpr := cPre_rg hwf
            refine l_readsPoint d hE (32 + 9 * m a_c 2) (cPre (m a_c) (m a_c 2).toNat) (zb (kWd (mK m) p 318702192)) (zb (kWd (mK m) p 209220123)) (by omega) (by omega) (zb01 _) (zb01 _) 7 0 p1 m1 hB1 hw1 ht1 (by rw [ha_c1]; exact hc0) (by rw [ha_c1]; exact hc2) (by omega) (by omega) (fun m9 g => ?_)
            have eA : pPoint (mK m) (m a_c) p = pRow (mK m) (32 + 9 * m a_c 2) (cPre (m a_c) (m a_c 2).toNat) (zb (kWd (mK m) p 318702192)) (zb (kWd (mK m) p 209220123)) 7 (m a_c) 0 p1 := by unfold pPoint; rw [show pVe (mK m) p = zb (kWd (mK m) p 318702192) by unfold pVe; rw [if_neg h7], show pP1 (mK m) p = p by unfold pP1; rw [if_neg h7], if_neg (not_not_intro ⟨by omega, fun h => absurd h.1 (by rw [zb_f h37]; decide)⟩), if_neg (not_not_intro (Or.inr h90)), ← e1]
            rw [hK1, ha_c1, ← eA] at g
            exact ⟨rfl, zfr_tr z1 g.1, g.2.1, g.2.2.1, g.2.2.2.1, fun x hx => (g.2.2.2.2 x hx).trans (congrFun ha_c1 x)⟩
      · refine z_aload_n dX12_readsPoint_40 rfl ?_
        refine z_callV mlX12_313 dX12_readsPoint_41 (sh_M hE) (av := _) rfl rfl (Nat.le_of_ble_eq_true rfl) (by have h := r_vertices (d + 2) hE hm0 (by rw [ha_c0]; exact hwf); rw [ha_c0] at h; exact h) (Nat.le_refl _) (Nat.le_refl _) (Nat.le_refl _) (Nat.le_refl _) ?_
        rintro _ _ ⟨rfl, rfl⟩
        refine z_iconst dX12_readsPoint_44 (by decide) ?_
        refine z_icmp_eq (tgt := 52) dX12_readsPoint_45 rfl (fun h45 => ?_) (fun h45 => ?_)
        · refine z_iconst dX12_readsPoint_52 (by decide) ?_
          refine z_bipush dX12_readsPoint_53 rfl (by decide) ?_
          refine z_callV mlX12_493 dX12_readsPoint_55 (sh_M hE) (av := [_, _]) rfl rfl (Nat.le_of_ble_eq_true rfl) (x_mustK _ hE hB0 hw0 p ht0 6 (by decide)) (Nat.le_refl _) (Nat.le_refl _) (Nat.le_refl _) (Nat.le_refl _) ?_
          rintro _ m1 ⟨rfl, b1⟩
          have hB1 : mB m1 := b1 ▸ mB_bad hB0
          have hw1 : m1 aM f_wrong = 6 := b1 ▸ mBad_w
          have ha1 : m1 aM f_wrongAt = p := b1 ▸ mBad_a
          have z1 : zfr fTh m m1 := b1 ▸ zfr_uj (zfr_uj z0 (by decide)) (by decide)
          have hd1 : 0 < m1 aM f_wrong := by rw [hw1]; first | exact kMis_pos | decide
          have hm1 : ptM m1 := hB1.1
          have ha_c1 : m1 a_c = m a_c := b1 ▸ (zu_fn (by decide)).trans (zu_fn (by decide))
          refine z_aload_n dX12_readsPoint_58 rfl ?_
          refine z_gIv f_wrong rfl flX12_487 dX12_readsPoint_59 (sh_M hE) rfl hw1 ?_
          refine z_if_le (tgt := 66) dX12_readsPoint_62 rfl (fun h => absurd h (by omega)) (fun h62 => ?_)
          refine z_vret dX12_readsPoint_65 rfl rfl ?_
          have eA : pPoint (mK m) (m a_c) p = (6, p, m a_c, p) := by unfold pPoint; rw [show pVe (mK m) p = zb (kWd (mK m) p 318702192) by unfold pVe; rw [if_neg h7], show pP1 (mK m) p = p by unfold pP1; rw [if_neg h7], if_pos (fun h => h.2 ⟨by rw [zb_t h37], h45⟩)]
          rw [eA]
          refine ⟨rfl, ?_⟩
          exact ⟨z1, hw1, fun _ => ha1, fun h => absurd (show (6 : Int) = 0 from h) (by first | exact kMis_ne | decide), fun x hx => congrFun ha_c1 x⟩
        · refine z_iconst dX12_readsPoint_48 (by decide) ?_
          refine z_goto (tgt := 53) dX12_readsPoint_49 rfl ?_
          refine z_bipush dX12_readsPoint_53 rfl (by decide) ?_
          refine z_callV mlX12_493 dX12_readsPoint_55 (sh_M hE) (av := [_, _]) rfl rfl (Nat.le_of_ble_eq_true rfl) (x_mustT _ hE hB0 1 6 (Or.inl (by decide))) (Nat.le_refl _) (Nat.le_refl _) (Nat.le_refl _) (Nat.le_refl _) ?_
          rintro _ _ ⟨rfl, rfl⟩
          refine z_aload_n dX12_readsPoint_58 rfl ?_
          refine z_gIv f_wrong rfl flX12_487 dX12_readsPoint_59 (sh_M hE) rfl hw0 ?_
          refine z_if_le (tgt := 66) dX12_readsPoint_62 rfl (fun h62 => ?_) (fun h => absurd (by omega) h)
          refine z_iload_n dX12_readsPoint_66 rfl ?_
          refine z_ifz_eq (tgt := 74) dX12_readsPoint_67 rfl (fun h67 => ?_) (fun h => absurd h h7)
          refine z_aload_n dX12_readsPoint_74 rfl ?_
          refine z_aload_n dX12_readsPoint_75 rfl ?_
          refine z_bipush dX12_readsPoint_76 rfl (by decide) ?_
          refine z_callV mlX12_503 dX12_readsPoint_78 (sh_M hE) (av := [_]) rfl rfl (Nat.le_of_ble_eq_true rfl) (by have h := x_isWord (d + 3) hE hB0 hw0 p ht0 7 318702192 (by decide) (by decide) hB0.2.2.2.2.2.2.2.2.2.2; rw [hK0] at h; exact h) (Nat.le_refl _) (Nat.le_refl _) (Nat.le_refl _) (Nat.le_refl _) ?_
          rintro _ _ ⟨rfl, rfl⟩
          refine z_ifz_ne (tgt := 93) dX12_readsPoint_81 rfl (fun h81 => ?_) (fun h81 => ?_)
          · refine z_iconst dX12_readsPoint_93 (by decide) ?_
            refine z_goto (tgt := 98) dX12_readsPoint_94 rfl ?_
            refine z_callV mlX12_506 dX12_readsPoint_98 (sh_M hE) (av := [_]) rfl rfl (Nat.le_of_ble_eq_true rfl) (x_takesT _ hE hB0 hw0 p ht0 (by rw [hn0]; exact kSo_lt hok hne)) (Nat.le_refl _) (Nat.le_refl _) (Nat.le_refl _) (Nat.le_refl _) ?_
            rintro _ m1 ⟨rfl, f1, t1⟩
            have hB1 := mB_fr hB0 (zfr_sub f1 (by decide))
            have hK1 : mK m1 = mK m := (mK_fr f1 (by decide)).trans hK0
            have hw1 : m1 aM f_wrong = 0 := (zfr_at f1 (by decide)).trans hw0
            have z1 : zfr fTh m m1 := zfr_tr z0 (zfr_sub f1 (by decide))
            have hn1 : m1 aM f_end = m aM f_end := (zfr_at f1 (by decide)).trans hn0
            have hm1 : ptM m1 := hB1.1
            have ha_c1 : m1 a_c = m a_c := (zfr_cell f1 (by decide)).trans ha_c0
            rw [hK0] at t1
            obtain ⟨p1, e1⟩ : ∃ x, x = kR (mK m) p := ⟨_, rfl⟩
            rw [← e1] at t1
            have ht1 := t1
            refine z_aload_n dX12_readsPoint_101 rfl ?_
            refine z_aload_n dX12_readsPoint_102 rfl ?_
            refine z_gP 0 rfl (r := a_c) flX12_7 dX12_readsPoint_103 (sh_M hE) rfl (pt_c hm1) (by decide) ?_
            refine z_iconst dX12_readsPoint_106 (by decide) ?_
            refine z_ialv dX12_readsPoint_107 (sh_c hE) (by omega) (by omega) (congrFun ha_c1 2) ?_
            refine z_callV mlX12_120 dX12_readsPoint_108 (sh_M hE) (av := [_]) rfl rfl (Nat.le_of_ble_eq_true rfl) (r_at _ hE hm1 (m a_c 2) (by omega) (by omega)) (Nat.le_refl _) (Nat.le_refl _) (Nat.le_refl _) (Nat.le_refl _) ?_
            rintro _ _ ⟨rfl, rfl⟩
            refine z_ist 3 dX12_readsPoint_111 rfl (Nat.le_of_ble_eq_true rfl) ?_
            refine z_iconst dX12_readsPoint_112 (by decide) ?_
            refine z_istore dX12_readsPoint_113 (Nat.le_of_ble_eq_true rfl) ?_
            refine z_aload_n dX12_readsPoint_115 rfl ?_
            try dsimp only [zs0, zsI, zsP, zsN, zsJ, zsS, zst2, Nat.reduceAdd]
            refine z_callV mlX12_517 dX12_readsPoint_116 (sh_M hE) (av := _) rfl rfl (Nat.le_of_ble_eq_true rfl) (by have h := x_lettersTold (d + 1) hE hB1 (by rw [ha_c1]; exact hwf); rw [ha_c1] at h; exact h) (Nat.le_refl _) (Nat.le_refl _) (Nat.le_refl _) (Nat.le_refl _) ?_
            rintro _ _ ⟨rfl, rfl⟩
            refine z_istore dX12_readsPoint_119 (Nat.le_of_ble_eq_true rfl) ?_
            try dsimp only [zs0, zsI, zsP, zsN, zsJ, zsS, zst2, Nat.reduceAdd]
            have hpr := cPre_rg hwf
            refine l_readsPoint d hE (32 + 9 * m a_c 2) (cPre (m a_c) (m a_c 2).toNat) (zb (kWd (mK m) p 318702192)) (zb (kWd (mK m) p 209220123)) (by omega) (by omega) (zb01 _) (zb01 _) 7 0 p1 m1 hB1 hw1 ht1 (by rw [ha_c1]; exact hc0) (by rw [ha_c1]; exact hc2) (by omega) (by omega) (fun m9 g => ?_)
            have eA : pPoint (mK m) (m a_c) p = pRow (mK m) (32 + 9 * m a_c 2) (cPre (m a_c) (m a_c 2).toNat) (zb (kWd (mK m) p 318702192)) (zb (kWd (mK m) p 209220123)) 7 (m a_c) 0 p1 := by unfold pPoint; rw [show pVe (mK m) p = zb (kWd (mK m) p 318702192) by unfold pVe; rw [if_neg h7], show pP1 (mK m) p = p by unfold pP1; rw [if_neg h7], if_neg (not_not_intro ⟨by omega, fun h => h45 h.2⟩), if_neg (not_not_intro (Or.inl h81)), ← e1]
            rw [hK1, ha_c1, ← eA] at g
            exact ⟨rfl, zfr_tr z1 g.1, g.2.1, g.2.2.1, g.2.2.2.1, fun x hx => (g.2.2.2.2 x hx).trans (congrFun ha_c1 x)⟩
          · refine z_aload_n dX12_readsPoint_84 rfl ?_
            refine z_bipush dX12_readsPoint_85 rfl (by decide) ?_
            refine z_callV mlX12_503 dX12_readsPoint_87 (sh_M hE) (av := [_]) rfl rfl (Nat.le_of_ble_eq_true rfl) (by have h := x_isWord (d + 3) hE hB0 hw0 p ht0 6 8399691 (by decide) (by decide) hB0.2.2.2.2.2.2.2.2.2.1; rw [hK0] at h; exact h) (Nat.le_refl _) (Nat.le_refl _) (Nat.le_refl _) (Nat.le_refl _) ?_
            rintro _ _ ⟨rfl, rfl⟩
            refine z_ifz_eq (tgt := 97) dX12_readsPoint_90 rfl (fun h90 => ?_) (fun h90 => ?_)
            · refine z_iconst dX12_readsPoint_97 (by decide) ?_
              refine z_callV mlX12_506 dX12_readsPoint_98 (sh_M hE) (av := [_]) rfl rfl (Nat.le_of_ble_eq_true rfl) (by have h := x_takesF (d) hE hB0 hw0 p ht0; rw [hK0] at h; exact h) (Nat.le_refl _) (Nat.le_refl _) (Nat.le_refl _) (Nat.le_refl _) ?_
              rintro _ m1 ⟨rfl, b1⟩
              have hB1 : mB m1 := b1 ▸ mB_bad hB0
              have hw1 : m1 aM f_wrong = kMis (mK m) p := b1 ▸ mBad_w
              have ha1 : m1 aM f_wrongAt = p := b1 ▸ mBad_a
              have z1 : zfr fTh m m1 := b1 ▸ zfr_uj (zfr_uj z0 (by decide)) (by decide)
              have hd1 : 0 < m1 aM f_wrong := by rw [hw1]; first | exact kMis_pos | decide
              have hm1 : ptM m1 := hB1.1
              have ha_c1 : m1 a_c = m a_c := b1 ▸ (zu_fn (by decide)).trans (zu_fn (by decide))
              refine z_aload_n dX12_readsPoint_101 rfl ?_
              refine z_aload_n dX12_readsPoint_102 rfl ?_
              refine z_gP 0 rfl (r := a_c) flX12_7 dX12_readsPoint_103 (sh_M hE) rfl (pt_c hm1) (by decide) ?_
              refine z_iconst dX12_readsPoint_106 (by decide) ?_
              refine z_ialv dX12_readsPoint_107 (sh_c hE) (by omega) (by omega) (congrFun ha_c1 2) ?_
              refine z_callV mlX12_120 dX12_readsPoint_108 (sh_M hE) (av := [_]) rfl rfl (Nat.le_of_ble_eq_true rfl) (r_at _ hE hm1 (m a_c 2) (by omega) (by omega)) (Nat.le_refl _) (Nat.le_refl _) (Nat.le_refl _) (Nat.le_refl _) ?_
              rintro _ _ ⟨rfl, rfl⟩
              refine z_ist 3 dX12_readsPoint_111 rfl (Nat.le_of_ble_eq_true rfl) ?_
              refine z_iconst dX12_readsPoint_112 (by decide) ?_
              refine z_istore dX12_readsPoint_113 (Nat.le_of_ble_eq_true rfl) ?_
              refine z_aload_n dX12_readsPoint_115 rfl ?_
              try dsimp only [zs0, zsI, zsP, zsN, zsJ, zsS, zst2, Nat.reduceAdd]
              refine z_callV mlX12_517 dX12_readsPoint_116 (sh_M hE) (av := _) rfl rfl (Nat.le_of_ble_eq_true rfl) (by have h := x_lettersTold (d + 1) hE hB1 (by rw [ha_c1]; exact hwf); rw [ha_c1] at h; exact h) (Nat.le_refl _) (Nat.le_refl _) (Nat.le_refl _) (Nat.le_refl _) ?_
              rintro _ _ ⟨rfl, rfl⟩
              refine z_istore dX12_readsPoint_119 (Nat.le_of_ble_eq_true rfl) ?_
              try dsimp only [zs0, zsI, zsP, zsN, zsJ, zsS, zst2, Nat.reduceAdd]
              refine z_aload_n dX12_readsPoint_121 rfl ?_
              refine z_gIv f_wrong rfl flX12_487 dX12_readsPoint_122 (sh_M hE) rfl hw1 ?_
              refine z_if_ne (tgt := 267) dX12_readsPoint_125 rfl (fun h125 => ?_) (fun h => absurd (by omega) h)
              refine z_aload_n dX12_readsPoint_267 rfl ?_
              refine z_gIv f_wrong rfl flX12_487 dX12_readsPoint_268 (sh_M hE) rfl hw1 ?_
              refine z_if_le (tgt := 275) dX12_readsPoint_271 rfl (fun h => absurd h (by omega)) (fun h271 => ?_)
              refine z_vret dX12_readsPoint_274 rfl rfl ?_
              have eA : pPoint (mK m) (m a_c) p = (kMis (mK m) p, p, m a_c, p) := by unfold pPoint; rw [show pVe (mK m) p = zb (kWd (mK m) p 318702192) by unfold pVe; rw [if_neg h7], show pP1 (mK m) p = p by unfold pP1; rw [if_neg h7], if_neg (not_not_intro ⟨by omega, fun h => h45 h.2⟩), if_pos (by rintro (h | h); exact h81 h; exact h90 h)]
              rw [eA]
              refine ⟨rfl, ?_⟩
              exact ⟨z1, hw1, fun _ => ha1, fun h => absurd (show (kMis (mK m) p : Int) = 0 from h) (by first | exact kMis_ne | decide), fun x hx => congrFun ha_c1 x⟩
            · refine z_iconst dX12_readsPoint_93 (by decide) ?_
              refine z_goto (tgt := 98) dX12_readsPoint_94 rfl ?_
              refine z_callV mlX12_506 dX12_readsPoint_98 (sh_M hE) (av := [_]) rfl rfl (Nat.le_of_ble_eq_true rfl) (x_takesT _ hE hB0 hw0 p ht0 (by rw [hn0]; exact kSo_lt hok hne)) (Nat.le_refl _) (Nat.le_refl _) (Nat.le_refl _) (Nat.le_refl _) ?_
              rintro _ m1 ⟨rfl, f1, t1⟩
              have hB1 := mB_fr hB0 (zfr_sub f1 (by decide))
              have hK1 : mK m1 = mK m := (mK_fr f1 (by decide)).trans hK0
              have hw1 : m1 aM f_wrong = 0 := (zfr_at f1 (by decide)).trans hw0
              have z1 : zfr fTh m m1 := zfr_tr z0 (zfr_sub f1 (by decide))
              have hn1 : m1 aM f_end = m aM f_end := (zfr_at f1 (by decide)).trans hn0
              have hm1 : ptM m1 := hB1.1
              have ha_c1 : m1 a_c = m a_c := (zfr_cell f1 (by decide)).trans ha_c0
              rw [hK0] at t1
              obtain ⟨p1, e1⟩ : ∃ x, x = kR (mK m) p := ⟨_, rfl⟩
              rw [← e1] at t1
              have ht1 := t1
              refine z_aload_n dX12_readsPoint_101 rfl ?_
              refine z_aload_n dX12_readsPoint_102 rfl ?_
              refine z_gP 0 rfl (r := a_c) flX12_7 dX12_readsPoint_103 (sh_M hE) rfl (pt_c hm1) (by decide) ?_
              refine z_iconst dX12_readsPoint_106 (by decide) ?_
              refine z_ialv dX12_readsPoint_107 (sh_c hE) (by omega) (by omega) (congrFun ha_c1 2) ?_
              refine z_callV mlX12_120 dX12_readsPoint_108 (sh_M hE) (av := [_]) rfl rfl (Nat.le_of_ble_eq_true rfl) (r_at _ hE hm1 (m a_c 2) (by omega) (by omega)) (Nat.le_refl _) (Nat.le_refl _) (Nat.le_refl _) (Nat.le_refl _) ?_
              rintro _ _ ⟨rfl, rfl⟩
              refine z_ist 3 dX12_readsPoint_111 rfl (Nat.le_of_ble_eq_true rfl) ?_
              refine z_iconst dX12_readsPoint_112 (by decide) ?_
              refine z_istore dX12_readsPoint_113 (Nat.le_of_ble_eq_true rfl) ?_
              refine z_aload_n dX12_readsPoint_115 rfl ?_
              try dsimp only [zs0, zsI, zsP, zsN, zsJ, zsS, zst2, Nat.reduceAdd]
              refine z_callV mlX12_517 dX12_readsPoint_116 (sh_M hE) (av := _) rfl rfl (Nat.le_of_ble_eq_true rfl) (by have h := x_lettersTold (d + 1) hE hB1 (by rw [ha_c1]; exact hwf); rw [ha_c1] at h; exact h) (Nat.le_refl _) (Nat.le_refl _) (Nat.le_refl _) (Nat.le_refl _) ?_
              rintro _ _ ⟨rfl, rfl⟩
              refine z_istore dX12_readsPoint_119 (Nat.le_of_ble_eq_true rfl) ?_
              try dsimp only [zs0, zsI, zsP, zsN, zsJ, zsS, zst2, Nat.reduceAdd]
              have hpr := cPre_rg hwf
              refine l_readsPoint d hE (32 + 9 * m a_c 2) (cPre (m a_c) (m a_c 2).toNat) (zb (kWd (mK m) p 318702192)) (zb (kWd (mK m) p 209220123)) (by omega) (by omega) (zb01 _) (zb01 _) 7 0 p1 m1 hB1 hw1 ht1 (by rw [ha_c1]; exact hc0) (by rw [ha_c1]; exact hc2) (by omega) (by omega) (fun m9 g => ?_)
              have eA : pPoint (mK m) (m a_c) p = pRow (mK m) (32 + 9 * m a_c 2) (cPre (m a_c) (m a_c 2).toNat) (zb (kWd (mK m) p 318702192)) (zb (kWd (mK m) p 209220123)) 7 (m a_c) 0 p1 := by unfold pPoint; rw [show pVe (mK m) p = zb (kWd (mK m) p 318702192) by unfold pVe; rw [if_neg h7], show pP1 (mK m) p = p by unfold pP1; rw [if_neg h7], if_neg (not_not_intro ⟨by omega, fun h => h45 h.2⟩), if_neg (not_not_intro (Or.inr h90)), ← e1]
              rw [hK1, ha_c1, ← eA] at g
              exact ⟨rfl, zfr_tr z1 g.1, g.2.1, g.2.2.1, g.2.2.2.1, fun x hx => (g.2.2.2.2 x hx).trans (congrFun ha_c1 x)⟩
  · refine z_aload_n dX12_readsPoint_10 rfl ?_
    refine z_callV mlX12_513 dX12_readsPoint_11 (sh_M hE) (av := _) rfl rfl (Nat.le_of_ble_eq_true rfl) (x_isVertexBehind _ hE hB0 hw0 p ht0 (kSo_1.mp h7.1)) (Nat.le_refl _) (Nat.le_refl _) (Nat.le_refl _) (Nat.le_refl _) ?_
    rintro _ m1 ⟨rfl, f1, ht1⟩
    have hB1 := mB_fr hB0 (zfr_sub f1 (by decide))
    have hK1 : mK m1 = mK m := (mK_fr f1 (by decide)).trans hK0
    have hw1 : m1 aM f_wrong = 0 := (zfr_at f1 (by decide)).trans hw0
    have z1 : zfr fTh m m1 := zfr_tr z0 (zfr_sub f1 (by decide))
    have hn1 : m1 aM f_end = m aM f_end := (zfr_at f1 (by decide)).trans hn0
    have hm1 : ptM m1 := hB1.1
    have ha_c1 : m1 a_c = m a_c := (zfr_cell f1 (by decide)).trans ha_c0
    refine z_goto (tgt := 23) dX12_readsPoint_14 rfl ?_
    refine z_ist 2 dX12_readsPoint_23 rfl (Nat.le_of_ble_eq_true rfl) ?_
    refine z_aload_n dX12_readsPoint_24 rfl ?_
    refine z_aload_n dX12_readsPoint_25 rfl ?_
    refine z_gP 0 rfl (r := a_c) flX12_7 dX12_readsPoint_26 (sh_M hE) rfl (pt_c hm1) (by decide) ?_
    refine z_iconst dX12_readsPoint_29 (by decide) ?_
    refine z_ialv dX12_readsPoint_30 (sh_c hE) (by omega) (by omega) (congrFun ha_c1 2) ?_
    refine z_bipush dX12_readsPoint_31 rfl (by decide) ?_
    try dsimp only [zs0, zsI, zsP, zsN, zsJ, zsS, zst2, Nat.reduceAdd]
    refine z_icmp_ge (tgt := 52) dX12_readsPoint_33 rfl (fun h33 => ?_) (fun h33 => ?_)
    · refine z_iconst dX12_readsPoint_52 (by decide) ?_
      refine z_bipush dX12_readsPoint_53 rfl (by decide) ?_
      refine z_callV mlX12_493 dX12_readsPoint_55 (sh_M hE) (av := [_, _]) rfl rfl (Nat.le_of_ble_eq_true rfl) (x_mustK _ hE hB1 hw1 p ht1 6 (by decide)) (Nat.le_refl _) (Nat.le_refl _) (Nat.le_refl _) (Nat.le_refl _) ?_
      rintro _ m2 ⟨rfl, b2⟩
      have hB2 : mB m2 := b2 ▸ mB_bad hB1
      have hw2 : m2 aM f_wrong = 6 := b2 ▸ mBad_w
      have ha2 : m2 aM f_wrongAt = p := b2 ▸ mBad_a
      have z2 : zfr fTh m m2 := b2 ▸ zfr_uj (zfr_uj z1 (by decide)) (by decide)
      have hd2 : 0 < m2 aM f_wrong := by rw [hw2]; first | exact kMis_pos | decide
      have hm2 : ptM m2 := hB2.1
      have ha_c2 : m2 a_c = m a_c := (b2 ▸ (zu_fn (by decide)).trans (zu_fn (by decide)) : m2 a_c = m1 a_c).trans ha_c1
      refine z_aload_n dX12_readsPoint_58 rfl ?_
      refine z_gIv f_wrong rfl flX12_487 dX12_readsPoint_59 (sh_M hE) rfl hw2 ?_
      refine z_if_le (tgt := 66) dX12_readsPoint_62 rfl (fun h => absurd h (by omega)) (fun h62 => ?_)
      refine z_vret dX12_readsPoint_65 rfl rfl ?_
      have eA : pPoint (mK m) (m a_c) p = (6, p, m a_c, p) := by unfold pPoint; rw [show pVe (mK m) p = zb (kWd (mK m) (kR (mK m) p) 318702192) by unfold pVe; rw [if_pos h7], show pP1 (mK m) p = kR (mK m) p by unfold pP1; rw [if_pos h7], if_pos (fun h => absurd h.1 (by omega))]
      rw [eA]
      refine ⟨rfl, ?_⟩
      exact ⟨z2, hw2, fun _ => ha2, fun h => absurd (show (6 : Int) = 0 from h) (by first | exact kMis_ne | decide), fun x hx => congrFun ha_c2 x⟩
    · refine z_iload_n dX12_readsPoint_36 rfl ?_
      refine z_ifz_eq (tgt := 48) dX12_readsPoint_37 rfl (fun h37 => ?_) (fun h37 => ?_)
      · refine z_iconst dX12_readsPoint_48 (by decide) ?_
        refine z_goto (tgt := 53) dX12_readsPoint_49 rfl ?_
        refine z_bipush dX12_readsPoint_53 rfl (by decide) ?_
        refine z_callV mlX12_493 dX12_readsPoint_55 (sh_M hE) (av := [_, _]) rfl rfl (Nat.le_of_ble_eq_true rfl) (x_mustT _ hE hB1 1 6 (Or.inl (by decide))) (Nat.le_refl _) (Nat.le_refl _) (Nat.le_refl _) (Nat.le_refl _) ?_
        rintro _ _ ⟨rfl, rfl⟩
        refine z_aload_n dX12_readsPoint_58 rfl ?_
        refine z_gIv f_wrong rfl flX12_487 dX12_readsPoint_59 (sh_M hE) rfl hw1 ?_
        refine z_if_le (tgt := 66) dX12_readsPoint_62 rfl (fun h62 => ?_) (fun h => absurd (by omega) h)
        refine z_iload_n dX12_readsPoint_66 rfl ?_
        refine z_ifz_eq (tgt := 74) dX12_readsPoint_67 rfl (fun h => absurd h7 h) (fun h67 => ?_)
        refine z_aload_n dX12_readsPoint_70 rfl ?_
        refine z_callV mlX12_497 dX12_readsPoint_71 (sh_M hE) (av := _) rfl rfl (Nat.le_of_ble_eq_true rfl) (x_reads _ hE hB1 hw1 p ht1 (by rw [hn1]; exact kSo_lt hok (by rw [h7.1]; decide))) (Nat.le_refl _) (Nat.le_refl _) (Nat.le_refl _) (Nat.le_refl _) ?_
        rintro _ m2 ⟨rfl, f2, t2⟩
        have hB2 := mB_fr hB1 (zfr_sub f2 (by decide))
        have hK2 : mK m2 = mK m := (mK_fr f2 (by decide)).trans hK1
        have hw2 : m2 aM f_wrong = 0 := (zfr_at f2 (by decide)).trans hw1
        have z2 : zfr fTh m m2 := zfr_tr z1 (zfr_sub f2 (by decide))
        have hn2 : m2 aM f_end = m aM f_end := (zfr_at f2 (by decide)).trans hn1
        have hm2 : ptM m2 := hB2.1
        have ha_c2 : m2 a_c = m a_c := (zfr_cell f2 (by decide)).trans ha_c1
        rw [hK1] at t2
        obtain ⟨p2, e2⟩ : ∃ x, x = kR (mK m) p := ⟨_, rfl⟩
        rw [← e2] at t2
        have ht2 := t2
        refine z_aload_n dX12_readsPoint_74 rfl ?_
        refine z_aload_n dX12_readsPoint_75 rfl ?_
        refine z_bipush dX12_readsPoint_76 rfl (by decide) ?_
        refine z_callV mlX12_503 dX12_readsPoint_78 (sh_M hE) (av := [_]) rfl rfl (Nat.le_of_ble_eq_true rfl) (by have h := x_isWord (d + 3) hE hB2 hw2 p2 ht2 7 318702192 (by decide) (by decide) hB2.2.2.2.2.2.2.2.2.2.2; rw [hK2] at h; exact h) (Nat.le_refl _) (Nat.le_refl _) (Nat.le_refl _) (Nat.le_refl _) ?_
        rintro _ _ ⟨rfl, rfl⟩
        refine z_ifz_ne (tgt := 93) dX12_readsPoint_81 rfl (fun h81 => ?_) (fun h81 => ?_)
        · refine z_iconst dX12_readsPoint_93 (by decide) ?_
          refine z_goto (tgt := 98) dX12_readsPoint_94 rfl ?_
          refine z_callV mlX12_506 dX12_readsPoint_98 (sh_M hE) (av := [_]) rfl rfl (Nat.le_of_ble_eq_true rfl) (x_takesT _ hE hB2 hw2 p2 ht2 (by rw [hn2]; exact kSo_lt hok (by omega))) (Nat.le_refl _) (Nat.le_refl _) (Nat.le_refl _) (Nat.le_refl _) ?_
          rintro _ m3 ⟨rfl, f3, t3⟩
          have hB3 := mB_fr hB2 (zfr_sub f3 (by decide))
          have hK3 : mK m3 = mK m := (mK_fr f3 (by decide)).trans hK2
          have hw3 : m3 aM f_wrong = 0 := (zfr_at f3 (by decide)).trans hw2
          have z3 : zfr fTh m m3 := zfr_tr z2 (zfr_sub f3 (by decide))
          have hn3 : m3 aM f_end = m aM f_end := (zfr_at f3 (by decide)).trans hn2
          have hm3 : ptM m3 := hB3.1
          have ha_c3 : m3 a_c = m a_c := (zfr_cell f3 (by decide)).trans ha_c2
          rw [hK2] at t3
          obtain ⟨p3, e3⟩ : ∃ x, x = kR (mK m) p2 := ⟨_, rfl⟩
          rw [← e3] at t3
          have ht3 := t3
          refine z_aload_n dX12_readsPoint_101 rfl ?_
          refine z_aload_n dX12_readsPoint_102 rfl ?_
          refine z_gP 0 rfl (r := a_c) flX12_7 dX12_readsPoint_103 (sh_M hE) rfl (pt_c hm3) (by decide) ?_
          refine z_iconst dX12_readsPoint_106 (by decide) ?_
          refine z_ialv dX12_readsPoint_107 (sh_c hE) (by omega) (by omega) (congrFun ha_c3 2) ?_
          refine z_callV mlX12_120 dX12_readsPoint_108 (sh_M hE) (av := [_]) rfl rfl (Nat.le_of_ble_eq_true rfl) (r_at _ hE hm3 (m a_c 2) (by omega) (by omega)) (Nat.le_refl _) (Nat.le_refl _) (Nat.le_refl _) (Nat.le_refl _) ?_
          rintro _ _ ⟨rfl, rfl⟩
          refine z_ist 3 dX12_readsPoint_111 rfl (Nat.le_of_ble_eq_true rfl) ?_
          refine z_iconst dX12_readsPoint_112 (by decide) ?_
          refine z_istore dX12_readsPoint_113 (Nat.le_of_ble_eq_true rfl) ?_
          refine z_aload_n dX12_readsPoint_115 rfl ?_
          try dsimp only [zs0, zsI, zsP, zsN, zsJ, zsS, zst2, Nat.reduceAdd]
          refine z_callV mlX12_517 dX12_readsPoint_116 (sh_M hE) (av := _) rfl rfl (Nat.le_of_ble_eq_true rfl) (by have h := x_lettersTold (d + 1) hE hB3 (by rw [ha_c3]; exact hwf); rw [ha_c3] at h; exact h) (Nat.le_refl _) (Nat.le_refl _) (Nat.le_refl _) (Nat.le_refl _) ?_
          rintro _ _ ⟨rfl, rfl⟩
          refine z_istore dX12_readsPoint_119 (Nat.le_of_ble_eq_true rfl) ?_
          try dsimp only [zs0, zsI, zsP, zsN, zsJ, zsS, zst2, Nat.reduceAdd]
          have hpr := cPre_rg hwf
          refine l_readsPoint d hE (32 + 9 * m a_c 2) (cPre (m a_c) (m a_c 2).toNat) (zb (kWd (mK m) (kR (mK m) p) 318702192)) (zb (kWd (mK m) p 209220123)) (by omega) (by omega) (zb01 _) (zb01 _) 7 0 p3 m3 hB3 hw3 ht3 (by rw [ha_c3]; exact hc0) (by rw [ha_c3]; exact hc2) (by omega) (by omega) (fun m9 g => ?_)
          have eA : pPoint (mK m) (m a_c) p = pRow (mK m) (32 + 9 * m a_c 2) (cPre (m a_c) (m a_c 2).toNat) (zb (kWd (mK m) (kR (mK m) p) 318702192)) (zb (kWd (mK m) p 209220123)) 7 (m a_c) 0 p3 := by unfold pPoint; rw [show pVe (mK m) p = zb (kWd (mK m) (kR (mK m) p) 318702192) by unfold pVe; rw [if_pos h7], show pP1 (mK m) p = kR (mK m) p by unfold pP1; rw [if_pos h7], if_neg (not_not_intro ⟨by omega, fun h => absurd h.1 (by rw [zb_f h37]; decide)⟩), ← e2, if_neg (not_not_intro (Or.inl h81)), ← e3]
          rw [hK3, ha_c3, ← eA] at g
          exact ⟨rfl, zfr_tr z3 g.1, g.2.1, g.2.2.1, g.2.2.2.1, fun x hx => (g.2.2.2.2 x hx).trans (congrFun ha_c3 x)⟩
        · refine z_aload_n dX12_readsPoint_84 rfl ?_
          refine z_bipush dX12_readsPoint_85 rfl (by decide) ?_
          refine z_callV mlX12_503 dX12_readsPoint_87 (sh_M hE) (av := [_]) rfl rfl (Nat.le_of_ble_eq_true rfl) (by have h := x_isWord (d + 3) hE hB2 hw2 p2 ht2 6 8399691 (by decide) (by decide) hB2.2.2.2.2.2.2.2.2.2.1; rw [hK2] at h; exact h) (Nat.le_refl _) (Nat.le_refl _) (Nat.le_refl _) (Nat.le_refl _) ?_
          rintro _ _ ⟨rfl, rfl⟩
          refine z_ifz_eq (tgt := 97) dX12_readsPoint_90 rfl (fun h90 => ?_) (fun h90 => ?_)
          · refine z_iconst dX12_readsPoint_97 (by decide) ?_
            refine z_callV mlX12_506 dX12_readsPoint_98 (sh_M hE) (av := [_]) rfl rfl (Nat.le_of_ble_eq_true rfl) (by have h := x_takesF (d) hE hB2 hw2 p2 ht2; rw [hK2] at h; exact h) (Nat.le_refl _) (Nat.le_refl _) (Nat.le_refl _) (Nat.le_refl _) ?_
            rintro _ m3 ⟨rfl, b3⟩
            have hB3 : mB m3 := b3 ▸ mB_bad hB2
            have hw3 : m3 aM f_wrong = kMis (mK m) p2 := b3 ▸ mBad_w
            have ha3 : m3 aM f_wrongAt = p2 := b3 ▸ mBad_a
            have z3 : zfr fTh m m3 := b3 ▸ zfr_uj (zfr_uj z2 (by decide)) (by decide)
            have hd3 : 0 < m3 aM f_wrong := by rw [hw3]; first | exact kMis_pos | decide
            have hm3 : ptM m3 := hB3.1
            have ha_c3 : m3 a_c = m a_c := (b3 ▸ (zu_fn (by decide)).trans (zu_fn (by decide)) : m3 a_c = m2 a_c).trans ha_c2
            refine z_aload_n dX12_readsPoint_101 rfl ?_
            refine z_aload_n dX12_readsPoint_102 rfl ?_
            refine z_gP 0 rfl (r := a_c) flX12_7 dX12_readsPoint_103 (sh_M hE) rfl (pt_c hm3) (by decide) ?_
            refine z_iconst dX12_readsPoint_106 (by decide) ?_
            refine z_ialv dX12_readsPoint_107 (sh_c hE) (by omega) (by omega) (congrFun ha_c3 2) ?_
            refine z_callV mlX12_120 dX12_readsPoint_108 (sh_M hE) (av := [_]) rfl rfl (Nat.le_of_ble_eq_true rfl) (r_at _ hE hm3 (m a_c 2) (by omega) (by omega)) (Nat.le_refl _) (Nat.le_refl _) (Nat.le_refl _) (Nat.le_refl _) ?_
            rintro _ _ ⟨rfl, rfl⟩
            refine z_ist 3 dX12_readsPoint_111 rfl (Nat.le_of_ble_eq_true rfl) ?_
            refine z_iconst dX12_readsPoint_112 (by decide) ?_
            refine z_istore dX12_readsPoint_113 (Nat.le_of_ble_eq_true rfl) ?_
            refine z_aload_n dX12_readsPoint_115 rfl ?_
            try dsimp only [zs0, zsI, zsP, zsN, zsJ, zsS, zst2, Nat.reduceAdd]
            refine z_callV mlX12_517 dX12_readsPoint_116 (sh_M hE) (av := _) rfl rfl (Nat.le_of_ble_eq_true rfl) (by have h := x_lettersTold (d + 1) hE hB3 (by rw [ha_c3]; exact hwf); rw [ha_c3] at h; exact h) (Nat.le_refl _) (Nat.le_refl _) (Nat.le_refl _) (Nat.le_refl _) ?_
            rintro _ _ ⟨rfl, rfl⟩
            refine z_istore dX12_readsPoint_119 (Nat.le_of_ble_eq_true rfl) ?_
            try dsimp only [zs0, zsI, zsP, zsN, zsJ, zsS, zst2, Nat.reduceAdd]
            refine z_aload_n dX12_readsPoint_121 rfl ?_
            refine z_gIv f_wrong rfl flX12_487 dX12_readsPoint_122 (sh_M hE) rfl hw3 ?_
            refine z_if_ne (tgt := 267) dX12_readsPoint_125 rfl (fun h125 => ?_) (fun h => absurd (by omega) h)
            refine z_aload_n dX12_readsPoint_267 rfl ?_
            refine z_gIv f_wrong rfl flX12_487 dX12_readsPoint_268 (sh_M hE) rfl hw3 ?_
            refine z_if_le (tgt := 275) dX12_readsPoint_271 rfl (fun h => absurd h (by omega)) (fun h271 => ?_)
            refine z_vret dX12_readsPoint_274 rfl rfl ?_
            have eA : pPoint (mK m) (m a_c) p = (kMis (mK m) p2, p2, m a_c, p) := by unfold pPoint; rw [show pVe (mK m) p = zb (kWd (mK m) (kR (mK m) p) 318702192) by unfold pVe; rw [if_pos h7], show pP1 (mK m) p = kR (mK m) p by unfold pP1; rw [if_pos h7], if_neg (not_not_intro ⟨by omega, fun h => absurd h.1 (by rw [zb_f h37]; decide)⟩), ← e2, if_pos (by rintro (h | h); exact h81 h; exact h90 h)]
            rw [eA]
            refine ⟨rfl, ?_⟩
            exact ⟨z3, hw3, fun _ => ha3, fun h => absurd (show (kMis (mK m) p2 : Int) = 0 from h) (by first | exact kMis_ne | decide), fun x hx => congrFun ha_c3 x⟩
          · refine z_iconst dX12_readsPoint_93 (by decide) ?_
            refine z_goto (tgt := 98) dX12_readsPoint_94 rfl ?_
            refine z_callV mlX12_506 dX12_readsPoint_98 (sh_M hE) (av := [_]) rfl rfl (Nat.le_of_ble_eq_true rfl) (x_takesT _ hE hB2 hw2 p2 ht2 (by rw [hn2]; exact kSo_lt hok (by omega))) (Nat.le_refl _) (Nat.le_refl _) (Nat.le_refl _) (Nat.le_refl _) ?_
            rintro _ m3 ⟨rfl, f3, t3⟩
            have hB3 := mB_fr hB2 (zfr_sub f3 (by decide))
            have hK3 : mK m3 = mK m := (mK_fr f3 (by decide)).trans hK2
            have hw3 : m3 aM f_wrong = 0 := (zfr_at f3 (by decide)).trans hw2
            have z3 : zfr fTh m m3 := zfr_tr z2 (zfr_sub f3 (by decide))
            have hn3 : m3 aM f_end = m aM f_end := (zfr_at f3 (by decide)).trans hn2
            have hm3 : ptM m3 := hB3.1
            have ha_c3 : m3 a_c = m a_c := (zfr_cell f3 (by decide)).trans ha_c2
            rw [hK2] at t3
            obtain ⟨p3, e3⟩ : ∃ x, x = kR (mK m) p2 := ⟨_, rfl⟩
            rw [← e3] at t3
            have ht3 := t3
            refine z_aload_n dX12_readsPoint_101 rfl ?_
            refine z_aload_n dX12_readsPoint_102 rfl ?_
            refine z_gP 0 rfl (r := a_c) flX12_7 dX12_readsPoint_103 (sh_M hE) rfl (pt_c hm3) (by decide) ?_
            refine z_iconst dX12_readsPoint_106 (by decide) ?_
            refine z_ialv dX12_readsPoint_107 (sh_c hE) (by omega) (by omega) (congrFun ha_c3 2) ?_
            refine z_callV mlX12_120 dX12_readsPoint_108 (sh_M hE) (av := [_]) rfl rfl (Nat.le_of_ble_eq_true rfl) (r_at _ hE hm3 (m a_c 2) (by omega) (by omega)) (Nat.le_refl _) (Nat.le_refl _) (Nat.le_refl _) (Nat.le_refl _) ?_
            rintro _ _ ⟨rfl, rfl⟩
            refine z_ist 3 dX12_readsPoint_111 rfl (Nat.le_of_ble_eq_true rfl) ?_
            refine z_iconst dX12_readsPoint_112 (by decide) ?_
            refine z_istore dX12_readsPoint_113 (Nat.le_of_ble_eq_true rfl) ?_
            refine z_aload_n dX12_readsPoint_115 rfl ?_
            try dsimp only [zs0, zsI, zsP, zsN, zsJ, zsS, zst2, Nat.reduceAdd]
            refine z_callV mlX12_517 dX12_readsPoint_116 (sh_M hE) (av := _) rfl rfl (Nat.le_of_ble_eq_true rfl) (by have h := x_lettersTold (d + 1) hE hB3 (by rw [ha_c3]; exact hwf); rw [ha_c3] at h; exact h) (Nat.le_refl _) (Nat.le_refl _) (Nat.le_refl _) (Nat.le_refl _) ?_
            rintro _ _ ⟨rfl, rfl⟩
            refine z_istore dX12_readsPoint_119 (Nat.le_of_ble_eq_true rfl) ?_
            try dsimp only [zs0, zsI, zsP, zsN, zsJ, zsS, zst2, Nat.reduceAdd]
            have hpr := cPre_rg hwf
            refine l_readsPoint d hE (32 + 9 * m a_c 2) (cPre (m a_c) (m a_c 2).toNat) (zb (kWd (mK m) (kR (mK m) p) 318702192)) (zb (kWd (mK m) p 209220123)) (by omega) (by omega) (zb01 _) (zb01 _) 7 0 p3 m3 hB3 hw3 ht3 (by rw [ha_c3]; exact hc0) (by rw [ha_c3]; exact hc2) (by omega) (by omega) (fun m9 g => ?_)
            have eA : pPoint (mK m) (m a_c) p = pRow (mK m) (32 + 9 * m a_c 2) (cPre (m a_c) (m a_c 2).toNat) (zb (kWd (mK m) (kR (mK m) p) 318702192)) (zb (kWd (mK m) p 209220123)) 7 (m a_c) 0 p3 := by unfold pPoint; rw [show pVe (mK m) p = zb (kWd (mK m) (kR (mK m) p) 318702192) by unfold pVe; rw [if_pos h7], show pP1 (mK m) p = kR (mK m) p by unfold pP1; rw [if_pos h7], if_neg (not_not_intro ⟨by omega, fun h => absurd h.1 (by rw [zb_f h37]; decide)⟩), ← e2, if_neg (not_not_intro (Or.inr h90)), ← e3]
            rw [hK3, ha_c3, ← eA] at g
            exact ⟨rfl, zfr_tr z3 g.1, g.2.1, g.2.2.1, g.2.2.2.1, fun x hx => (g.2.2.2.2 x hx).trans (congrFun ha_c3 x)⟩
      · refine z_aload_n dX12_readsPoint_40 rfl ?_
        refine z_callV mlX12_313 dX12_readsPoint_41 (sh_M hE) (av := _) rfl rfl (Nat.le_of_ble_eq_true rfl) (by have h := r_vertices (d + 2) hE hm1 (by rw [ha_c1]; exact hwf); rw [ha_c1] at h; exact h) (Nat.le_refl _) (Nat.le_refl _) (Nat.le_refl _) (Nat.le_refl _) ?_
        rintro _ _ ⟨rfl, rfl⟩
        refine z_iconst dX12_readsPoint_44 (by decide) ?_
        refine z_icmp_eq (tgt := 52) dX12_readsPoint_45 rfl (fun h45 => ?_) (fun h45 => ?_)
        · refine z_iconst dX12_readsPoint_52 (by decide) ?_
          refine z_bipush dX12_readsPoint_53 rfl (by decide) ?_
          refine z_callV mlX12_493 dX12_readsPoint_55 (sh_M hE) (av := [_, _]) rfl rfl (Nat.le_of_ble_eq_true rfl) (x_mustK _ hE hB1 hw1 p ht1 6 (by decide)) (Nat.le_refl _) (Nat.le_refl _) (Nat.le_refl _) (Nat.le_refl _) ?_
          rintro _ m2 ⟨rfl, b2⟩
          have hB2 : mB m2 := b2 ▸ mB_bad hB1
          have hw2 : m2 aM f_wrong = 6 := b2 ▸ mBad_w
          have ha2 : m2 aM f_wrongAt = p := b2 ▸ mBad_a
          have z2 : zfr fTh m m2 := b2 ▸ zfr_uj (zfr_uj z1 (by decide)) (by decide)
          have hd2 : 0 < m2 aM f_wrong := by rw [hw2]; first | exact kMis_pos | decide
          have hm2 : ptM m2 := hB2.1
          have ha_c2 : m2 a_c = m a_c := (b2 ▸ (zu_fn (by decide)).trans (zu_fn (by decide)) : m2 a_c = m1 a_c).trans ha_c1
          refine z_aload_n dX12_readsPoint_58 rfl ?_
          refine z_gIv f_wrong rfl flX12_487 dX12_readsPoint_59 (sh_M hE) rfl hw2 ?_
          refine z_if_le (tgt := 66) dX12_readsPoint_62 rfl (fun h => absurd h (by omega)) (fun h62 => ?_)
          refine z_vret dX12_readsPoint_65 rfl rfl ?_
          have eA : pPoint (mK m) (m a_c) p = (6, p, m a_c, p) := by unfold pPoint; rw [show pVe (mK m) p = zb (kWd (mK m) (kR (mK m) p) 318702192) by unfold pVe; rw [if_pos h7], show pP1 (mK m) p = kR (mK m) p by unfold pP1; rw [if_pos h7], if_pos (fun h => h.2 ⟨by rw [zb_t h37], h45⟩)]
          rw [eA]
          refine ⟨rfl, ?_⟩
          exact ⟨z2, hw2, fun _ => ha2, fun h => absurd (show (6 : Int) = 0 from h) (by first | exact kMis_ne | decide), fun x hx => congrFun ha_c2 x⟩
        · refine z_iconst dX12_readsPoint_48 (by decide) ?_
          refine z_goto (tgt := 53) dX12_readsPoint_49 rfl ?_
          refine z_bipush dX12_readsPoint_53 rfl (by decide) ?_
          refine z_callV mlX12_493 dX12_readsPoint_55 (sh_M hE) (av := [_, _]) rfl rfl (Nat.le_of_ble_eq_true rfl) (x_mustT _ hE hB1 1 6 (Or.inl (by decide))) (Nat.le_refl _) (Nat.le_refl _) (Nat.le_refl _) (Nat.le_refl _) ?_
          rintro _ _ ⟨rfl, rfl⟩
          refine z_aload_n dX12_readsPoint_58 rfl ?_
          refine z_gIv f_wrong rfl flX12_487 dX12_readsPoint_59 (sh_M hE) rfl hw1 ?_
          refine z_if_le (tgt := 66) dX12_readsPoint_62 rfl (fun h62 => ?_) (fun h => absurd (by omega) h)
          refine z_iload_n dX12_readsPoint_66 rfl ?_
          refine z_ifz_eq (tgt := 74) dX12_readsPoint_67 rfl (fun h => absurd h7 h) (fun h67 => ?_)
          refine z_aload_n dX12_readsPoint_70 rfl ?_
          refine z_callV mlX12_497 dX12_readsPoint_71 (sh_M hE) (av := _) rfl rfl (Nat.le_of_ble_eq_true rfl) (x_reads _ hE hB1 hw1 p ht1 (by rw [hn1]; exact kSo_lt hok (by rw [h7.1]; decide))) (Nat.le_refl _) (Nat.le_refl _) (Nat.le_refl _) (Nat.le_refl _) ?_
          rintro _ m2 ⟨rfl, f2, t2⟩
          have hB2 := mB_fr hB1 (zfr_sub f2 (by decide))
          have hK2 : mK m2 = mK m := (mK_fr f2 (by decide)).trans hK1
          have hw2 : m2 aM f_wrong = 0 := (zfr_at f2 (by decide)).trans hw1
          have z2 : zfr fTh m m2 := zfr_tr z1 (zfr_sub f2 (by decide))
          have hn2 : m2 aM f_end = m aM f_end := (zfr_at f2 (by decide)).trans hn1
          have hm2 : ptM m2 := hB2.1
          have ha_c2 : m2 a_c = m a_c := (zfr_cell f2 (by decide)).trans ha_c1
          rw [hK1] at t2
          obtain ⟨p2, e2⟩ : ∃ x, x = kR (mK m) p := ⟨_, rfl⟩
          rw [← e2] at t2
          have ht2 := t2
          refine z_aload_n dX12_readsPoint_74 rfl ?_
          refine z_aload_n dX12_readsPoint_75 rfl ?_
          refine z_bipush dX12_readsPoint_76 rfl (by decide) ?_
          refine z_callV mlX12_503 dX12_readsPoint_78 (sh_M hE) (av := [_]) rfl rfl (Nat.le_of_ble_eq_true rfl) (by have h := x_isWord (d + 3) hE hB2 hw2 p2 ht2 7 318702192 (by decide) (by decide) hB2.2.2.2.2.2.2.2.2.2.2; rw [hK2] at h; exact h) (Nat.le_refl _) (Nat.le_refl _) (Nat.le_refl _) (Nat.le_refl _) ?_
          rintro _ _ ⟨rfl, rfl⟩
          refine z_ifz_ne (tgt := 93) dX12_readsPoint_81 rfl (fun h81 => ?_) (fun h81 => ?_)
          · refine z_iconst dX12_readsPoint_93 (by decide) ?_
            refine z_goto (tgt := 98) dX12_readsPoint_94 rfl ?_
            refine z_callV mlX12_506 dX12_readsPoint_98 (sh_M hE) (av := [_]) rfl rfl (Nat.le_of_ble_eq_true rfl) (x_takesT _ hE hB2 hw2 p2 ht2 (by rw [hn2]; exact kSo_lt hok (by omega))) (Nat.le_refl _) (Nat.le_refl _) (Nat.le_refl _) (Nat.le_refl _) ?_
            rintro _ m3 ⟨rfl, f3, t3⟩
            have hB3 := mB_fr hB2 (zfr_sub f3 (by decide))
            have hK3 : mK m3 = mK m := (mK_fr f3 (by decide)).trans hK2
            have hw3 : m3 aM f_wrong = 0 := (zfr_at f3 (by decide)).trans hw2
            have z3 : zfr fTh m m3 := zfr_tr z2 (zfr_sub f3 (by decide))
            have hn3 : m3 aM f_end = m aM f_end := (zfr_at f3 (by decide)).trans hn2
            have hm3 : ptM m3 := hB3.1
            have ha_c3 : m3 a_c = m a_c := (zfr_cell f3 (by decide)).trans ha_c2
            rw [hK2] at t3
            obtain ⟨p3, e3⟩ : ∃ x, x = kR (mK m) p2 := ⟨_, rfl⟩
            rw [← e3] at t3
            have ht3 := t3
            refine z_aload_n dX12_readsPoint_101 rfl ?_
            refine z_aload_n dX12_readsPoint_102 rfl ?_
            refine z_gP 0 rfl (r := a_c) flX12_7 dX12_readsPoint_103 (sh_M hE) rfl (pt_c hm3) (by decide) ?_
            refine z_iconst dX12_readsPoint_106 (by decide) ?_
            refine z_ialv dX12_readsPoint_107 (sh_c hE) (by omega) (by omega) (congrFun ha_c3 2) ?_
            refine z_callV mlX12_120 dX12_readsPoint_108 (sh_M hE) (av := [_]) rfl rfl (Nat.le_of_ble_eq_true rfl) (r_at _ hE hm3 (m a_c 2) (by omega) (by omega)) (Nat.le_refl _) (Nat.le_refl _) (Nat.le_refl _) (Nat.le_refl _) ?_
            rintro _ _ ⟨rfl, rfl⟩
            refine z_ist 3 dX12_readsPoint_111 rfl (Nat.le_of_ble_eq_true rfl) ?_
            refine z_iconst dX12_readsPoint_112 (by decide) ?_
            refine z_istore dX12_readsPoint_113 (Nat.le_of_ble_eq_true rfl) ?_
            refine z_aload_n dX12_readsPoint_115 rfl ?_
            try dsimp only [zs0, zsI, zsP, zsN, zsJ, zsS, zst2, Nat.reduceAdd]
            refine z_callV mlX12_517 dX12_readsPoint_116 (sh_M hE) (av := _) rfl rfl (Nat.le_of_ble_eq_true rfl) (by have h := x_lettersTold (d + 1) hE hB3 (by rw [ha_c3]; exact hwf); rw [ha_c3] at h; exact h) (Nat.le_refl _) (Nat.le_refl _) (Nat.le_refl _) (Nat.le_refl _) ?_
            rintro _ _ ⟨rfl, rfl⟩
            refine z_istore dX12_readsPoint_119 (Nat.le_of_ble_eq_true rfl) ?_
            try dsimp only [zs0, zsI, zsP, zsN, zsJ, zsS, zst2, Nat.reduceAdd]
            have hpr := cPre_rg hwf
            refine l_readsPoint d hE (32 + 9 * m a_c 2) (cPre (m a_c) (m a_c 2).toNat) (zb (kWd (mK m) (kR (mK m) p) 318702192)) (zb (kWd (mK m) p 209220123)) (by omega) (by omega) (zb01 _) (zb01 _) 7 0 p3 m3 hB3 hw3 ht3 (by rw [ha_c3]; exact hc0) (by rw [ha_c3]; exact hc2) (by omega) (by omega) (fun m9 g => ?_)
            have eA : pPoint (mK m) (m a_c) p = pRow (mK m) (32 + 9 * m a_c 2) (cPre (m a_c) (m a_c 2).toNat) (zb (kWd (mK m) (kR (mK m) p) 318702192)) (zb (kWd (mK m) p 209220123)) 7 (m a_c) 0 p3 := by unfold pPoint; rw [show pVe (mK m) p = zb (kWd (mK m) (kR (mK m) p) 318702192) by unfold pVe; rw [if_pos h7], show pP1 (mK m) p = kR (mK m) p by unfold pP1; rw [if_pos h7], if_neg (not_not_intro ⟨by omega, fun h => h45 h.2⟩), ← e2, if_neg (not_not_intro (Or.inl h81)), ← e3]
            rw [hK3, ha_c3, ← eA] at g
            exact ⟨rfl, zfr_tr z3 g.1, g.2.1, g.2.2.1, g.2.2.2.1, fun x hx => (g.2.2.2.2 x hx).trans (congrFun ha_c3 x)⟩
          · refine z_aload_n dX12_readsPoint_84 rfl ?_
            refine z_bipush dX12_readsPoint_85 rfl (by decide) ?_
            refine z_callV mlX12_503 dX12_readsPoint_87 (sh_M hE) (av := [_]) rfl rfl (Nat.le_of_ble_eq_true rfl) (by have h := x_isWord (d + 3) hE hB2 hw2 p2 ht2 6 8399691 (by decide) (by decide) hB2.2.2.2.2.2.2.2.2.2.1; rw [hK2] at h; exact h) (Nat.le_refl _) (Nat.le_refl _) (Nat.le_refl _) (Nat.le_refl _) ?_
            rintro _ _ ⟨rfl, rfl⟩
            refine z_ifz_eq (tgt := 97) dX12_readsPoint_90 rfl (fun h90 => ?_) (fun h90 => ?_)
            · refine z_iconst dX12_readsPoint_97 (by decide) ?_
              refine z_callV mlX12_506 dX12_readsPoint_98 (sh_M hE) (av := [_]) rfl rfl (Nat.le_of_ble_eq_true rfl) (by have h := x_takesF (d) hE hB2 hw2 p2 ht2; rw [hK2] at h; exact h) (Nat.le_refl _) (Nat.le_refl _) (Nat.le_refl _) (Nat.le_refl _) ?_
              rintro _ m3 ⟨rfl, b3⟩
              have hB3 : mB m3 := b3 ▸ mB_bad hB2
              have hw3 : m3 aM f_wrong = kMis (mK m) p2 := b3 ▸ mBad_w
              have ha3 : m3 aM f_wrongAt = p2 := b3 ▸ mBad_a
              have z3 : zfr fTh m m3 := b3 ▸ zfr_uj (zfr_uj z2 (by decide)) (by decide)
              have hd3 : 0 < m3 aM f_wrong := by rw [hw3]; first | exact kMis_pos | decide
              have hm3 : ptM m3 := hB3.1
              have ha_c3 : m3 a_c = m a_c := (b3 ▸ (zu_fn (by decide)).trans (zu_fn (by decide)) : m3 a_c = m2 a_c).trans ha_c2
              refine z_aload_n dX12_readsPoint_101 rfl ?_
              refine z_aload_n dX12_readsPoint_102 rfl ?_
              refine z_gP 0 rfl (r := a_c) flX12_7 dX12_readsPoint_103 (sh_M hE) rfl (pt_c hm3) (by decide) ?_
              refine z_iconst dX12_readsPoint_106 (by decide) ?_
              refine z_ialv dX12_readsPoint_107 (sh_c hE) (by omega) (by omega) (congrFun ha_c3 2) ?_
              refine z_callV mlX12_120 dX12_readsPoint_108 (sh_M hE) (av := [_]) rfl rfl (Nat.le_of_ble_eq_true rfl) (r_at _ hE hm3 (m a_c 2) (by omega) (by omega)) (Nat.le_refl _) (Nat.le_refl _) (Nat.le_refl _) (Nat.le_refl _) ?_
              rintro _ _ ⟨rfl, rfl⟩
              refine z_ist 3 dX12_readsPoint_111 rfl (Nat.le_of_ble_eq_true rfl) ?_
              refine z_iconst dX12_readsPoint_112 (by decide) ?_
              refine z_istore dX12_readsPoint_113 (Nat.le_of_ble_eq_true rfl) ?_
              refine z_aload_n dX12_readsPoint_115 rfl ?_
              try dsimp only [zs0, zsI, zsP, zsN, zsJ, zsS, zst2, Nat.reduceAdd]
              refine z_callV mlX12_517 dX12_readsPoint_116 (sh_M hE) (av := _) rfl rfl (Nat.le_of_ble_eq_true rfl) (by have h := x_lettersTold (d + 1) hE hB3 (by rw [ha_c3]; exact hwf); rw [ha_c3] at h; exact h) (Nat.le_refl _) (Nat.le_refl _) (Nat.le_refl _) (Nat.le_refl _) ?_
              rintro _ _ ⟨rfl, rfl⟩
              refine z_istore dX12_readsPoint_119 (Nat.le_of_ble_eq_true rfl) ?_
              try dsimp only [zs0, zsI, zsP, zsN, zsJ, zsS, zst2, Nat.reduceAdd]
              refine z_aload_n dX12_readsPoint_121 rfl ?_
              refine z_gIv f_wrong rfl flX12_487 dX12_readsPoint_122 (sh_M hE) rfl hw3 ?_
              refine z_if_ne (tgt := 267) dX12_readsPoint_125 rfl (fun h125 => ?_) (fun h => absurd (by omega) h)
              refine z_aload_n dX12_readsPoint_267 rfl ?_
              refine z_gIv f_wrong rfl flX12_487 dX12_readsPoint_268 (sh_M hE) rfl hw3 ?_
              refine z_if_le (tgt := 275) dX12_readsPoint_271 rfl (fun h => absurd h (by omega)) (fun h271 => ?_)
              refine z_vret dX12_readsPoint_274 rfl rfl ?_
              have eA : pPoint (mK m) (m a_c) p = (kMis (mK m) p2, p2, m a_c, p) := by unfold pPoint; rw [show pVe (mK m) p = zb (kWd (mK m) (kR (mK m) p) 318702192) by unfold pVe; rw [if_pos h7], show pP1 (mK m) p = kR (mK m) p by unfold pP1; rw [if_pos h7], if_neg (not_not_intro ⟨by omega, fun h => h45 h.2⟩), ← e2, if_pos (by rintro (h | h); exact h81 h; exact h90 h)]
              rw [eA]
              refine ⟨rfl, ?_⟩
              exact ⟨z3, hw3, fun _ => ha3, fun h => absurd (show (kMis (mK m) p2 : Int) = 0 from h) (by first | exact kMis_ne | decide), fun x hx => congrFun ha_c3 x⟩
            · refine z_iconst dX12_readsPoint_93 (by decide) ?_
              refine z_goto (tgt := 98) dX12_readsPoint_94 rfl ?_
              refine z_callV mlX12_506 dX12_readsPoint_98 (sh_M hE) (av := [_]) rfl rfl (Nat.le_of_ble_eq_true rfl) (x_takesT _ hE hB2 hw2 p2 ht2 (by rw [hn2]; exact kSo_lt hok (by omega))) (Nat.le_refl _) (Nat.le_refl _) (Nat.le_refl _) (Nat.le_refl _) ?_
              rintro _ m3 ⟨rfl, f3, t3⟩
              have hB3 := mB_fr hB2 (zfr_sub f3 (by decide))
              have hK3 : mK m3 = mK m := (mK_fr f3 (by decide)).trans hK2
              have hw3 : m3 aM f_wrong = 0 := (zfr_at f3 (by decide)).trans hw2
              have z3 : zfr fTh m m3 := zfr_tr z2 (zfr_sub f3 (by decide))
              have hn3 : m3 aM f_end = m aM f_end := (zfr_at f3 (by decide)).trans hn2
              have hm3 : ptM m3 := hB3.1
              have ha_c3 : m3 a_c = m a_c := (zfr_cell f3 (by decide)).trans ha_c2
              rw [hK2] at t3
              obtain ⟨p3, e3⟩ : ∃ x, x = kR (mK m) p2 := ⟨_, rfl⟩
              rw [← e3] at t3
              have ht3 := t3
              refine z_aload_n dX12_readsPoint_101 rfl ?_
              refine z_aload_n dX12_readsPoint_102 rfl ?_
              refine z_gP 0 rfl (r := a_c) flX12_7 dX12_readsPoint_103 (sh_M hE) rfl (pt_c hm3) (by decide) ?_
              refine z_iconst dX12_readsPoint_106 (by decide) ?_
              refine z_ialv dX12_readsPoint_107 (sh_c hE) (by omega) (by omega) (congrFun ha_c3 2) ?_
              refine z_callV mlX12_120 dX12_readsPoint_108 (sh_M hE) (av := [_]) rfl rfl (Nat.le_of_ble_eq_true rfl) (r_at _ hE hm3 (m a_c 2) (by omega) (by omega)) (Nat.le_refl _) (Nat.le_refl _) (Nat.le_refl _) (Nat.le_refl _) ?_
              rintro _ _ ⟨rfl, rfl⟩
              refine z_ist 3 dX12_readsPoint_111 rfl (Nat.le_of_ble_eq_true rfl) ?_
              refine z_iconst dX12_readsPoint_112 (by decide) ?_
              refine z_istore dX12_readsPoint_113 (Nat.le_of_ble_eq_true rfl) ?_
              refine z_aload_n dX12_readsPoint_115 rfl ?_
              try dsimp only [zs0, zsI, zsP, zsN, zsJ, zsS, zst2, Nat.reduceAdd]
              refine z_callV mlX12_517 dX12_readsPoint_116 (sh_M hE) (av := _) rfl rfl (Nat.le_of_ble_eq_true rfl) (by have h := x_lettersTold (d + 1) hE hB3 (by rw [ha_c3]; exact hwf); rw [ha_c3] at h; exact h) (Nat.le_refl _) (Nat.le_refl _) (Nat.le_refl _) (Nat.le_refl _) ?_
              rintro _ _ ⟨rfl, rfl⟩
              refine z_istore dX12_readsPoint_119 (Nat.le_of_ble_eq_true rfl) ?_
              try dsimp only [zs0, zsI, zsP, zsN, zsJ, zsS, zst2, Nat.reduceAdd]
              have hpr := cPre_rg hwf
              refine l_readsPoint d hE (32 + 9 * m a_c 2) (cPre (m a_c) (m a_c 2).toNat) (zb (kWd (mK m) (kR (mK m) p) 318702192)) (zb (kWd (mK m) p 209220123)) (by omega) (by omega) (zb01 _) (zb01 _) 7 0 p3 m3 hB3 hw3 ht3 (by rw [ha_c3]; exact hc0) (by rw [ha_c3]; exact hc2) (by omega) (by omega) (fun m9 g => ?_)
              have eA : pPoint (mK m) (m a_c) p = pRow (mK m) (32 + 9 * m a_c 2) (cPre (m a_c) (m a_c 2).toNat) (zb (kWd (mK m) (kR (mK m) p) 318702192)) (zb (kWd (mK m) p 209220123)) 7 (m a_c) 0 p3 := by unfold pPoint; rw [show pVe (mK m) p = zb (kWd (mK m) (kR (mK m) p) 318702192) by unfold pVe; rw [if_pos h7], show pP1 (mK m) p = kR (mK m) p by unfold pP1; rw [if_pos h7], if_neg (not_not_intro ⟨by omega, fun h => h45 h.2⟩), ← e2, if_neg (not_not_intro (Or.inr h90)), ← e3]
              rw [hK3, ha_c3, ← eA] at g
              exact ⟨rfl, zfr_tr z3 g.1, g.2.1, g.2.2.1, g.2.2.2.1, fun x hx => (g.2.2.2.2 x hx).trans (congrFun ha_c3 x)⟩
