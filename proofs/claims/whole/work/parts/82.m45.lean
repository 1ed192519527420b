theorem mTk_mk {m m' : zM} {p : Int} (hK : mK m' = mK m) (h0 : 0 ≤ p) (hp : m' aM f_place = p) (hn : m' aM f_next = kNx (mK m) p) (hs : m' aM f_sort = kSo (mK m) p) (hz : m' aM f_size = kNx (mK m) p - p) (hw : kSo (mK m) p = 1 → m' aM f_word = kW (mK m) p) (hu : kSo (mK m) p = 2 → m' aM f_number = kN (mK m) p) : mTk m' p := by
  unfold mTk
  rw [hK]
  exact ⟨h0, hp, hn, hs, hz, hw, hu⟩
theorem kSg_tp {m : zM} {p : Int} (h0 : 0 ≤ p) (h1 : p < m aM f_end) : kSg (mK m) p = true ↔ (if m aM f_withNumbers = 0 then m a_tape p = 39 ∨ m a_tape p = 59 else m a_tape p = 45 ∨ m a_tape p = 62 ∨ m a_tape p = 59) := by
  unfold kSg
  rw [decide_eq_true_eq]
  show (if m aM f_withNumbers = 0 then mV (m a_tape) (m aM f_end) p = 39 ∨ mV (m a_tape) (m aM f_end) p = 59 else mV (m a_tape) (m aM f_end) p = 45 ∨ mV (m a_tape) (m aM f_end) p = 62 ∨ mV (m a_tape) (m aM f_end) p = 59) ↔ _
  rw [mV_eq h0 h1 (by decide) (by decide), mV_eq h0 h1 (by decide) (by decide), mV_eq h0 h1 (by decide) (by decide), mV_eq h0 h1 (by decide) (by decide)]
theorem r_reads (d : Nat) {E : zE} {m : zM} (hE : shM E) (hm : ptM m) (he : 0 ≤ m aM f_end ∧ m aM f_end ≤ 400) (hwn : m aM f_withNumbers = 0 ∨ m aM f_withNumbers = 1) (hnx : 0 ≤ m aM f_next ∧ m aM f_next ≤ 401) : zR zX12_reads (d + 2) [zP aM] m E E (fun r m' => r = none ∧ zfr fRd m m' ∧ mTk m' (kSk (mK m) (m aM f_next))) := by
  refine zR_go [zP aM] (by decide +kernel) (Nat.le_of_ble_eq_true rfl) rfl rfl ?_
  refine z_aload_n dX12_reads_0 rfl ?_
  refine z_aload_n dX12_reads_1 rfl ?_
  refine z_gI f_next rfl flX12_459 dX12_reads_2 (sh_M hE) rfl ?_
  refine z_pI f_place rfl (fpX12_462 _) dX12_reads_5 (sh_M hE) rfl ?_
  refine l_reads_b d hE hm he (400 - m aM f_next).toNat (m aM f_next) _ hnx.1 rfl (zfr_uj zfr_rf (by decide)) zu_s (fun m2 hf2 hp2 => ?_)
  have hok := mK_ok he
  have hm2 : ptM m2 := ptM_rd hm hf2
  have hp2 : m2 aM f_place = kSk (mK m) (m aM f_next) := hp2
  have hsk := kSk_ge (k := m aM f_next) hok
  have hge : kSk (mK m) (m aM f_next) ≤ 401 := by
    rcases Int.lt_or_le (mK m).2.1 (m aM f_next) with q | q
    · have e : kSk (mK m) (m aM f_next) = m aM f_next := zrun_f (kB_o hok _ (by omega))
      omega
    · have := hsk.2 q
      have : (mK m).2.1 ≤ 400 := he.2
      omega
  generalize kSk (mK m) (m aM f_next) = p at hp2 hsk hge ⊢
  have p0 : 0 ≤ p := by omega
  refine z_aload_n dX12_reads_51 rfl ?_
  refine z_aload_n dX12_reads_52 rfl ?_
  refine z_gIv f_place rfl flX12_462 dX12_reads_53 (sh_M hE) rfl hp2 ?_
  refine z_iconst dX12_reads_56 (by decide) ?_
  refine z_add dX12_reads_57 (by omega) ?_
  refine z_pI f_next rfl (fpX12_459 _) dX12_reads_58 (sh_M hE) rfl ?_
  generalize em3 : zu m2 aM f_next (p + 1) = m3
  have hf3 : zfr fRd m m3 := by rw [← em3]; exact zfr_uj hf2 (by decide)
  have hm3 : ptM m3 := ptM_rd hm hf3
  have hp3 : m3 aM f_place = p := by rw [← em3]; exact (zu_j (by decide)).trans hp2
  have hn3 : m3 aM f_next = p + 1 := by rw [← em3]; exact zu_s
  refine z_aload_n dX12_reads_61 rfl ?_
  refine z_aload_n dX12_reads_62 rfl ?_
  refine z_gIv f_place rfl flX12_462 dX12_reads_63 (sh_M hE) rfl hp3 ?_
  refine z_aload_n dX12_reads_66 rfl ?_
  refine z_gIv f_end rfl flX12_453 dX12_reads_67 (sh_M hE) rfl (zfr_at hf3 (by decide)) ?_
  refine z_icmp_lt (tgt := 77) dX12_reads_70 rfl (fun h70 => ?_) (fun h70 => ?_)
  · refine z_aload_n dX12_reads_77 rfl ?_
    refine z_aload_n dX12_reads_78 rfl ?_
    refine z_gP 36 rfl (r := a_tape) flX12_75 dX12_reads_79 (sh_M hE) rfl (pt_tape hm3) (by decide) ?_
    refine z_aload_n dX12_reads_82 rfl ?_
    refine z_gIv f_place rfl flX12_462 dX12_reads_83 (sh_M hE) rfl hp3 ?_
    refine z_bald dX12_reads_86 (sh_tape hE) (by omega) (by omega) ?_
    rw [zfr_cell (a := a_tape) hf3 (by decide)]
    refine z_callV mlX12_468 dX12_reads_87 (sh_M hE) (av := [_]) rfl rfl (Nat.le_of_ble_eq_true rfl) (by have h := r_isSignByte (d + 1) hE hm3 (m a_tape p) (by rw [zfr_at (j := f_withNumbers) hf3 (by decide)]; exact hwn); rw [zfr_at (j := f_withNumbers) hf3 (by decide)] at h; exact h) (Nat.le_refl _) (Nat.le_refl _) (Nat.le_refl _) (Nat.le_refl _) ?_
    rintro _ _ ⟨rfl, rfl⟩
    refine z_ifz_eq (tgt := 97) dX12_reads_90 rfl (fun h90 => ?_) (fun h90 => ?_)
    · have hsg : ¬ kSg (mK m) p = true := fun h => h90 ((kSg_tp p0 (by omega)).mp h)
      refine z_iconst dX12_reads_97 (by decide) ?_
      refine z_pI f_sort rfl (fpX12_471 _) dX12_reads_98 (sh_M hE) rfl ?_
      generalize em4 : zu m3 aM f_sort 4 = m4
      have hf4 : zfr fRd m m4 := by rw [← em4]; exact zfr_uj hf3 (by decide)
      have hm4 : ptM m4 := ptM_rd hm hf4
      have hp4 : m4 aM f_place = p := by rw [← em4]; exact (zu_j (by decide)).trans hp3
      have hn4 : m4 aM f_next = p + 1 := by rw [← em4]; exact (zu_j (by decide)).trans hn3
      have hs4 : m4 aM f_sort = 4 := by rw [← em4]; exact zu_s
      refine z_aload_n dX12_reads_101 rfl ?_
      refine z_aload_n dX12_reads_102 rfl ?_
      refine z_gIv f_place rfl flX12_462 dX12_reads_103 (sh_M hE) rfl hp4 ?_
      refine z_bipush dX12_reads_106 rfl (by decide) ?_
      refine z_bipush dX12_reads_108 rfl (by decide) ?_
      refine z_callV mlX12_465 dX12_reads_110 (sh_M hE) (av := [_, _, _]) rfl rfl (Nat.le_of_ble_eq_true rfl) (by have h := r_isOf d hE hm4 p 97 122 p0 (by omega) (by omega) (by rw [zfr_at (j := f_end) hf4 (by decide)]; exact he); rw [mK_fr hf4 (by decide)] at h; exact h) (Nat.le_refl _) (Nat.le_refl _) (Nat.le_refl _) (Nat.le_refl _) ?_
      rintro _ _ ⟨rfl, rfl⟩
      refine z_ifz_eq (tgt := 209) dX12_reads_113 rfl (fun h113 => ?_) (fun h113 => ?_)
      · refine z_aload_n dX12_reads_209 rfl ?_
        refine z_gIv f_withNumbers rfl flX12_456 dX12_reads_210 (sh_M hE) rfl (zfr_at hf4 (by decide)) ?_
        refine z_if_eq (tgt := 338) dX12_reads_213 rfl (fun h213 => ?_) (fun h213 => ?_)
        · have hnl : ¬ kL (mK m) p = true := fun h => absurd (kL_iff.mp h) h113
          have hnd : ¬ ((mK m).2.2 ≠ 0 ∧ kD (mK m) p = true) := fun h => h.1 (show m aM f_withNumbers = 0 by omega)
          have ek : kNx (mK m) p = p + 1 := by unfold kNx; rw [if_neg hnl, if_neg hnd]
          have es : kSo (mK m) p = 4 := by unfold kSo; rw [if_neg hnl, if_neg hnd, if_neg (show ¬ (mK m).2.1 ≤ p by show ¬ m aM f_end ≤ p; omega), if_neg hsg]
          rw [← ek] at hn4
          rw [← es] at hs4
          have hnb : kNx (mK m) p ≤ 402 := by omega
          refine z_aload_n dX12_reads_338 rfl ?_
          refine z_aload_n dX12_reads_339 rfl ?_
          refine z_gIv f_next rfl flX12_459 dX12_reads_340 (sh_M hE) rfl hn4 ?_
          refine z_aload_n dX12_reads_343 rfl ?_
          refine z_gIv f_place rfl flX12_462 dX12_reads_344 (sh_M hE) rfl hp4 ?_
          refine z_sub dX12_reads_347 (by omega) ?_
          refine z_pI f_size rfl (fpX12_484 _) dX12_reads_348 (sh_M hE) rfl ?_
          refine z_vret dX12_reads_351 rfl rfl ?_
          refine ⟨rfl, zfr_uj hf4 (by decide), mTk_mk (mK_fr (zfr_uj hf4 (by decide)) (by decide)) p0 ((zu_j (by decide)).trans hp4) ((zu_j (by decide)).trans hn4) ((zu_j (by decide)).trans hs4) (by rw [zu_s]) (fun h => (zu_j (by decide)).trans (absurd (es.symm.trans h) (by decide))) (fun h => (zu_j (by decide)).trans (absurd (es.symm.trans h) (by decide)))⟩
        · refine z_aload_n dX12_reads_216 rfl ?_
          refine z_aload_n dX12_reads_217 rfl ?_
          refine z_gIv f_place rfl flX12_462 dX12_reads_218 (sh_M hE) rfl hp4 ?_
          refine z_bipush dX12_reads_221 rfl (by decide) ?_
          refine z_bipush dX12_reads_223 rfl (by decide) ?_
          refine z_callV mlX12_465 dX12_reads_225 (sh_M hE) (av := [_, _, _]) rfl rfl (Nat.le_of_ble_eq_true rfl) (by have h := r_isOf d hE hm4 p 48 57 p0 (by omega) (by omega) (by rw [zfr_at (j := f_end) hf4 (by decide)]; exact he); rw [mK_fr hf4 (by decide)] at h; exact h) (Nat.le_refl _) (Nat.le_refl _) (Nat.le_refl _) (Nat.le_refl _) ?_
          rintro _ _ ⟨rfl, rfl⟩
          refine z_ifz_eq (tgt := 338) dX12_reads_228 rfl (fun h228 => ?_) (fun h228 => ?_)
          · have hnl : ¬ kL (mK m) p = true := fun h => absurd (kL_iff.mp h) h113
            have hnd : ¬ ((mK m).2.2 ≠ 0 ∧ kD (mK m) p = true) := by rw [not_and]; exact fun _ h => absurd (kD_iff.mp h) h228
            have ek : kNx (mK m) p = p + 1 := by unfold kNx; rw [if_neg hnl, if_neg hnd]
            have es : kSo (mK m) p = 4 := by unfold kSo; rw [if_neg hnl, if_neg hnd, if_neg (show ¬ (mK m).2.1 ≤ p by show ¬ m aM f_end ≤ p; omega), if_neg hsg]
            rw [← ek] at hn4
            rw [← es] at hs4
            have hnb : kNx (mK m) p ≤ 402 := by omega
            refine z_aload_n dX12_reads_338 rfl ?_
            refine z_aload_n dX12_reads_339 rfl ?_
            refine z_gIv f_next rfl flX12_459 dX12_reads_340 (sh_M hE) rfl hn4 ?_
            refine z_aload_n dX12_reads_343 rfl ?_
            refine z_gIv f_place rfl flX12_462 dX12_reads_344 (sh_M hE) rfl hp4 ?_
            refine z_sub dX12_reads_347 (by omega) ?_
            refine z_pI f_size rfl (fpX12_484 _) dX12_reads_348 (sh_M hE) rfl ?_
            refine z_vret dX12_reads_351 rfl rfl ?_
            refine ⟨rfl, zfr_uj hf4 (by decide), mTk_mk (mK_fr (zfr_uj hf4 (by decide)) (by decide)) p0 ((zu_j (by decide)).trans hp4) ((zu_j (by decide)).trans hn4) ((zu_j (by decide)).trans hs4) (by rw [zu_s]) (fun h => (zu_j (by decide)).trans (absurd (es.symm.trans h) (by decide))) (fun h => (zu_j (by decide)).trans (absurd (es.symm.trans h) (by decide)))⟩
          · refine z_aload_n dX12_reads_231 rfl ?_
            refine z_iconst dX12_reads_232 (by decide) ?_
            refine z_pI f_number rfl (fpX12_481 _) dX12_reads_233 (sh_M hE) rfl ?_
            generalize em5 : zu m4 aM f_number 0 = m5
            have hf5 : zfr fRd m m5 := by rw [← em5]; exact zfr_uj hf4 (by decide)
            have hm5 : ptM m5 := ptM_rd hm hf5
            have hp5 : m5 aM f_place = p := by rw [← em5]; exact (zu_j (by decide)).trans hp4
            have hw5 : m5 aM f_number = 0 := by rw [← em5]; exact zu_s
            refine z_aload_n dX12_reads_236 rfl ?_
            refine z_aload_n dX12_reads_237 rfl ?_
            refine z_gIv f_place rfl flX12_462 dX12_reads_238 (sh_M hE) rfl hp5 ?_
            refine z_pI f_next rfl (fpX12_459 _) dX12_reads_241 (sh_M hE) rfl ?_
            generalize em6 : zu m5 aM f_next p = m6
            have hf6 : zfr fRd m m6 := by rw [← em6]; exact zfr_uj hf5 (by decide)
            have hm6 : ptM m6 := ptM_rd hm hf6
            have hp6 : m6 aM f_place = p := by rw [← em6]; exact (zu_j (by decide)).trans hp5
            have hw6 : m6 aM f_number = 0 := by rw [← em6]; exact (zu_j (by decide)).trans hw5
            have hn6 : m6 aM f_next = p := by rw [← em6]; exact zu_s
            have hnl : ¬ kL (mK m) p = true := fun h => absurd (kL_iff.mp h) h113
            have hl : kD (mK m) p = true := kD_iff.mpr h228
            have hg := kNe_gt hok hl
            have hg2 : (mK m).2.1 ≤ 400 := he.2
            have hnd : (mK m).2.2 ≠ 0 ∧ kD (mK m) p = true := ⟨fun h => h213 h, hl⟩
            refine l_reads_n d hE hm p p0 he (400 - (p + (0 : Nat))).toNat 0 m6 rfl hf6 hp6 (by rw [hn6]; omega) hw6 (fun x hx => by omega) (fun m8 hf8 hp8 hn8 hu8 => ?_)
            have hm8 : ptM m8 := ptM_rd hm hf8
            rw [Int.natCast_zero, Int.add_zero] at hn8 hu8
            have hn8 : m8 aM f_next = kNe (mK m) p := hn8
            have hu8 : m8 aM f_number = kN (mK m) p := hu8
            have ek : kNx (mK m) p = kNe (mK m) p := by unfold kNx; rw [if_neg hnl, if_pos hnd]
            have hnb : kNx (mK m) p ≤ 402 := by rw [ek]; omega
            refine z_aload_n dX12_reads_316 rfl ?_
            refine z_aload_n dX12_reads_317 rfl ?_
            refine z_gIv f_next rfl flX12_459 dX12_reads_318 (sh_M hE) rfl hn8 ?_
            refine z_aload_n dX12_reads_321 rfl ?_
            refine z_gIv f_place rfl flX12_462 dX12_reads_322 (sh_M hE) rfl hp8 ?_
            refine z_sub dX12_reads_325 (by omega) ?_
            refine z_iconst dX12_reads_326 (by decide) ?_
            refine z_icmp_le (tgt := 334) dX12_reads_327 rfl (fun h327 => ?_) (fun h327 => ?_)
            · refine z_iconst dX12_reads_334 (by decide) ?_
              refine z_pI f_sort rfl (fpX12_471 _) dX12_reads_335 (sh_M hE) rfl ?_
              generalize em9 : zu m8 aM f_sort 2 = m9
              have hf9 : zfr fRd m m9 := by rw [← em9]; exact zfr_uj hf8 (by decide)
              have hm9 : ptM m9 := ptM_rd hm hf9
              have hp9 : m9 aM f_place = p := by rw [← em9]; exact (zu_j (by decide)).trans hp8
              have hn9 : m9 aM f_next = kNx (mK m) p := by rw [← em9]; exact (zu_j (by decide)).trans (hn8.trans ek.symm)
              have hu9 : m9 aM f_number = kN (mK m) p := by rw [← em9]; exact (zu_j (by decide)).trans hu8
              have hs9 : m9 aM f_sort = 2 := by rw [← em9]; exact zu_s
              have es : kSo (mK m) p = 2 := by unfold kSo; rw [if_neg hnl, if_pos hnd, if_neg (by omega)]
              rw [← es] at hs9
              refine z_aload_n dX12_reads_338 rfl ?_
              refine z_aload_n dX12_reads_339 rfl ?_
              refine z_gIv f_next rfl flX12_459 dX12_reads_340 (sh_M hE) rfl hn9 ?_
              refine z_aload_n dX12_reads_343 rfl ?_
              refine z_gIv f_place rfl flX12_462 dX12_reads_344 (sh_M hE) rfl hp9 ?_
              refine z_sub dX12_reads_347 (by omega) ?_
              refine z_pI f_size rfl (fpX12_484 _) dX12_reads_348 (sh_M hE) rfl ?_
              refine z_vret dX12_reads_351 rfl rfl ?_
              refine ⟨rfl, zfr_uj hf9 (by decide), mTk_mk (mK_fr (zfr_uj hf9 (by decide)) (by decide)) p0 ((zu_j (by decide)).trans hp9) ((zu_j (by decide)).trans hn9) ((zu_j (by decide)).trans hs9) (by rw [zu_s]) (fun h => (zu_j (by decide)).trans (absurd (es.symm.trans h) (by decide))) (fun h => (zu_j (by decide)).trans hu9)⟩
            · refine z_iconst dX12_reads_330 (by decide) ?_
              refine z_goto (tgt := 335) dX12_reads_331 rfl ?_
              refine z_pI f_sort rfl (fpX12_471 _) dX12_reads_335 (sh_M hE) rfl ?_
              generalize em9 : zu m8 aM f_sort 4 = m9
              have hf9 : zfr fRd m m9 := by rw [← em9]; exact zfr_uj hf8 (by decide)
              have hm9 : ptM m9 := ptM_rd hm hf9
              have hp9 : m9 aM f_place = p := by rw [← em9]; exact (zu_j (by decide)).trans hp8
              have hn9 : m9 aM f_next = kNx (mK m) p := by rw [← em9]; exact (zu_j (by decide)).trans (hn8.trans ek.symm)
              have hu9 : m9 aM f_number = kN (mK m) p := by rw [← em9]; exact (zu_j (by decide)).trans hu8
              have hs9 : m9 aM f_sort = 4 := by rw [← em9]; exact zu_s
              have es : kSo (mK m) p = 4 := by unfold kSo; rw [if_neg hnl, if_pos hnd, if_pos (by omega)]
              rw [← es] at hs9
              refine z_aload_n dX12_reads_338 rfl ?_
              refine z_aload_n dX12_reads_339 rfl ?_
              refine z_gIv f_next rfl flX12_459 dX12_reads_340 (sh_M hE) rfl hn9 ?_
              refine z_aload_n dX12_reads_343 rfl ?_
              refine z_gIv f_place rfl flX12_462 dX12_reads_344 (sh_M hE) rfl hp9 ?_
              refine z_sub dX12_reads_347 (by omega) ?_
              refine z_pI f_size rfl (fpX12_484 _) dX12_reads_348 (sh_M hE) rfl ?_
              refine z_vret dX12_reads_351 rfl rfl ?_
              refine ⟨rfl, zfr_uj hf9 (by decide), mTk_mk (mK_fr (zfr_uj hf9 (by decide)) (by decide)) p0 ((zu_j (by decide)).trans hp9) ((zu_j (by decide)).trans hn9) ((zu_j (by decide)).trans hs9) (by rw [zu_s]) (fun h => (zu_j (by decide)).trans (absurd (es.symm.trans h) (by decide))) (fun h => (zu_j (by decide)).trans hu9)⟩
      · refine z_aload_n dX12_reads_116 rfl ?_
        refine z_iconst dX12_reads_117 (by decide) ?_
        refine z_pI f_sort rfl (fpX12_471 _) dX12_reads_118 (sh_M hE) rfl ?_
        generalize em5 : zu m4 aM f_sort 1 = m5
        have hf5 : zfr fRd m m5 := by rw [← em5]; exact zfr_uj hf4 (by decide)
        have hm5 : ptM m5 := ptM_rd hm hf5
        have hp5 : m5 aM f_place = p := by rw [← em5]; exact (zu_j (by decide)).trans hp4
        have hs5 : m5 aM f_sort = 1 := by rw [← em5]; exact zu_s
        refine z_aload_n dX12_reads_121 rfl ?_
        refine z_lconst0 dX12_reads_122 ?_
        refine z_pJ f_word rfl (fpX12_474 _) dX12_reads_123 (sh_M hE) rfl ?_
        generalize em6 : zu m5 aM f_word 0 = m6
        have hf6 : zfr fRd m m6 := by rw [← em6]; exact zfr_uj hf5 (by decide)
        have hm6 : ptM m6 := ptM_rd hm hf6
        have hp6 : m6 aM f_place = p := by rw [← em6]; exact (zu_j (by decide)).trans hp5
        have hs6 : m6 aM f_sort = 1 := by rw [← em6]; exact (zu_j (by decide)).trans hs5
        have hw6 : m6 aM f_word = 0 := by rw [← em6]; exact zu_s
        refine z_aload_n dX12_reads_126 rfl ?_
        refine z_aload_n dX12_reads_127 rfl ?_
        refine z_gIv f_place rfl flX12_462 dX12_reads_128 (sh_M hE) rfl hp6 ?_
        refine z_pI f_next rfl (fpX12_459 _) dX12_reads_131 (sh_M hE) rfl ?_
        generalize em7 : zu m6 aM f_next p = m7
        have hf7 : zfr fRd m m7 := by rw [← em7]; exact zfr_uj hf6 (by decide)
        have hm7 : ptM m7 := ptM_rd hm hf7
        have hp7 : m7 aM f_place = p := by rw [← em7]; exact (zu_j (by decide)).trans hp6
        have hs7 : m7 aM f_sort = 1 := by rw [← em7]; exact (zu_j (by decide)).trans hs6
        have hw7 : m7 aM f_word = 0 := by rw [← em7]; exact (zu_j (by decide)).trans hw6
        have hn7 : m7 aM f_next = p := by rw [← em7]; exact zu_s
        have hl : kL (mK m) p = true := kL_iff.mpr h113
        have hg := kWe_gt hok hl
        refine l_reads_w d hE hm p p0 he (400 - (p + (0 : Nat))).toNat 0 m7 rfl hf7 hp7 hs7 (by rw [hn7]; omega) hw7 (fun x hx => by omega) (fun m8 hf8 hp8 hs8 hn8 hw8 => ?_)
        have hm8 : ptM m8 := ptM_rd hm hf8
        rw [Int.natCast_zero, Int.add_zero] at hn8 hw8
        have ek : kNx (mK m) p = kWe (mK m) p := by unfold kNx; rw [if_pos hl]
        have es : kSo (mK m) p = 1 := by unfold kSo; rw [if_pos hl]
        have hn8 : m8 aM f_next = kNx (mK m) p := by rw [ek]; exact hn8
        have hs8 : m8 aM f_sort = kSo (mK m) p := by rw [es]; exact hs8
        have hnb : kNx (mK m) p ≤ 402 := by rw [ek]; have := hg.2; have : (mK m).2.1 ≤ 400 := he.2; omega
        have hng : 0 ≤ kNx (mK m) p := by rw [ek]; omega
        refine z_aload_n dX12_reads_338 rfl ?_
        refine z_aload_n dX12_reads_339 rfl ?_
        refine z_gIv f_next rfl flX12_459 dX12_reads_340 (sh_M hE) rfl hn8 ?_
        refine z_aload_n dX12_reads_343 rfl ?_
        refine z_gIv f_place rfl flX12_462 dX12_reads_344 (sh_M hE) rfl hp8 ?_
        refine z_sub dX12_reads_347 (by omega) ?_
        refine z_pI f_size rfl (fpX12_484 _) dX12_reads_348 (sh_M hE) rfl ?_
        refine z_vret dX12_reads_351 rfl rfl ?_
        refine ⟨rfl, zfr_uj hf8 (by decide), mTk_mk (mK_fr (zfr_uj hf8 (by decide)) (by decide)) p0 ((zu_j (by decide)).trans hp8) ((zu_j (by decide)).trans hn8) ((zu_j (by decide)).trans hs8) (by rw [zu_s]) (fun h => (zu_j (by decide)).trans hw8) (fun h => (zu_j (by decide)).trans (absurd (es.symm.trans h) (by decide)))⟩
    · have hsg : kSg (mK m) p = true := (kSg_tp p0 (by omega)).mpr h90
      refine z_iconst dX12_reads_93 (by decide) ?_
      refine z_goto (tgt := 98) dX12_reads_94 rfl ?_
      refine z_pI f_sort rfl (fpX12_471 _) dX12_reads_98 (sh_M hE) rfl ?_
      generalize em4 : zu m3 aM f_sort 3 = m4
      have hf4 : zfr fRd m m4 := by rw [← em4]; exact zfr_uj hf3 (by decide)
      have hm4 : ptM m4 := ptM_rd hm hf4
      have hp4 : m4 aM f_place = p := by rw [← em4]; exact (zu_j (by decide)).trans hp3
      have hn4 : m4 aM f_next = p + 1 := by rw [← em4]; exact (zu_j (by decide)).trans hn3
      have hs4 : m4 aM f_sort = 3 := by rw [← em4]; exact zu_s
      refine z_aload_n dX12_reads_101 rfl ?_
      refine z_aload_n dX12_reads_102 rfl ?_
      refine z_gIv f_place rfl flX12_462 dX12_reads_103 (sh_M hE) rfl hp4 ?_
      refine z_bipush dX12_reads_106 rfl (by decide) ?_
      refine z_bipush dX12_reads_108 rfl (by decide) ?_
      refine z_callV mlX12_465 dX12_reads_110 (sh_M hE) (av := [_, _, _]) rfl rfl (Nat.le_of_ble_eq_true rfl) (by have h := r_isOf d hE hm4 p 97 122 p0 (by omega) (by omega) (by rw [zfr_at (j := f_end) hf4 (by decide)]; exact he); rw [mK_fr hf4 (by decide)] at h; exact h) (Nat.le_refl _) (Nat.le_refl _) (Nat.le_refl _) (Nat.le_refl _) ?_
      rintro _ _ ⟨rfl, rfl⟩
      refine z_ifz_eq (tgt := 209) dX12_reads_113 rfl (fun h113 => ?_) (fun h113 => ?_)
      · refine z_aload_n dX12_reads_209 rfl ?_
        refine z_gIv f_withNumbers rfl flX12_456 dX12_reads_210 (sh_M hE) rfl (zfr_at hf4 (by decide)) ?_
        refine z_if_eq (tgt := 338) dX12_reads_213 rfl (fun h213 => ?_) (fun h213 => ?_)
        · have hnl : ¬ kL (mK m) p = true := fun h => absurd (kL_iff.mp h) h113
          have hnd : ¬ ((mK m).2.2 ≠ 0 ∧ kD (mK m) p = true) := fun h => h.1 (show m aM f_withNumbers = 0 by omega)
          have ek : kNx (mK m) p = p + 1 := by unfold kNx; rw [if_neg hnl, if_neg hnd]
          have es : kSo (mK m) p = 3 := by unfold kSo; rw [if_neg hnl, if_neg hnd, if_neg (show ¬ (mK m).2.1 ≤ p by show ¬ m aM f_end ≤ p; omega), if_pos hsg]
          rw [← ek] at hn4
          rw [← es] at hs4
          have hnb : kNx (mK m) p ≤ 402 := by omega
          refine z_aload_n dX12_reads_338 rfl ?_
          refine z_aload_n dX12_reads_339 rfl ?_
          refine z_gIv f_next rfl flX12_459 dX12_reads_340 (sh_M hE) rfl hn4 ?_
          refine z_aload_n dX12_reads_343 rfl ?_
          refine z_gIv f_place rfl flX12_462 dX12_reads_344 (sh_M hE) rfl hp4 ?_
          refine z_sub dX12_reads_347 (by omega) ?_
          refine z_pI f_size rfl (fpX12_484 _) dX12_reads_348 (sh_M hE) rfl ?_
          refine z_vret dX12_reads_351 rfl rfl ?_
          refine ⟨rfl, zfr_uj hf4 (by decide), mTk_mk (mK_fr (zfr_uj hf4 (by decide)) (by decide)) p0 ((zu_j (by decide)).trans hp4) ((zu_j (by decide)).trans hn4) ((zu_j (by decide)).trans hs4) (by rw [zu_s]) (fun h => (zu_j (by decide)).trans (absurd (es.symm.trans h) (by decide))) (fun h => (zu_j (by decide)).trans (absurd (es.symm.trans h) (by decide)))⟩
        · refine z_aload_n dX12_reads_216 rfl ?_
          refine z_aload_n dX12_reads_217 rfl ?_
          refine z_gIv f_place rfl flX12_462 dX12_reads_218 (sh_M hE) rfl hp4 ?_
          refine z_bipush dX12_reads_221 rfl (by decide) ?_
          refine z_bipush dX12_reads_223 rfl (by decide) ?_
          refine z_callV mlX12_465 dX12_reads_225 (sh_M hE) (av := [_, _, _]) rfl rfl (Nat.le_of_ble_eq_true rfl) (by have h := r_isOf d hE hm4 p 48 57 p0 (by omega) (by omega) (by rw [zfr_at (j := f_end) hf4 (by decide)]; exact he); rw [mK_fr hf4 (by decide)] at h; exact h) (Nat.le_refl _) (Nat.le_refl _) (Nat.le_refl _) (Nat.le_refl _) ?_
          rintro _ _ ⟨rfl, rfl⟩
          refine z_ifz_eq (tgt := 338) dX12_reads_228 rfl (fun h228 => ?_) (fun h228 => ?_)
          · have hnl : ¬ kL (mK m) p = true := fun h => absurd (kL_iff.mp h) h113
            have hnd : ¬ ((mK m).2.2 ≠ 0 ∧ kD (mK m) p = true) := by rw [not_and]; exact fun _ h => absurd (kD_iff.mp h) h228
            have ek : kNx (mK m) p = p + 1 := by unfold kNx; rw [if_neg hnl, if_neg hnd]
            have es : kSo (mK m) p = 3 := by unfold kSo; rw [if_neg hnl, if_neg hnd, if_neg (show ¬ (mK m).2.1 ≤ p by show ¬ m aM f_end ≤ p; omega), if_pos hsg]
            rw [← ek] at hn4
            rw [← es] at hs4
            have hnb : kNx (mK m) p ≤ 402 := by omega
            refine z_aload_n dX12_reads_338 rfl ?_
            refine z_aload_n dX12_reads_339 rfl ?_
            refine z_gIv f_next rfl flX12_459 dX12_reads_340 (sh_M hE) rfl hn4 ?_
            refine z_aload_n dX12_reads_343 rfl ?_
            refine z_gIv f_place rfl flX12_462 dX12_reads_344 (sh_M hE) rfl hp4 ?_
            refine z_sub dX12_reads_347 (by omega) ?_
            refine z_pI f_size rfl (fpX12_484 _) dX12_reads_348 (sh_M hE) rfl ?_
            refine z_vret dX12_reads_351 rfl rfl ?_
            refine ⟨rfl, zfr_uj hf4 (by decide), mTk_mk (mK_fr (zfr_uj hf4 (by decide)) (by decide)) p0 ((zu_j (by decide)).trans hp4) ((zu_j (by decide)).trans hn4) ((zu_j (by decide)).trans hs4) (by rw [zu_s]) (fun h => (zu_j (by decide)).trans (absurd (es.symm.trans h) (by decide))) (fun h => (zu_j (by decide)).trans (absurd (es.symm.trans h) (by decide)))⟩
          · refine z_aload_n dX12_reads_231 rfl ?_
            refine z_iconst dX12_reads_232 (by decide) ?_
            refine z_pI f_number rfl (fpX12_481 _) dX12_reads_233 (sh_M hE) rfl ?_
            generalize em5 : zu m4 aM f_number 0 = m5
            have hf5 : zfr fRd m m5 := by rw [← em5]; exact zfr_uj hf4 (by decide)
            have hm5 : ptM m5 := ptM_rd hm hf5
            have hp5 : m5 aM f_place = p := by rw [← em5]; exact (zu_j (by decide)).trans hp4
            have hw5 : m5 aM f_number = 0 := by rw [← em5]; exact zu_s
            refine z_aload_n dX12_reads_236 rfl ?_
            refine z_aload_n dX12_reads_237 rfl ?_
            refine z_gIv f_place rfl flX12_462 dX12_reads_238 (sh_M hE) rfl hp5 ?_
            refine z_pI f_next rfl (fpX12_459 _) dX12_reads_241 (sh_M hE) rfl ?_
            generalize em6 : zu m5 aM f_next p = m6
            have hf6 : zfr fRd m m6 := by rw [← em6]; exact zfr_uj hf5 (by decide)
            have hm6 : ptM m6 := ptM_rd hm hf6
            have hp6 : m6 aM f_place = p := by rw [← em6]; exact (zu_j (by decide)).trans hp5
            have hw6 : m6 aM f_number = 0 := by rw [← em6]; exact (zu_j (by decide)).trans hw5
            have hn6 : m6 aM f_next = p := by rw [← em6]; exact zu_s
            have hnl : ¬ kL (mK m) p = true := fun h => absurd (kL_iff.mp h) h113
            have hl : kD (mK m) p = true := kD_iff.mpr h228
            have hg := kNe_gt hok hl
            have hg2 : (mK m).2.1 ≤ 400 := he.2
            have hnd : (mK m).2.2 ≠ 0 ∧ kD (mK m) p = true := ⟨fun h => h213 h, hl⟩
            refine l_reads_n d hE hm p p0 he (400 - (p + (0 : Nat))).toNat 0 m6 rfl hf6 hp6 (by rw [hn6]; omega) hw6 (fun x hx => by omega) (fun m8 hf8 hp8 hn8 hu8 => ?_)
            have hm8 : ptM m8 := ptM_rd hm hf8
            rw [Int.natCast_zero, Int.add_zero] at hn8 hu8
            have hn8 : m8 aM f_next = kNe (mK m) p := hn8
            have hu8 : m8 aM f_number = kN (mK m) p := hu8
            have ek : kNx (mK m) p = kNe (mK m) p := by unfold kNx; rw [if_neg hnl, if_pos hnd]
            have hnb : kNx (mK m) p ≤ 402 := by rw [ek]; omega
            refine z_aload_n dX12_reads_316 rfl ?_
            refine z_aload_n dX12_reads_317 rfl ?_
            refine z_gIv f_next rfl flX12_459 dX12_reads_318 (sh_M hE) rfl hn8 ?_
            refine z_aload_n dX12_reads_321 rfl ?_
            refine z_gIv f_place rfl flX12_462 dX12_reads_322 (sh_M hE) rfl hp8 ?_
            refine z_sub dX12_reads_325 (by omega) ?_
            refine z_iconst dX12_reads_326 (by decide) ?_
            refine z_icmp_le (tgt := 334) dX12_reads_327 rfl (fun h327 => ?_) (fun h327 => ?_)
            · refine z_iconst dX12_reads_334 (by decide) ?_
              refine z_pI f_sort rfl (fpX12_471 _) dX12_reads_335 (sh_M hE) rfl ?_
              generalize em9 : zu m8 aM f_sort 2 = m9
              have hf9 : zfr fRd m m9 := by rw [← em9]; exact zfr_uj hf8 (by decide)
              have hm9 : ptM m9 := ptM_rd hm hf9
              have hp9 : m9 aM f_place = p := by rw [← em9]; exact (zu_j (by decide)).trans hp8
              have hn9 : m9 aM f_next = kNx (mK m) p := by rw [← em9]; exact (zu_j (by decide)).trans (hn8.trans ek.symm)
              have hu9 : m9 aM f_number = kN (mK m) p := by rw [← em9]; exact (zu_j (by decide)).trans hu8
              have hs9 : m9 aM f_sort = 2 := by rw [← em9]; exact zu_s
              have es : kSo (mK m) p = 2 := by unfold kSo; rw [if_neg hnl, if_pos hnd, if_neg (by omega)]
              rw [← es] at hs9
              refine z_aload_n dX12_reads_338 rfl ?_
              refine z_aload_n dX12_reads_339 rfl ?_
              refine z_gIv f_next rfl flX12_459 dX12_reads_340 (sh_M hE) rfl hn9 ?_
              refine z_aload_n dX12_reads_343 rfl ?_
              refine z_gIv f_place rfl flX12_462 dX12_reads_344 (sh_M hE) rfl hp9 ?_
              refine z_sub dX12_reads_347 (by omega) ?_
              refine z_pI f_size rfl (fpX12_484 _) dX12_reads_348 (sh_M hE) rfl ?_
              refine z_vret dX12_reads_351 rfl rfl ?_
              refine ⟨rfl, zfr_uj hf9 (by decide), mTk_mk (mK_fr (zfr_uj hf9 (by decide)) (by decide)) p0 ((zu_j (by decide)).trans hp9) ((zu_j (by decide)).trans hn9) ((zu_j (by decide)).trans hs9) (by rw [zu_s]) (fun h => (zu_j (by decide)).trans (absurd (es.symm.trans h) (by decide))) (fun h => (zu_j (by decide)).trans hu9)⟩
            · refine z_iconst dX12_reads_330 (by decide) ?_
              refine z_goto (tgt := 335) dX12_reads_331 rfl ?_
              refine z_pI f_sort rfl (fpX12_471 _) dX12_reads_335 (sh_M hE) rfl ?_
              generalize em9 : zu m8 aM f_sort 4 = m9
              have hf9 : zfr fRd m m9 := by rw [← em9]; exact zfr_uj hf8 (by decide)
              have hm9 : ptM m9 := ptM_rd hm hf9
              have hp9 : m9 aM f_place = p := by rw [← em9]; exact (zu_j (by decide)).trans hp8
              have hn9 : m9 aM f_next = kNx (mK m) p := by rw [← em9]; exact (zu_j (by decide)).trans (hn8.trans ek.symm)
              have hu9 : m9 aM f_number = kN (mK m) p := by rw [← em9]; exact (zu_j (by decide)).trans hu8
              have hs9 : m9 aM f_sort = 4 := by rw [← em9]; exact zu_s
              have es : kSo (mK m) p = 4 := by unfold kSo; rw [if_neg hnl, if_pos hnd, if_pos (by omega)]
              rw [← es] at hs9
              refine z_aload_n dX12_reads_338 rfl ?_
              refine z_aload_n dX12_reads_339 rfl ?_
              refine z_gIv f_next rfl flX12_459 dX12_reads_340 (sh_M hE) rfl hn9 ?_
              refine z_aload_n dX12_reads_343 rfl ?_
              refine z_gIv f_place rfl flX12_462 dX12_reads_344 (sh_M hE) rfl hp9 ?_
              refine z_sub dX12_reads_347 (by omega) ?_
              refine z_pI f_size rfl (fpX12_484 _) dX12_reads_348 (sh_M hE) rfl ?_
              refine z_vret dX12_reads_351 rfl rfl ?_
              refine ⟨rfl, zfr_uj hf9 (by decide), mTk_mk (mK_fr (zfr_uj hf9 (by decide)) (by decide)) p0 ((zu_j (by decide)).trans hp9) ((zu_j (by decide)).trans hn9) ((zu_j (by decide)).trans hs9) (by rw [zu_s]) (fun h => (zu_j (by decide)).trans (absurd (es.symm.trans h) (by decide))) (fun h => (zu_j (by decide)).trans hu9)⟩
      · refine z_aload_n dX12_reads_116 rfl ?_
        refine z_iconst dX12_reads_117 (by decide) ?_
        refine z_pI f_sort rfl (fpX12_471 _) dX12_reads_118 (sh_M hE) rfl ?_
        generalize em5 : zu m4 aM f_sort 1 = m5
        have hf5 : zfr fRd m m5 := by rw [← em5]; exact zfr_uj hf4 (by decide)
        have hm5 : ptM m5 := ptM_rd hm hf5
        have hp5 : m5 aM f_place = p := by rw [← em5]; exact (zu_j (by decide)).trans hp4
        have hs5 : m5 aM f_sort = 1 := by rw [← em5]; exact zu_s
        refine z_aload_n dX12_reads_121 rfl ?_
        refine z_lconst0 dX12_reads_122 ?_
        refine z_pJ f_word rfl (fpX12_474 _) dX12_reads_123 (sh_M hE) rfl ?_
        generalize em6 : zu m5 aM f_word 0 = m6
        have hf6 : zfr fRd m m6 := by rw [← em6]; exact zfr_uj hf5 (by decide)
        have hm6 : ptM m6 := ptM_rd hm hf6
        have hp6 : m6 aM f_place = p := by rw [← em6]; exact (zu_j (by decide)).trans hp5
        have hs6 : m6 aM f_sort = 1 := by rw [← em6]; exact (zu_j (by decide)).trans hs5
        have hw6 : m6 aM f_word = 0 := by rw [← em6]; exact zu_s
        refine z_aload_n dX12_reads_126 rfl ?_
        refine z_aload_n dX12_reads_127 rfl ?_
        refine z_gIv f_place rfl flX12_462 dX12_reads_128 (sh_M hE) rfl hp6 ?_
        refine z_pI f_next rfl (fpX12_459 _) dX12_reads_131 (sh_M hE) rfl ?_
        generalize em7 : zu m6 aM f_next p = m7
        have hf7 : zfr fRd m m7 := by rw [← em7]; exact zfr_uj hf6 (by decide)
        have hm7 : ptM m7 := ptM_rd hm hf7
        have hp7 : m7 aM f_place = p := by rw [← em7]; exact (zu_j (by decide)).trans hp6
        have hs7 : m7 aM f_sort = 1 := by rw [← em7]; exact (zu_j (by decide)).trans hs6
        have hw7 : m7 aM f_word = 0 := by rw [← em7]; exact (zu_j (by decide)).trans hw6
        have hn7 : m7 aM f_next = p := by rw [← em7]; exact zu_s
        have hl : kL (mK m) p = true := kL_iff.mpr h113
        have hg := kWe_gt hok hl
        refine l_reads_w d hE hm p p0 he (400 - (p + (0 : Nat))).toNat 0 m7 rfl hf7 hp7 hs7 (by rw [hn7]; omega) hw7 (fun x hx => by omega) (fun m8 hf8 hp8 hs8 hn8 hw8 => ?_)
        have hm8 : ptM m8 := ptM_rd hm hf8
        rw [Int.natCast_zero, Int.add_zero] at hn8 hw8
        have ek : kNx (mK m) p = kWe (mK m) p := by unfold kNx; rw [if_pos hl]
        have es : kSo (mK m) p = 1 := by unfold kSo; rw [if_pos hl]
        have hn8 : m8 aM f_next = kNx (mK m) p := by rw [ek]; exact hn8
        have hs8 : m8 aM f_sort = kSo (mK m) p := by rw [es]; exact hs8
        have hnb : kNx (mK m) p ≤ 402 := by rw [ek]; have := hg.2; have : (mK m).2.1 ≤ 400 := he.2; omega
        have hng : 0 ≤ kNx (mK m) p := by rw [ek]; omega
        refine z_aload_n dX12_reads_338 rfl ?_
        refine z_aload_n dX12_reads_339 rfl ?_
        refine z_gIv f_next rfl flX12_459 dX12_reads_340 (sh_M hE) rfl hn8 ?_
        refine z_aload_n dX12_reads_343 rfl ?_
        refine z_gIv f_place rfl flX12_462 dX12_reads_344 (sh_M hE) rfl hp8 ?_
        refine z_sub dX12_reads_347 (by omega) ?_
        refine z_pI f_size rfl (fpX12_484 _) dX12_reads_348 (sh_M hE) rfl ?_
        refine z_vret dX12_reads_351 rfl rfl ?_
        refine ⟨rfl, zfr_uj hf8 (by decide), mTk_mk (mK_fr (zfr_uj hf8 (by decide)) (by decide)) p0 ((zu_j (by decide)).trans hp8) ((zu_j (by decide)).trans hn8) ((zu_j (by decide)).trans hs8) (by rw [zu_s]) (fun h => (zu_j (by decide)).trans hw8) (fun h => (zu_j (by decide)).trans (absurd (es.symm.trans h) (by decide)))⟩
  · refine z_iconst dX12_reads_73 (by decide) ?_
    refine z_goto (tgt := 98) dX12_reads_74 rfl ?_
    refine z_pI f_sort rfl (fpX12_471 _) dX12_reads_98 (sh_M hE) rfl ?_
    generalize em4 : zu m3 aM f_sort 0 = m4
    have hf4 : zfr fRd m m4 := by rw [← em4]; exact zfr_uj hf3 (by decide)
    have hm4 : ptM m4 := ptM_rd hm hf4
    have hp4 : m4 aM f_place = p := by rw [← em4]; exact (zu_j (by decide)).trans hp3
    have hn4 : m4 aM f_next = p + 1 := by rw [← em4]; exact (zu_j (by decide)).trans hn3
    have hs4 : m4 aM f_sort = 0 := by rw [← em4]; exact zu_s
    refine z_aload_n dX12_reads_101 rfl ?_
    refine z_aload_n dX12_reads_102 rfl ?_
    refine z_gIv f_place rfl flX12_462 dX12_reads_103 (sh_M hE) rfl hp4 ?_
    refine z_bipush dX12_reads_106 rfl (by decide) ?_
    refine z_bipush dX12_reads_108 rfl (by decide) ?_
    refine z_callV mlX12_465 dX12_reads_110 (sh_M hE) (av := [_, _, _]) rfl rfl (Nat.le_of_ble_eq_true rfl) (by have h := r_isOf d hE hm4 p 97 122 p0 (by omega) (by omega) (by rw [zfr_at (j := f_end) hf4 (by decide)]; exact he); rw [mK_fr hf4 (by decide)] at h; exact h) (Nat.le_refl _) (Nat.le_refl _) (Nat.le_refl _) (Nat.le_refl _) ?_
    rintro _ _ ⟨rfl, rfl⟩
    refine z_ifz_eq (tgt := 209) dX12_reads_113 rfl (fun h113 => ?_) (fun h113 => ?_)
    · refine z_aload_n dX12_reads_209 rfl ?_
      refine z_gIv f_withNumbers rfl flX12_456 dX12_reads_210 (sh_M hE) rfl (zfr_at hf4 (by decide)) ?_
      refine z_if_eq (tgt := 338) dX12_reads_213 rfl (fun h213 => ?_) (fun h213 => ?_)
      · have hnl : ¬ kL (mK m) p = true := fun h => absurd (kL_iff.mp h) h113
        have hnd : ¬ ((mK m).2.2 ≠ 0 ∧ kD (mK m) p = true) := fun h => h.1 (show m aM f_withNumbers = 0 by omega)
        have ek : kNx (mK m) p = p + 1 := by unfold kNx; rw [if_neg hnl, if_neg hnd]
        have es : kSo (mK m) p = 0 := by unfold kSo; rw [if_neg hnl, if_neg hnd, if_pos (show (mK m).2.1 ≤ p by show m aM f_end ≤ p; omega)]
        rw [← ek] at hn4
        rw [← es] at hs4
        have hnb : kNx (mK m) p ≤ 402 := by omega
        refine z_aload_n dX12_reads_338 rfl ?_
        refine z_aload_n dX12_reads_339 rfl ?_
        refine z_gIv f_next rfl flX12_459 dX12_reads_340 (sh_M hE) rfl hn4 ?_
        refine z_aload_n dX12_reads_343 rfl ?_
        refine z_gIv f_place rfl flX12_462 dX12_reads_344 (sh_M hE) rfl hp4 ?_
        refine z_sub dX12_reads_347 (by omega) ?_
        refine z_pI f_size rfl (fpX12_484 _) dX12_reads_348 (sh_M hE) rfl ?_
        refine z_vret dX12_reads_351 rfl rfl ?_
        refine ⟨rfl, zfr_uj hf4 (by decide), mTk_mk (mK_fr (zfr_uj hf4 (by decide)) (by decide)) p0 ((zu_j (by decide)).trans hp4) ((zu_j (by decide)).trans hn4) ((zu_j (by decide)).trans hs4) (by rw [zu_s]) (fun h => (zu_j (by decide)).trans (absurd (es.symm.trans h) (by decide))) (fun h => (zu_j (by decide)).trans (absurd (es.symm.trans h) (by decide)))⟩
      · refine z_aload_n dX12_reads_216 rfl ?_
        refine z_aload_n dX12_reads_217 rfl ?_
        refine z_gIv f_place rfl flX12_462 dX12_reads_218 (sh_M hE) rfl hp4 ?_
        refine z_bipush dX12_reads_221 rfl (by decide) ?_
        refine z_bipush dX12_reads_223 rfl (by decide) ?_
        refine z_callV mlX12_465 dX12_reads_225 (sh_M hE) (av := [_, _, _]) rfl rfl (Nat.le_of_ble_eq_true rfl) (by have h := r_isOf d hE hm4 p 48 57 p0 (by omega) (by omega) (by rw [zfr_at (j := f_end) hf4 (by decide)]; exact he); rw [mK_fr hf4 (by decide)] at h; exact h) (Nat.le_refl _) (Nat.le_refl _) (Nat.le_refl _) (Nat.le_refl _) ?_
        rintro _ _ ⟨rfl, rfl⟩
        refine z_ifz_eq (tgt := 338) dX12_reads_228 rfl (fun h228 => ?_) (fun h228 => ?_)
        · have hnl : ¬ kL (mK m) p = true := fun h => absurd (kL_iff.mp h) h113
          have hnd : ¬ ((mK m).2.2 ≠ 0 ∧ kD (mK m) p = true) := by rw [not_and]; exact fun _ h => absurd (kD_iff.mp h) h228
          have ek : kNx (mK m) p = p + 1 := by unfold kNx; rw [if_neg hnl, if_neg hnd]
          have es : kSo (mK m) p = 0 := by unfold kSo; rw [if_neg hnl, if_neg hnd, if_pos (show (mK m).2.1 ≤ p by show m aM f_end ≤ p; omega)]
          rw [← ek] at hn4
          rw [← es] at hs4
          have hnb : kNx (mK m) p ≤ 402 := by omega
          refine z_aload_n dX12_reads_338 rfl ?_
          refine z_aload_n dX12_reads_339 rfl ?_
          refine z_gIv f_next rfl flX12_459 dX12_reads_340 (sh_M hE) rfl hn4 ?_
          refine z_aload_n dX12_reads_343 rfl ?_
          refine z_gIv f_place rfl flX12_462 dX12_reads_344 (sh_M hE) rfl hp4 ?_
          refine z_sub dX12_reads_347 (by omega) ?_
          refine z_pI f_size rfl (fpX12_484 _) dX12_reads_348 (sh_M hE) rfl ?_
          refine z_vret dX12_reads_351 rfl rfl ?_
          refine ⟨rfl, zfr_uj hf4 (by decide), mTk_mk (mK_fr (zfr_uj hf4 (by decide)) (by decide)) p0 ((zu_j (by decide)).trans hp4) ((zu_j (by decide)).trans hn4) ((zu_j (by decide)).trans hs4) (by rw [zu_s]) (fun h => (zu_j (by decide)).trans (absurd (es.symm.trans h) (by decide))) (fun h => (zu_j (by decide)).trans (absurd (es.symm.trans h) (by decide)))⟩
        · refine z_aload_n dX12_reads_231 rfl ?_
          refine z_iconst dX12_reads_232 (by decide) ?_
          refine z_pI f_number rfl (fpX12_481 _) dX12_reads_233 (sh_M hE) rfl ?_
          generalize em5 : zu m4 aM f_number 0 = m5
          have hf5 : zfr fRd m m5 := by rw [← em5]; exact zfr_uj hf4 (by decide)
          have hm5 : ptM m5 := ptM_rd hm hf5
          have hp5 : m5 aM f_place = p := by rw [← em5]; exact (zu_j (by decide)).trans hp4
          have hw5 : m5 aM f_number = 0 := by rw [← em5]; exact zu_s
          refine z_aload_n dX12_reads_236 rfl ?_
          refine z_aload_n dX12_reads_237 rfl ?_
          refine z_gIv f_place rfl flX12_462 dX12_reads_238 (sh_M hE) rfl hp5 ?_
          refine z_pI f_next rfl (fpX12_459 _) dX12_reads_241 (sh_M hE) rfl ?_
          generalize em6 : zu m5 aM f_next p = m6
          have hf6 : zfr fRd m m6 := by rw [← em6]; exact zfr_uj hf5 (by decide)
          have hm6 : ptM m6 := ptM_rd hm hf6
          have hp6 : m6 aM f_place = p := by rw [← em6]; exact (zu_j (by decide)).trans hp5
          have hw6 : m6 aM f_number = 0 := by rw [← em6]; exact (zu_j (by decide)).trans hw5
          have hn6 : m6 aM f_next = p := by rw [← em6]; exact zu_s
          have hnl : ¬ kL (mK m) p = true := fun h => absurd (kL_iff.mp h) h113
          have hl : kD (mK m) p = true := kD_iff.mpr h228
          have hg := kNe_gt hok hl
          have hg2 : (mK m).2.1 ≤ 400 := he.2
          have hnd : (mK m).2.2 ≠ 0 ∧ kD (mK m) p = true := ⟨fun h => h213 h, hl⟩
          refine l_reads_n d hE hm p p0 he (400 - (p + (0 : Nat))).toNat 0 m6 rfl hf6 hp6 (by rw [hn6]; omega) hw6 (fun x hx => by omega) (fun m8 hf8 hp8 hn8 hu8 => ?_)
          have hm8 : ptM m8 := ptM_rd hm hf8
          rw [Int.natCast_zero, Int.add_zero] at hn8 hu8
          have hn8 : m8 aM f_next = kNe (mK m) p := hn8
          have hu8 : m8 aM f_number = kN (mK m) p := hu8
          have ek : kNx (mK m) p = kNe (mK m) p := by unfold kNx; rw [if_neg hnl, if_pos hnd]
          have hnb : kNx (mK m) p ≤ 402 := by rw [ek]; omega
          refine z_aload_n dX12_reads_316 rfl ?_
          refine z_aload_n dX12_reads_317 rfl ?_
          refine z_gIv f_next rfl flX12_459 dX12_reads_318 (sh_M hE) rfl hn8 ?_
          refine z_aload_n dX12_reads_321 rfl ?_
          refine z_gIv f_place rfl flX12_462 dX12_reads_322 (sh_M hE) rfl hp8 ?_
          refine z_sub dX12_reads_325 (by omega) ?_
          refine z_iconst dX12_reads_326 (by decide) ?_
          refine z_icmp_le (tgt := 334) dX12_reads_327 rfl (fun h327 => ?_) (fun h327 => ?_)
          · refine z_iconst dX12_reads_334 (by decide) ?_
            refine z_pI f_sort rfl (fpX12_471 _) dX12_reads_335 (sh_M hE) rfl ?_
            generalize em9 : zu m8 aM f_sort 2 = m9
            have hf9 : zfr fRd m m9 := by rw [← em9]; exact zfr_uj hf8 (by decide)
            have hm9 : ptM m9 := ptM_rd hm hf9
            have hp9 : m9 aM f_place = p := by rw [← em9]; exact (zu_j (by decide)).trans hp8
            have hn9 : m9 aM f_next = kNx (mK m) p := by rw [← em9]; exact (zu_j (by decide)).trans (hn8.trans ek.symm)
            have hu9 : m9 aM f_number = kN (mK m) p := by rw [← em9]; exact (zu_j (by decide)).trans hu8
            have hs9 : m9 aM f_sort = 2 := by rw [← em9]; exact zu_s
            have es : kSo (mK m) p = 2 := by unfold kSo; rw [if_neg hnl, if_pos hnd, if_neg (by omega)]
            rw [← es] at hs9
            refine z_aload_n dX12_reads_338 rfl ?_
            refine z_aload_n dX12_reads_339 rfl ?_
            refine z_gIv f_next rfl flX12_459 dX12_reads_340 (sh_M hE) rfl hn9 ?_
            refine z_aload_n dX12_reads_343 rfl ?_
            refine z_gIv f_place rfl flX12_462 dX12_reads_344 (sh_M hE) rfl hp9 ?_
            refine z_sub dX12_reads_347 (by omega) ?_
            refine z_pI f_size rfl (fpX12_484 _) dX12_reads_348 (sh_M hE) rfl ?_
            refine z_vret dX12_reads_351 rfl rfl ?_
            refine ⟨rfl, zfr_uj hf9 (by decide), mTk_mk (mK_fr (zfr_uj hf9 (by decide)) (by decide)) p0 ((zu_j (by decide)).trans hp9) ((zu_j (by decide)).trans hn9) ((zu_j (by decide)).trans hs9) (by rw [zu_s]) (fun h => (zu_j (by decide)).trans (absurd (es.symm.trans h) (by decide))) (fun h => (zu_j (by decide)).trans hu9)⟩
          · refine z_iconst dX12_reads_330 (by decide) ?_
            refine z_goto (tgt := 335) dX12_reads_331 rfl ?_
            refine z_pI f_sort rfl (fpX12_471 _) dX12_reads_335 (sh_M hE) rfl ?_
            generalize em9 : zu m8 aM f_sort 4 = m9
            have hf9 : zfr fRd m m9 := by rw [← em9]; exact zfr_uj hf8 (by decide)
            have hm9 : ptM m9 := ptM_rd hm hf9
            have hp9 : m9 aM f_place = p := by rw [← em9]; exact (zu_j (by decide)).trans hp8
            have hn9 : m9 aM f_next = kNx (mK m) p := by rw [← em9]; exact (zu_j (by decide)).trans (hn8.trans ek.symm)
            have hu9 : m9 aM f_number = kN (mK m) p := by rw [← em9]; exact (zu_j (by decide)).trans hu8
            have hs9 : m9 aM f_sort = 4 := by rw [← em9]; exact zu_s
            have es : kSo (mK m) p = 4 := by unfold kSo; rw [if_neg hnl, if_pos hnd, if_pos (by omega)]
            rw [← es] at hs9
            refine z_aload_n dX12_reads_338 rfl ?_
            refine z_aload_n dX12_reads_339 rfl ?_
            refine z_gIv f_next rfl flX12_459 dX12_reads_340 (sh_M hE) rfl hn9 ?_
            refine z_aload_n dX12_reads_343 rfl ?_
            refine z_gIv f_place rfl flX12_462 dX12_reads_344 (sh_M hE) rfl hp9 ?_
            refine z_sub dX12_reads_347 (by omega) ?_
            refine z_pI f_size rfl (fpX12_484 _) dX12_reads_348 (sh_M hE) rfl ?_
            refine z_vret dX12_reads_351 rfl rfl ?_
            refine ⟨rfl, zfr_uj hf9 (by decide), mTk_mk (mK_fr (zfr_uj hf9 (by decide)) (by decide)) p0 ((zu_j (by decide)).trans hp9) ((zu_j (by decide)).trans hn9) ((zu_j (by decide)).trans hs9) (by rw [zu_s]) (fun h => (zu_j (by decide)).trans (absurd (es.symm.trans h) (by decide))) (fun h => (zu_j (by decide)).trans hu9)⟩
    · refine z_aload_n dX12_reads_116 rfl ?_
      refine z_iconst dX12_reads_117 (by decide) ?_
      refine z_pI f_sort rfl (fpX12_471 _) dX12_reads_118 (sh_M hE) rfl ?_
      generalize em5 : zu m4 aM f_sort 1 = m5
      have hf5 : zfr fRd m m5 := by rw [← em5]; exact zfr_uj hf4 (by decide)
      have hm5 : ptM m5 := ptM_rd hm hf5
      have hp5 : m5 aM f_place = p := by rw [← em5]; exact (zu_j (by decide)).trans hp4
      have hs5 : m5 aM f_sort = 1 := by rw [← em5]; exact zu_s
      refine z_aload_n dX12_reads_121 rfl ?_
      refine z_lconst0 dX12_reads_122 ?_
      refine z_pJ f_word rfl (fpX12_474 _) dX12_reads_123 (sh_M hE) rfl ?_
      generalize em6 : zu m5 aM f_word 0 = m6
      have hf6 : zfr fRd m m6 := by rw [← em6]; exact zfr_uj hf5 (by decide)
      have hm6 : ptM m6 := ptM_rd hm hf6
      have hp6 : m6 aM f_place = p := by rw [← em6]; exact (zu_j (by decide)).trans hp5
      have hs6 : m6 aM f_sort = 1 := by rw [← em6]; exact (zu_j (by decide)).trans hs5
      have hw6 : m6 aM f_word = 0 := by rw [← em6]; exact zu_s
      refine z_aload_n dX12_reads_126 rfl ?_
      refine z_aload_n dX12_reads_127 rfl ?_
      refine z_gIv f_place rfl flX12_462 dX12_reads_128 (sh_M hE) rfl hp6 ?_
      refine z_pI f_next rfl (fpX12_459 _) dX12_reads_131 (sh_M hE) rfl ?_
      generalize em7 : zu m6 aM f_next p = m7
      have hf7 : zfr fRd m m7 := by rw [← em7]; exact zfr_uj hf6 (by decide)
      have hm7 : ptM m7 := ptM_rd hm hf7
      have hp7 : m7 aM f_place = p := by rw [← em7]; exact (zu_j (by decide)).trans hp6
      have hs7 : m7 aM f_sort = 1 := by rw [← em7]; exact (zu_j (by decide)).trans hs6
      have hw7 : m7 aM f_word = 0 := by rw [← em7]; exact (zu_j (by decide)).trans hw6
      have hn7 : m7 aM f_next = p := by rw [← em7]; exact zu_s
      have hl : kL (mK m) p = true := kL_iff.mpr h113
      have hg := kWe_gt hok hl
      refine l_reads_w d hE hm p p0 he (400 - (p + (0 : Nat))).toNat 0 m7 rfl hf7 hp7 hs7 (by rw [hn7]; omega) hw7 (fun x hx => by omega) (fun m8 hf8 hp8 hs8 hn8 hw8 => ?_)
      have hm8 : ptM m8 := ptM_rd hm hf8
      rw [Int.natCast_zero, Int.add_zero] at hn8 hw8
      have ek : kNx (mK m) p = kWe (mK m) p := by unfold kNx; rw [if_pos hl]
      have es : kSo (mK m) p = 1 := by unfold kSo; rw [if_pos hl]
      have hn8 : m8 aM f_next = kNx (mK m) p := by rw [ek]; exact hn8
      have hs8 : m8 aM f_sort = kSo (mK m) p := by rw [es]; exact hs8
      have hnb : kNx (mK m) p ≤ 402 := by rw [ek]; have := hg.2; have : (mK m).2.1 ≤ 400 := he.2; omega
      have hng : 0 ≤ kNx (mK m) p := by rw [ek]; omega
      refine z_aload_n dX12_reads_338 rfl ?_
      refine z_aload_n dX12_reads_339 rfl ?_
      refine z_gIv f_next rfl flX12_459 dX12_reads_340 (sh_M hE) rfl hn8 ?_
      refine z_aload_n dX12_reads_343 rfl ?_
      refine z_gIv f_place rfl flX12_462 dX12_reads_344 (sh_M hE) rfl hp8 ?_
      refine z_sub dX12_reads_347 (by omega) ?_
      refine z_pI f_size rfl (fpX12_484 _) dX12_reads_348 (sh_M hE) rfl ?_
      refine z_vret dX12_reads_351 rfl rfl ?_
      refine ⟨rfl, zfr_uj hf8 (by decide), mTk_mk (mK_fr (zfr_uj hf8 (by decide)) (by decide)) p0 ((zu_j (by decide)).trans hp8) ((zu_j (by decide)).trans hn8) ((zu_j (by decide)).trans hs8) (by rw [zu_s]) (fun h => (zu_j (by decide)).trans hw8) (fun h => (zu_j (by decide)).trans (absurd (es.symm.trans h) (by decide)))⟩
