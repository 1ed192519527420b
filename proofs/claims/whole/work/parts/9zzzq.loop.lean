theorem lw_EB {m : zM} {E : zE} (h : lwI m E) : EB E := by
  obtain ⟨X, hX, -⟩ := h.1
  exact cX_EB hX
theorem law_loop {nm : String} {Q : List Frame → Array Value → State → State → Prop} {G : zG} (hn : G.2.2.2.2.1 ≤ 3072) (hret : ∀ (i : Int) (m : zM) (E : zE), EB E → zB (yL nm) Q G 1369 [zQ 0, zP 0, zP 95, zI i] [zI 1] m E) : ∀ (j : Nat) (i : Int) (m : zM) (E : zE), lwI m E → 0 ≤ i → i ≤ 6000 → ((G.2.2.2.2.1 : Nat) : Int) - i ≤ 6 * (j : Int) → zB (yL nm) Q G 18 [zQ 0, zP 0, zP 95, zI i] [] m E := by
  intro j
  induction j with
  | zero =>
    intro i m E hI h0 h6 hj
    refine b_iload_n dL_law_18 rfl ?_
    refine b_aload_q dL_law_19 rfl ?_
    refine b_slen hn dL_law_20 ?_
    refine b_bipush dL_law_21 rfl (by decide) ?_
    refine b_sub dL_law_23 (by omega) ?_
    refine b_icmp_gt (tgt := 1368) dL_law_24 rfl (fun _ => ?_) (fun h => absurd (by omega) h)
    refine b_iconst dL_law_1368 (by decide) ?_
    exact hret i m E (lw_EB hI)
  | succ j ih =>
    intro i m E hI h0 h6 hj
    refine b_iload_n dL_law_18 rfl ?_
    refine b_aload_q dL_law_19 rfl ?_
    refine b_slen hn dL_law_20 ?_
    refine b_bipush dL_law_21 rfl (by decide) ?_
    refine b_sub dL_law_23 (by omega) ?_
    refine b_icmp_gt (tgt := 1368) dL_law_24 rfl (fun _ => ?_) (fun h24 => ?_)
    · refine b_iconst dL_law_1368 (by decide) ?_
      exact hret i m E (lw_EB hI)
    have h1 : i + 6 ≤ ((G.2.2.2.2.1 : Nat) : Int) := by omega
    have kt : ∀ (m : zM) (E : zE), lwI m E → zB (yL nm) Q G 1362 [zQ 0, zP 0, zP 95, zI i] [] m E := fun m E hI2 => by
      refine b_inc dL_law_1362 rfl (by omega) ?_
      try dsimp only [zs0, zsI, zsP, zsN, zsJ, zsS, zst2, Nat.reduceAdd]
      refine b_goto (tgt := 18) dL_law_1365 rfl ?_
      exact ih (i + 6) m E hI2 (by omega) (by omega) (by omega)
    refine b_aload_q dL_law_27 rfl ?_
    refine b_iload_n dL_law_28 rfl ?_
    refine b_sld (by omega) (by omega) hn dL_law_29 ?_
    refine b_bipush dL_law_30 rfl (by decide) ?_
    refine b_iand dL_law_32 ?_
    obtain ⟨k, ek, hk⟩ := zand_rg (sG G i) (b := 63) (by decide)
    have ek : zand (sG G i) 63 = (k : Int) := ek
    rw [ek]
    by_cases hc0 : k = 0
    · refine b_tabIn (tgt := 200) dL_law_33 (by omega) (by omega) (by rw [hc0]; rfl) rfl ?_
      exact lc_status hn hI h0 h1 kt
    by_cases hc1 : k = 1
    · refine b_tabIn (tgt := 213) dL_law_33 (by omega) (by omega) (by rw [hc1]; rfl) rfl ?_
      exact lc_feed hn hI h0 h1 kt
    by_cases hc2 : k = 2
    · refine b_tabIn (tgt := 276) dL_law_33 (by omega) (by omega) (by rw [hc2]; rfl) rfl ?_
      exact lc_load hn hI h0 h1 kt
    by_cases hc3 : k = 3
    · refine b_tabIn (tgt := 299) dL_law_33 (by omega) (by omega) (by rw [hc3]; rfl) rfl ?_
      exact lc_pairs hn hI h0 h1 kt
    by_cases hc4 : k = 4
    · refine b_tabIn (tgt := 322) dL_law_33 (by omega) (by omega) (by rw [hc4]; rfl) rfl ?_
      exact lc_lines hn hI h0 h1 kt
    by_cases hc5 : k = 5
    · refine b_tabIn (tgt := 345) dL_law_33 (by omega) (by omega) (by rw [hc5]; rfl) rfl ?_
      exact lc_fault hn hI h0 h1 kt
    by_cases hc6 : k = 6
    · refine b_tabIn (tgt := 368) dL_law_33 (by omega) (by omega) (by rw [hc6]; rfl) rfl ?_
      exact lc_many hn hI h0 h1 kt
    by_cases hc7 : k = 7
    · refine b_tabIn (tgt := 391) dL_law_33 (by omega) (by omega) (by rw [hc7]; rfl) rfl ?_
      exact lc_letter hn hI h0 h1 kt
    by_cases hc8 : k = 8
    · refine b_tabIn (tgt := 424) dL_law_33 (by omega) (by omega) (by rw [hc8]; rfl) rfl ?_
      exact lc_field hn hI h0 h1 kt
    by_cases hc9 : k = 9
    · refine b_tabIn (tgt := 457) dL_law_33 (by omega) (by omega) (by rw [hc9]; rfl) rfl ?_
      exact lc_point hn hI h0 h1 kt
    by_cases hc10 : k = 10
    · refine b_tabIn (tgt := 490) dL_law_33 (by omega) (by omega) (by rw [hc10]; rfl) rfl ?_
      exact lc_code hn hI h0 h1 kt
    by_cases hc11 : k = 11
    · refine b_tabIn (tgt := 523) dL_law_33 (by omega) (by omega) (by rw [hc11]; rfl) rfl ?_
      exact lc_drop hn hI h0 h1 kt
    by_cases hc12 : k = 12
    · refine b_tabIn (tgt := 546) dL_law_33 (by omega) (by omega) (by rw [hc12]; rfl) rfl ?_
      exact lc_move hn hI h0 h1 kt
    by_cases hc13 : k = 13
    · refine b_tabIn (tgt := 579) dL_law_33 (by omega) (by omega) (by rw [hc13]; rfl) rfl ?_
      exact lc_swap hn hI h0 h1 kt
    by_cases hc14 : k = 14
    · refine b_tabIn (tgt := 602) dL_law_33 (by omega) (by omega) (by rw [hc14]; rfl) rfl ?_
      exact lc_normal hn hI h0 h1 kt
    by_cases hc15 : k = 15
    · refine b_tabIn (tgt := 651) dL_law_33 (by omega) (by omega) (by rw [hc15]; rfl) rfl ?_
      exact lc_copy hn hI h0 h1 kt
    by_cases hc16 : k = 16
    · refine b_tabIn (tgt := 674) dL_law_33 (by omega) (by omega) (by rw [hc16]; rfl) rfl ?_
      exact lc_worth hn hI h0 h1 kt
    by_cases hc17 : k = 17
    · refine b_tabIn (tgt := 707) dL_law_33 (by omega) (by omega) (by rw [hc17]; rfl) rfl ?_
      exact lc_mate hn hI h0 h1 kt
    by_cases hc18 : k = 18
    · refine b_tabIn (tgt := 740) dL_law_33 (by omega) (by omega) (by rw [hc18]; rfl) rfl ?_
      exact lc_pairing hn hI h0 h1 kt
    by_cases hc19 : k = 19
    · refine b_tabIn (tgt := 773) dL_law_33 (by omega) (by omega) (by rw [hc19]; rfl) rfl ?_
      exact lc_ways hn hI h0 h1 kt
    by_cases hc20 : k = 20
    · refine b_tabIn (tgt := 816) dL_law_33 (by omega) (by omega) (by rw [hc20]; rfl) rfl ?_
      exact lc_overlay hn hI h0 h1 kt
    by_cases hc21 : k = 21
    · refine b_tabIn (tgt := 859) dL_law_33 (by omega) (by omega) (by rw [hc21]; rfl) rfl ?_
      exact lc_by hn hI h0 h1 kt
    by_cases hc22 : k = 22
    · refine b_tabIn (tgt := 892) dL_law_33 (by omega) (by omega) (by rw [hc22]; rfl) rfl ?_
      exact lc_signedBy hn hI h0 h1 kt
    by_cases hc23 : k = 23
    · refine b_tabIn (tgt := 925) dL_law_33 (by omega) (by omega) (by rw [hc23]; rfl) rfl ?_
      exact lc_partial hn hI h0 h1 kt
    by_cases hc24 : k = 24
    · refine b_tabIn (tgt := 948) dL_law_33 (by omega) (by omega) (by rw [hc24]; rfl) rfl ?_
      exact lc_sub hn hI h0 h1 kt
    by_cases hc25 : k = 25
    · refine b_tabIn (tgt := 981) dL_law_33 (by omega) (by omega) (by rw [hc25]; rfl) rfl ?_
      exact lc_sum hn hI h0 h1 kt
    by_cases hc26 : k = 26
    · refine b_tabIn (tgt := 995) dL_law_33 (by omega) (by omega) (by rw [hc26]; rfl) rfl ?_
      exact lc_diagram hn hI h0 h1 kt
    by_cases hc27 : k = 27
    · refine b_tabIn (tgt := 1028) dL_law_33 (by omega) (by omega) (by rw [hc27]; rfl) rfl ?_
      exact lc_name hn hI h0 h1 kt
    by_cases hc28 : k = 28
    · refine b_tabIn (tgt := 1061) dL_law_33 (by omega) (by omega) (by rw [hc28]; rfl) rfl ?_
      exact lc_part hn hI h0 h1 kt
    by_cases hc29 : k = 29
    · refine b_tabIn (tgt := 1094) dL_law_33 (by omega) (by omega) (by rw [hc29]; rfl) rfl ?_
      exact lc_far hn hI h0 h1 kt
    by_cases hc30 : k = 30
    · refine b_tabIn (tgt := 1137) dL_law_33 (by omega) (by omega) (by rw [hc30]; rfl) rfl ?_
      exact lc_holds hn hI h0 h1 kt
    by_cases hc31 : k = 31
    · refine b_tabIn (tgt := 1160) dL_law_33 (by omega) (by omega) (by rw [hc31]; rfl) rfl ?_
      exact lc_ofDiagram hn hI h0 h1 kt
    by_cases hc32 : k = 32
    · refine b_tabIn (tgt := 1203) dL_law_33 (by omega) (by omega) (by rw [hc32]; rfl) rfl ?_
      exact lc_sumOf hn hI h0 h1 kt
    by_cases hc33 : k = 33
    · refine b_tabIn (tgt := 1227) dL_law_33 (by omega) (by omega) (by rw [hc33]; rfl) rfl ?_
      exact lc_diagrams hn hI h0 h1 kt
    by_cases hc34 : k = 34
    · refine b_tabIn (tgt := 1260) dL_law_33 (by omega) (by omega) (by rw [hc34]; rfl) rfl ?_
      exact lc_print hn hI h0 h1 kt
    by_cases hc35 : k = 35
    · refine b_tabIn (tgt := 1283) dL_law_33 (by omega) (by omega) (by rw [hc35]; rfl) rfl ?_
      exact lc_printPairs hn hI h0 h1 kt
    by_cases hc36 : k = 36
    · refine b_tabIn (tgt := 1306) dL_law_33 (by omega) (by omega) (by rw [hc36]; rfl) rfl ?_
      exact lc_out hn hI h0 h1 kt
    by_cases hc37 : k = 37
    · refine b_tabIn (tgt := 1329) dL_law_33 (by omega) (by omega) (by rw [hc37]; rfl) rfl ?_
      exact lc_core hn hI h0 h1 kt
    refine b_tabOut (tgt := 1362) dL_law_33 (by omega) rfl ?_
    exact kt m E hI
