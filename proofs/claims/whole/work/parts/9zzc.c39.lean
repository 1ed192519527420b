theorem c_nameOf (d : Nat) {E : zE} {m : zM} (o b cap : Int) (so : E.1 o = (6, 20)) (sb : shDg E b cap) (b0 : 0 < b) (qb : qDg m o b) (dd p v : Int) (d0 : 0 ≤ dd) (d1 : dd < cap) (hp : m (b + 5) dd = p) (p0 : 0 ≤ p) (p1 : p < cap) (hv : m b p = v) : zR zX0_nameOf (d) [zP o, zI dd] m E E (fun r m' => r = some (zJ (v)) ∧ m = m') := by
  refine zR_go [zP o, zI dd] (by decide +kernel) (Nat.le_of_ble_eq_true rfl) rfl rfl ?_
  refine z_aload_n dX0_nameOf_0 rfl ?_
  refine z_gP 5 rfl (r := b) flX0_35 dX0_nameOf_1 so rfl qb.1 (by omega) ?_
  refine z_aload_n dX0_nameOf_4 rfl ?_
  refine z_gP 10 rfl (r := b + 5) flX0_51 dX0_nameOf_5 so rfl qb.2.2.2.2.2.1 (by omega) ?_
  refine z_iload_n dX0_nameOf_8 rfl ?_
  refine z_ialv (v := p) dX0_nameOf_9 sb.2.2.2.2.2.1 (by omega) (by omega) hp ?_
  refine z_lalv (v := v) dX0_nameOf_10 sb.1 (by omega) (by omega) hv ?_
  refine z_lret dX0_nameOf_11 rfl rfl ?_
  exact ⟨rfl, rfl⟩

theorem c_diagramOf (d : Nat) {E : zE} {m : zM} (o b cap : Int) (so : E.1 o = (6, 20)) (sb : shDg E b cap) (b0 : 0 < b) (qb : qDg m o b) (k p v : Int) (k0 : 0 ≤ k) (k1 : k < cap) (hp : m (b + 7) k = p) (p0 : 0 ≤ p) (p1 : p < cap) (hv : m (b + 6) p = v) : zR zX0_diagramOf (d) [zP o, zI k] m E E (fun r m' => r = some (zI (v)) ∧ m = m') := by
  refine zR_go [zP o, zI k] (by decide +kernel) (Nat.le_of_ble_eq_true rfl) rfl rfl ?_
  refine z_aload_n dX0_diagramOf_0 rfl ?_
  refine z_gP 11 rfl (r := b + 6) flX0_54 dX0_diagramOf_1 so rfl qb.2.2.2.2.2.2.1 (by omega) ?_
  refine z_aload_n dX0_diagramOf_4 rfl ?_
  refine z_gP 12 rfl (r := b + 7) flX0_57 dX0_diagramOf_5 so rfl qb.2.2.2.2.2.2.2.1 (by omega) ?_
  refine z_iload_n dX0_diagramOf_8 rfl ?_
  refine z_ialv (v := p) dX0_diagramOf_9 sb.2.2.2.2.2.2.2 (by omega) (by omega) hp ?_
  refine z_ialv (v := v) dX0_diagramOf_10 sb.2.2.2.2.2.2.1 (by omega) (by omega) hv ?_
  refine z_iret dX0_diagramOf_11 rfl rfl ?_
  exact ⟨rfl, rfl⟩

theorem c_dfind (d : Nat) {E : zE} {m : zM} (o b cap : Int) (so : E.1 o = (6, 20)) (sb : shDg E b cap) (b0 : 0 < b) (qb : qDg m o b) (so2 : E.1 15 = (8, 3)) (ka kcap : Int) (sa : E.1 ka = (2, kcap)) (sbk : E.1 (ka + 1) = (1, kcap)) (ka0 : 0 < ka) (q12 : m o 0 = 15) (k0 : m 15 0 = ka) (k1 : m 15 1 = ka + 1) (e : Nat) (he : e ≤ 14) (k2 : m 15 2 = ((2 ^ e : Nat) : Int)) (hs : ((2 ^ e : Nat) : Int) ≤ kcap) (F : Int → Int) (c : Int) (hK : kT m ka e F c) (hc : c < ((2 ^ e : Nat) : Int)) (key : Int) (hF : F key < cap) : zR zX0_find (d + 2) [zP o, zJ key] m E E (fun r m' => r = some (zI (if F key < 0 then -1 else m (b + 6) (F key))) ∧ m = m') := by
  refine zR_go [zP o, zJ key, zN, zN] (by decide +kernel) (Nat.le_of_ble_eq_true rfl) rfl rfl ?_
  refine z_aload_n dX0_find_0 rfl ?_
  refine z_gP 0 rfl (r := 15) flX0_12 dX0_find_1 so rfl q12 (by omega) ?_
  refine z_lload_n dX0_find_4 rfl ?_
  refine z_callV mlX0_113 dX0_find_5 so2 (av := [_]) rfl rfl (Nat.le_of_ble_eq_true rfl) (c_kfind _ 15 ka kcap so2 sa sbk ka0 k0 k1 e he k2 hs F c hK hc key) (Nat.le_refl _) (Nat.le_refl _) (Nat.le_refl _) (Nat.le_refl _) ?_
  rintro _ _ ⟨rfl, rfl⟩
  refine z_ist 3 dX0_find_8 rfl (Nat.le_of_ble_eq_true rfl) ?_
  refine z_iload_n dX0_find_9 rfl ?_
  try dsimp only [zs0, zsI, zsP, zsN, zsJ, zsS, zst2, Nat.reduceAdd]
  refine z_if_ge (tgt := 17) dX0_find_10 rfl (fun h10 => ?_) (fun h10 => ?_)
  · refine z_aload_n dX0_find_17 rfl ?_
    refine z_gP 11 rfl (r := b + 6) flX0_54 dX0_find_18 so rfl qb.2.2.2.2.2.2.1 (by omega) ?_
    refine z_iload_n dX0_find_21 rfl ?_
    refine z_ialv (v := m (b + 6) (F key)) dX0_find_22 sb.2.2.2.2.2.2.1 (by omega) (by omega) rfl ?_
    refine z_iret dX0_find_23 rfl rfl ?_
    exact ⟨by rw [if_neg (by omega)], rfl⟩
  · refine z_iconst dX0_find_13 (by decide) ?_
    refine z_goto (tgt := 23) dX0_find_14 rfl ?_
    refine z_iret dX0_find_23 rfl rfl ?_
    exact ⟨by rw [if_pos (by omega)], rfl⟩

theorem c_codeAt (d : Nat) {E : zE} {m : zM} (o b cap : Int) (so : E.1 o = (6, 20)) (sb : shDg E b cap) (b0 : 0 < b) (qb : qDg m o b) (dd p v : Int) (d0 : 0 ≤ dd) (d1 : dd < cap) (hp : m (b + 5) dd = p) (p0 : 0 ≤ p) (p1 : p < cap) (hv : m b p = v) (h : Nat) (h6 : h ≤ 6) (q14 : m o 14 = (h : Int)) (g : Int → Int) (hg : ∀ i : Int, 0 ≤ i → i < h → 0 ≤ g i ∧ g i < 1024) (ev : v = sPk g h) (k : Nat) (hk : k < h) : zR zX0_codeAt (d + 1) [zP o, zI dd, zI (k : Nat)] m E E (fun r m' => r = some (zI (g (k : Int))) ∧ m = m') := by
  refine zR_go [zP o, zI dd, zI (k : Nat)] (by decide +kernel) (Nat.le_of_ble_eq_true rfl) rfl rfl ?_
  refine z_aload_n dX0_codeAt_0 rfl ?_
  refine z_iload_n dX0_codeAt_1 rfl ?_
  refine z_callV mlX0_177 dX0_codeAt_2 so (av := [_]) rfl rfl (Nat.le_of_ble_eq_true rfl) (c_nameOf _ o b cap so sb b0 qb dd p v d0 d1 hp p0 p1 hv) (Nat.le_refl _) (Nat.le_refl _) (Nat.le_refl _) (Nat.le_refl _) ?_
  rintro _ _ ⟨rfl, rfl⟩
  refine z_bipush dX0_codeAt_5 rfl (by decide) ?_
  refine z_aload_n dX0_codeAt_7 rfl ?_
  refine z_gIv 14 rfl flX0_79 dX0_codeAt_8 so rfl q14 ?_
  refine z_iconst dX0_codeAt_11 (by decide) ?_
  refine z_sub dX0_codeAt_12 (by omega) ?_
  refine z_iload_n dX0_codeAt_13 rfl ?_
  refine z_sub dX0_codeAt_14 (by omega) ?_
  refine z_mul dX0_codeAt_15 (by omega) ?_
  refine z_lushr dX0_codeAt_16 ?_
  refine z_l2i dX0_codeAt_17 ?_
  refine z_sipush dX0_codeAt_18 rfl (by decide) ?_
  refine z_iand dX0_codeAt_21 ?_
  rw [ev, unpN h6 hg hk]
  refine z_iret dX0_codeAt_22 rfl rfl ?_
  exact ⟨rfl, rfl⟩

theorem c_symmetry (d : Nat) {E : zE} {m : zM} (o b cap : Int) (so : E.1 o = (6, 20)) (sb : shDg E b cap) (b0 : 0 < b) (qb : qDg m o b) (p x y : Int) (p0 : 0 ≤ p) (p1 : p < cap) (hx : m (b + 1) p = x) (x0 : 0 ≤ x) (hy : m o 17 = y) (y0 : 0 ≤ y) : zR zX0_symmetry (d) [zP o, zI p] m E E (fun r m' => r = some (zI (if x = 0 then 0 else y / x)) ∧ m = m') := by
  refine zR_go [zP o, zI p] (by decide +kernel) (Nat.le_of_ble_eq_true rfl) rfl rfl ?_
  refine z_aload_n dX0_symmetry_0 rfl ?_
  refine z_gP 6 rfl (r := b + 1) flX0_39 dX0_symmetry_1 so rfl qb.2.1 (by omega) ?_
  refine z_iload_n dX0_symmetry_4 rfl ?_
  refine z_ialv (v := x) dX0_symmetry_5 sb.2.1 (by omega) (by omega) hx ?_
  refine z_if_ne (tgt := 13) dX0_symmetry_6 rfl (fun h6 => ?_) (fun h6 => ?_)
  · refine z_aload_n dX0_symmetry_13 rfl ?_
    refine z_gIv 17 rfl flX0_96 dX0_symmetry_14 so rfl hy ?_
    refine z_aload_n dX0_symmetry_17 rfl ?_
    refine z_gP 6 rfl (r := b + 1) flX0_39 dX0_symmetry_18 so rfl qb.2.1 (by omega) ?_
    refine z_iload_n dX0_symmetry_21 rfl ?_
    refine z_ialv (v := x) dX0_symmetry_22 sb.2.1 (by omega) (by omega) hx ?_
    refine z_div dX0_symmetry_23 (by omega) (by omega) ?_
    refine z_iret dX0_symmetry_24 rfl rfl ?_
    exact ⟨by rw [if_neg (by omega)], rfl⟩
  · refine z_iconst dX0_symmetry_9 (by decide) ?_
    refine z_goto (tgt := 24) dX0_symmetry_10 rfl ?_
    refine z_iret dX0_symmetry_24 rfl rfl ?_
    exact ⟨by rw [if_pos (by omega)], rfl⟩
