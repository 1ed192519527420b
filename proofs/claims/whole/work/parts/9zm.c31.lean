theorem zsum_k1 : ∀ (j : Nat) (k : Int), zsum (fun _ => 1) j k = (j : Int)
  | 0, _ => rfl
  | j + 1, k => by rw [zsum_s, zsum_k1 j (k + 1)]; omega
theorem kS_N {e : Nat} {key : Int} {i : Nat} : (((kS e key i).toNat : Nat) : Int) = kS e key i := by have := kS_rg e key i; omega
/-- the table holds F; c of its places are taken -/
def kT (m : zM) (a : Int) (e : Nat) (F : Int → Int) (c : Int) : Prop := kI m a e ∧ (∀ f : Nat, f < 2 ^ e → m (a + 1) (f : Int) ≠ 0 → m (a + 1) (f : Int) = F (m a (f : Int)) + 1) ∧ (∀ key, F key ≠ -1 → ∃ f : Nat, f < 2 ^ e ∧ m (a + 1) (f : Int) ≠ 0 ∧ m a (f : Int) = key) ∧ (∀ key, -1 ≤ F key ∧ F key ≤ 10395) ∧ zsum (fun f => zb (m (a + 1) f ≠ 0)) (2 ^ e) 0 = c
theorem kT_free {m : zM} {a : Int} {e : Nat} {F : Int → Int} {c : Int} (h : kT m a e F c) (hc : c < ((2 ^ e : Nat) : Int)) : ∃ j : Nat, j < 2 ^ e ∧ m (a + 1) (j : Int) = 0 := by
  apply Classical.byContradiction
  intro hn
  have : zsum (fun f => zb (m (a + 1) f ≠ 0)) (2 ^ e) 0 = zsum (fun _ => 1) (2 ^ e) 0 := zsum_congr (fun f f0 f1 => zb_t (fun z => hn ⟨f.toNat, by omega, by rw [show ((f.toNat : Nat) : Int) = f by omega]; exact z⟩))
  rw [zsum_k1] at this
  have h5 := h.2.2.2.2
  omega
theorem kT_no {m : zM} {a : Int} {e : Nat} {F : Int → Int} {c key : Int} (h : kT m a e F c) (hn : ∀ j : Nat, j < 2 ^ e → m (a + 1) (j : Int) ≠ 0 → m a (j : Int) ≠ key) : F key = -1 := by
  apply Classical.byContradiction
  intro z
  obtain ⟨f, h1, h2, h3⟩ := h.2.2.1 key z
  exact hn f h1 h2 h3
theorem kT_new {m : zM} {a cap : Int} {e : Nat} (he : ((2 ^ e : Nat) : Int) ≤ cap) (h : ∀ i : Int, 0 ≤ i → i < cap → m (a + 1) i = 0) : kT m a e (fun _ => -1) 0 := by
  have hz : ∀ f : Nat, f < 2 ^ e → m (a + 1) (f : Int) = 0 := fun f hf => h f (by omega) (by omega)
  exact ⟨⟨fun f hf z => absurd (hz f hf) z, fun f g hf _ z => absurd (hz f hf) z⟩, fun f hf z => absurd (hz f hf) z, fun key z => absurd rfl z, fun key => ⟨Int.le_refl _, by show (-1 : Int) ≤ 10395; decide⟩, zsum_z (fun f f0 f1 => zb_f (fun z => z (h f f0 (by omega))))⟩
theorem kT_put {m : zM} {a : Int} {e : Nat} {F : Int → Int} {c key mk : Int} {i : Nat} (h : kT m a e F c) (hi : i < 2 ^ e) (hw : ∀ i1 : Nat, i1 < i → m (a + 1) (kS e key i1) ≠ 0) (g1 : m (a + 1) (kS e key i) = 0) (g2 : ∀ j : Nat, j < 2 ^ e → m (a + 1) (j : Int) ≠ 0 → m a (j : Int) ≠ key) (hmk : 0 ≤ mk ∧ mk ≤ 10395) : kT (zu (zu m a (kS e key i) key) (a + 1) (kS e key i) (mk + 1)) a e (fun k => if k = key then mk else F k) (c + 1) := by
  have hr := kS_rg e key i
  obtain ⟨⟨p1, p2⟩, h2, h3, h4, h5⟩ := h
  have ek : ∀ f : Int, zu (zu m a (kS e key i) key) (a + 1) (kS e key i) (mk + 1) a f = if f = kS e key i then key else m a f := fun f => by
    rw [zu_a (by omega)]
    by_cases z : f = kS e key i
    · rw [if_pos z, z, zu_s]
    · rw [if_neg z, zu_j z]
  have em : ∀ f : Int, zu (zu m a (kS e key i) key) (a + 1) (kS e key i) (mk + 1) (a + 1) f = if f = kS e key i then mk + 1 else m (a + 1) f := fun f => by
    by_cases z : f = kS e key i
    · rw [if_pos z, z, zu_s]
    · rw [if_neg z, zu_j z, zu_a (by omega)]
  have up : ∀ f : Int, m (a + 1) f ≠ 0 → (if f = kS e key i then mk + 1 else m (a + 1) f) ≠ 0 := fun f z => by split; omega; exact z
  refine ⟨⟨fun f hf z => ?_, fun f g hf hg z1 z2 z3 => ?_⟩, fun f hf z => ?_, fun k z => ?_, fun k => ?_, ?_⟩
  · rw [em] at z
    rw [ek]
    by_cases q : (f : Int) = kS e key i
    · rw [if_pos q]
      refine ⟨i, hi, q.symm, fun i1 hi1 => ?_⟩
      rw [em]
      by_cases y : i1 = i
      · rw [y, if_pos rfl]; omega
      · exact up _ (hw i1 (by omega))
    · rw [if_neg q] at z ⊢
      obtain ⟨i2, a1, a2, a3⟩ := p1 f hf z
      exact ⟨i2, a1, a2, fun i1 hi1 => by rw [em]; exact up _ (a3 i1 hi1)⟩
  · rw [em] at z1 z2
    rw [ek, ek] at z3
    by_cases q : (f : Int) = kS e key i
    · by_cases y : (g : Int) = kS e key i
      · omega
      · rw [if_pos q, if_neg y] at z3
        rw [if_neg y] at z2
        exact absurd z3.symm (g2 g hg z2)
    · by_cases y : (g : Int) = kS e key i
      · rw [if_neg q, if_pos y] at z3
        rw [if_neg q] at z1
        exact absurd z3 (g2 f hf z1)
      · rw [if_neg q, if_neg y] at z3
        rw [if_neg q] at z1
        rw [if_neg y] at z2
        exact p2 f g hf hg z1 z2 z3
  · rw [em] at z ⊢
    rw [ek]
    by_cases q : (f : Int) = kS e key i
    · rw [if_pos q, if_pos q]
      show mk + 1 = (if key = key then mk else F key) + 1
      rw [if_pos rfl]
    · rw [if_neg q] at z
      rw [if_neg q, if_neg q]
      show m (a + 1) (f : Int) = (if m a (f : Int) = key then mk else F (m a (f : Int))) + 1
      rw [if_neg (g2 f hf z)]
      exact h2 f hf z
  · by_cases y : k = key
    · refine ⟨(kS e key i).toNat, by omega, ?_, ?_⟩
      · rw [kS_N, em, if_pos rfl]; omega
      · rw [kS_N, ek, if_pos rfl]; exact y.symm
    · have z : (if k = key then mk else F k) ≠ -1 := z
      rw [if_neg y] at z
      obtain ⟨f, a1, a2, a3⟩ := h3 k z
      have q : ¬ (f : Int) = kS e key i := fun q => a2 (by rw [q]; exact g1)
      exact ⟨f, a1, by rw [em, if_neg q]; exact a2, by rw [ek, if_neg q]; exact a3⟩
  · show -1 ≤ (if k = key then mk else F k) ∧ (if k = key then mk else F k) ≤ 10395
    split
    · omega
    · exact h4 k
  · rw [← h5]
    have : zsum (fun f => zb (zu (zu m a (kS e key i) key) (a + 1) (kS e key i) (mk + 1) (a + 1) f ≠ 0)) (2 ^ e) 0 = zsum (fun f => zb (m (a + 1) f ≠ 0) + zb (f = kS e key i)) (2 ^ e) 0 := zsum_congr (fun f f0 f1 => by
      rw [em]
      by_cases q : f = kS e key i
      · rw [if_pos q, zb_t (show mk + 1 ≠ 0 by omega), zb_t q, zb_f (fun z => z (by rw [q]; exact g1))]; rfl
      · rw [if_neg q, zb_f q, Int.add_zero])
    rw [this, zsum_add, zsum_ind hr.1 (by omega)]
def kEx (x : Int) : Nat → Nat → Nat
  | 0, st => 5 + st
  | j + 1, st => if ((2 ^ (5 + st) : Nat) : Int) < x + x / 2 then kEx x j (st + 1) else 5 + st
theorem kEx_rg {x : Int} (hx : 0 ≤ x ∧ x ≤ 10395) : ∀ (j st : Nat), st + j = 10 → (st = 0 ∨ ((2 ^ (4 + st) : Nat) : Int) < x + x / 2) → kEx x j st ≤ 14 ∧ x + x / 2 ≤ ((2 ^ kEx x j st : Nat) : Int)
  | 0, st, hj, h => by
    have e : st = 10 := by omega
    subst e
    rcases h with h | h
    · omega
    · have : (2 : Nat) ^ (4 + 10) = 16384 := by decide
      omega
  | j + 1, st, hj, h => by
    show (if ((2 ^ (5 + st) : Nat) : Int) < x + x / 2 then kEx x j (st + 1) else 5 + st) ≤ 14 ∧ x + x / 2 ≤ ((2 ^ (if ((2 ^ (5 + st) : Nat) : Int) < x + x / 2 then kEx x j (st + 1) else 5 + st) : Nat) : Int)
    by_cases g : ((2 ^ (5 + st) : Nat) : Int) < x + x / 2
    · rw [if_pos g]
      exact kEx_rg hx j (st + 1) (by omega) (Or.inr (by rw [show 4 + (st + 1) = 5 + st by omega]; exact g))
    · rw [if_neg g]
      refine ⟨?_, by omega⟩
      rcases Nat.lt_or_ge st 10 with q | q
      · omega
      · omega
theorem kEx_ok {x : Int} (hx : 0 ≤ x ∧ x ≤ 10395) : kEx x 10 0 ≤ 14 ∧ x + x / 2 ≤ ((2 ^ kEx x 10 0 : Nat) : Int) := kEx_rg hx 10 0 rfl (Or.inl rfl)
/-- no more places taken than keys there are -/
theorem kT_cnt {m : zM} {a : Int} {e : Nat} {F : Int → Int} {c : Int} (h : kT m a e F c) (Q : List Int) (hQ : ∀ key, F key ≠ -1 → key ∈ Q) : c ≤ (Q.length : Int) := by
  have key : ∀ Q : List Int, zsum (fun f => zb (m (a + 1) f ≠ 0 ∧ m a f ∈ Q)) (2 ^ e) 0 ≤ (Q.length : Int) := by
    intro Q
    induction Q with
    | nil => rw [zsum_z (fun f _ _ => zb_f (fun z => by cases z.2))]; exact Int.le_refl _
    | cons x Q ih =>
      have one : zsum (fun f => zb (m (a + 1) f ≠ 0 ∧ m a f = x)) (2 ^ e) 0 ≤ 1 := by
        by_cases z : ∃ f : Nat, f < 2 ^ e ∧ m (a + 1) (f : Int) ≠ 0 ∧ m a (f : Int) = x
        · obtain ⟨f, a1, a2, a3⟩ := z
          have : zsum (fun f => zb (m (a + 1) f ≠ 0 ∧ m a f = x)) (2 ^ e) 0 = zsum (fun g => zb (g = (f : Int))) (2 ^ e) 0 := zsum_congr (fun g g0 g1 => zb_congr ⟨fun z => by
            have := h.1.2 g.toNat f (by omega) a1 (by rw [show ((g.toNat : Nat) : Int) = g by omega]; exact z.1) a2 (by rw [show ((g.toNat : Nat) : Int) = g by omega, z.2, a3])
            omega, fun z => by rw [z]; exact ⟨a2, a3⟩⟩)
          rw [this, zsum_ind (by omega) (by omega)]
          exact Int.le_refl _
        · rw [zsum_z (fun f f0 f1 => zb_f (fun y => z ⟨f.toNat, by omega, by rw [show ((f.toNat : Nat) : Int) = f by omega]; exact y⟩))]
          decide
      have le : zsum (fun f => zb (m (a + 1) f ≠ 0 ∧ m a f ∈ x :: Q)) (2 ^ e) 0 ≤ zsum (fun f => zb (m (a + 1) f ≠ 0 ∧ m a f = x) + zb (m (a + 1) f ≠ 0 ∧ m a f ∈ Q)) (2 ^ e) 0 := zsum_le (fun f _ _ => by
        have b1 := zb01 (m (a + 1) f ≠ 0 ∧ m a f = x)
        have b2 := zb01 (m (a + 1) f ≠ 0 ∧ m a f ∈ Q)
        by_cases y : m (a + 1) f ≠ 0 ∧ m a f ∈ x :: Q
        · rw [zb_t y]
          rcases List.mem_cons.mp y.2 with g | g
          · rw [zb_t (show m (a + 1) f ≠ 0 ∧ m a f = x from ⟨y.1, g⟩)]; omega
          · rw [zb_t (show m (a + 1) f ≠ 0 ∧ m a f ∈ Q from ⟨y.1, g⟩)]; omega
        · rw [zb_f y]; omega)
      rw [zsum_add] at le
      rw [List.length_cons]
      omega
  have := key Q
  rw [← h.2.2.2.2]
  refine Int.le_trans (Int.le_of_eq (zsum_congr (fun f f0 f1 => zb_congr ⟨fun z => ⟨z, ?_⟩, fun z => z.1⟩))) this
  apply hQ
  have := h.2.1 f.toNat (by omega) (by rw [show ((f.toNat : Nat) : Int) = f by omega]; exact z)
  rw [show ((f.toNat : Nat) : Int) = f by omega] at this
  omega
theorem c_kfind (d : Nat) {E : zE} {m : zM} (o a cap : Int) (so : E.1 o = (8, 3)) (sa : E.1 a = (2, cap)) (sb : E.1 (a + 1) = (1, cap)) (a0 : 0 < a) (q0 : m o 0 = a) (q1 : m o 1 = a + 1) (e : Nat) (he : e ≤ 14) (q2 : m o 2 = ((2 ^ e : Nat) : Int)) (hs : ((2 ^ e : Nat) : Int) ≤ cap) (F : Int → Int) (c : Int) (hK : kT m a e F c) (hc : c < ((2 ^ e : Nat) : Int)) (key : Int) : zR zX2_find (d + 1) [zP o, zJ key] m E E (fun r m' => r = some (zI (F key)) ∧ m = m') := by
  have hp14 : 2 ^ e ≤ 2 ^ 14 := Nat.pow_le_pow_right (by decide) he
  have h0 := Nat.two_pow_pos e
  refine zR_go [zP o, zJ key, zN, zN] (by decide +kernel) (Nat.le_of_ble_eq_true rfl) rfl rfl ?_
  refine z_aload_n dX2_find_0 rfl ?_
  refine z_lload_n dX2_find_1 rfl ?_
  refine z_callV mlX2_40 dX2_find_2 so (av := [_]) rfl rfl (Nat.le_of_ble_eq_true rfl) (c_slotOf _ o a cap so sa sb a0 q0 q1 e he q2 hs key hK.1 (kT_free hK hc)) (Nat.le_refl _) (Nat.le_refl _) (Nat.le_refl _) (Nat.le_refl _) ?_
  rintro _ _ ⟨i, rfl, rfl, hi, hw, hd⟩
  have hkr := kS_rg e key i
  have hmr : 0 ≤ m (a + 1) (kS e key i) ∧ m (a + 1) (kS e key i) ≤ 10396 := by
    rcases hd with ⟨g1, g2⟩ | ⟨g1, g2⟩
    · have v1 := hK.2.1 (kS e key i).toNat (by omega) (by rw [kS_N]; exact g1)
      rw [kS_N] at v1
      have v2 := hK.2.2.2.1 (m a (kS e key i))
      omega
    · omega
  refine z_ist 3 dX2_find_5 rfl (Nat.le_of_ble_eq_true rfl) ?_
  refine z_aload_n dX2_find_6 rfl ?_
  refine z_gP 0 rfl (r := a) flX2_9 dX2_find_7 so rfl q0 (by omega) ?_
  refine z_iload_n dX2_find_10 rfl ?_
  refine z_lald dX2_find_11 sa (by omega) (by omega) ?_
  refine z_lload_n dX2_find_12 rfl ?_
  refine z_lcmp dX2_find_13 ?_
  try dsimp only [zs0, zsI, zsP, zsN, zsJ, zsS, zst2, Nat.reduceAdd]
  refine z_if_ne (tgt := 28) dX2_find_14 rfl (fun h14 => ?_) (fun h14 => ?_)
  · refine z_iconst dX2_find_28 (by decide) ?_
    refine z_iret dX2_find_29 rfl rfl ?_
    rcases hd with ⟨g1, g2⟩ | ⟨g1, g2⟩
    · exact absurd g2 (zcNe h14)
    · rw [kT_no hK g2]
      exact ⟨rfl, rfl⟩
  · refine z_aload_n dX2_find_17 rfl ?_
    refine z_gP 1 rfl (r := a + 1) flX2_15 dX2_find_18 so rfl q1 (by omega) ?_
    refine z_iload_n dX2_find_21 rfl ?_
    refine z_iald dX2_find_22 sb (by omega) (by omega) ?_
    refine z_iconst dX2_find_23 (by decide) ?_
    refine z_sub dX2_find_24 (by omega) ?_
    refine z_goto (tgt := 29) dX2_find_25 rfl ?_
    refine z_iret dX2_find_29 rfl rfl ?_
    rcases hd with ⟨g1, g2⟩ | ⟨g1, g2⟩
    · have := hK.2.1 (kS e key i).toNat (by omega) (by rw [kS_N]; exact g1)
      rw [kS_N, g2] at this
      exact ⟨by congr 2; omega, rfl⟩
    · have := kT_no hK g2
      exact ⟨by congr 2; omega, rfl⟩

theorem c_kput (d : Nat) {E : zE} {m : zM} (o a cap : Int) (so : E.1 o = (8, 3)) (sa : E.1 a = (2, cap)) (sb : E.1 (a + 1) = (1, cap)) (a0 : 0 < a) (q0 : m o 0 = a) (q1 : m o 1 = a + 1) (e : Nat) (he : e ≤ 14) (q2 : m o 2 = ((2 ^ e : Nat) : Int)) (hs : ((2 ^ e : Nat) : Int) ≤ cap) (oa : o ≠ a) (ob : o ≠ a + 1) (F : Int → Int) (c : Int) (hK : kT m a e F c) (hc : c < ((2 ^ e : Nat) : Int)) (key : Int) (mk : Int) (hmk : 0 ≤ mk ∧ mk ≤ 10395) : zR zX2_put (d + 1) [zP o, zJ key, zI mk] m E E (fun r m' => r = none ∧ zfr [(a, none), (a + 1, none)] m m' ∧ kT m' a e (if F key ≠ -1 then F else fun k => if k = key then mk else F k) (if F key ≠ -1 then c else c + 1)) := by
  have hp14 : 2 ^ e ≤ 2 ^ 14 := Nat.pow_le_pow_right (by decide) he
  have h0 := Nat.two_pow_pos e
  refine zR_go [zP o, zJ key, zN, zI mk, zN] (by decide +kernel) (Nat.le_of_ble_eq_true rfl) rfl rfl ?_
  refine z_aload_n dX2_put_0 rfl ?_
  refine z_lload_n dX2_put_1 rfl ?_
  refine z_callV mlX2_40 dX2_put_2 so (av := [_]) rfl rfl (Nat.le_of_ble_eq_true rfl) (c_slotOf _ o a cap so sa sb a0 q0 q1 e he q2 hs key hK.1 (kT_free hK hc)) (Nat.le_refl _) (Nat.le_refl _) (Nat.le_refl _) (Nat.le_refl _) ?_
  rintro _ _ ⟨i, rfl, rfl, hi, hw, hd⟩
  have hkr := kS_rg e key i
  have hmr : 0 ≤ m (a + 1) (kS e key i) ∧ m (a + 1) (kS e key i) ≤ 10396 := by
    rcases hd with ⟨g1, g2⟩ | ⟨g1, g2⟩
    · have v1 := hK.2.1 (kS e key i).toNat (by omega) (by rw [kS_N]; exact g1)
      rw [kS_N] at v1
      have v2 := hK.2.2.2.1 (m a (kS e key i))
      omega
    · omega
  refine z_istore dX2_put_5 (Nat.le_of_ble_eq_true rfl) ?_
  refine z_aload_n dX2_put_7 rfl ?_
  refine z_gP 1 rfl (r := a + 1) flX2_15 dX2_put_8 so rfl q1 (by omega) ?_
  refine z_iload dX2_put_11 rfl ?_
  refine z_iald dX2_put_13 sb (by omega) (by omega) ?_
  try dsimp only [zs0, zsI, zsP, zsN, zsJ, zsS, zst2, Nat.reduceAdd]
  refine z_if_ne (tgt := 35) dX2_put_14 rfl (fun h14 => ?_) (fun h14 => ?_)
  · refine z_vret dX2_put_35 rfl rfl ?_
    rcases hd with ⟨g1, g2⟩ | ⟨g1, g2⟩
    · have := hK.2.1 (kS e key i).toNat (by omega) (by rw [kS_N]; exact g1)
      rw [kS_N, g2] at this
      rw [if_pos (show F key ≠ -1 by omega), if_pos (show F key ≠ -1 by omega)]
      exact ⟨rfl, zfr_rf, hK⟩
    · exact absurd g1 h14
  · refine z_aload_n dX2_put_17 rfl ?_
    refine z_gP 0 rfl (r := a) flX2_9 dX2_put_18 so rfl q0 (by omega) ?_
    refine z_iload dX2_put_21 rfl ?_
    refine z_lload_n dX2_put_23 rfl ?_
    refine z_last dX2_put_24 sa (by omega) (by omega) ?_
    refine z_aload_n dX2_put_25 rfl ?_
    refine z_gP 1 rfl (r := a + 1) flX2_15 dX2_put_26 so rfl ((zu_a oa).trans q1) (by omega) ?_
    refine z_iload dX2_put_29 rfl ?_
    refine z_iload_n dX2_put_31 rfl ?_
    refine z_iconst dX2_put_32 (by decide) ?_
    refine z_add dX2_put_33 (by omega) ?_
    refine z_iast dX2_put_34 sb (by omega) (by omega) ?_
    refine z_vret dX2_put_35 rfl rfl ?_
    rcases hd with ⟨g1, g2⟩ | ⟨g1, g2⟩
    · exact absurd g1 h14
    · rw [if_neg (show ¬ F key ≠ -1 from fun z => z (kT_no hK g2)), if_neg (show ¬ F key ≠ -1 from fun z => z (kT_no hK g2))]
      exact ⟨rfl, zfr_ua (zfr_ua zfr_rf (by simp)) (by simp), kT_put hK hi hw g1 g2 hmk⟩

theorem l_clr (d : Nat) {E E' : zE} {m : zM} {P : Option zV → zM → Prop} (o a cap : Int) (so : E.1 o = (8, 3)) (sa : E.1 a = (2, cap)) (sb : E.1 (a + 1) = (1, cap)) (a0 : 0 < a) (q0 : m o 0 = a) (q1 : m o 1 = a + 1) (oa : o ≠ a) (ob : o ≠ a + 1) (hcap : 32 ≤ cap ∧ cap ≤ 16384) (x : Int) (hx : 0 ≤ x ∧ x ≤ 10395) : ∀ (j : Nat) (st : Nat) (m1 : zM), (st + j = 10) → (zfr [(o, some 2)] m m1) → (m1 o 2 = ((2 ^ (5 + st) : Nat) : Int)) → (∀ m', zfr [(o, some 2)] m m' → m' o 2 = ((2 ^ kEx x j st : Nat) : Int) → zA zX2_clear (d + 2) E E' P 42 [zP o, zI x, zN] [] m' E) → zA zX2_clear (d + 2) E E' P 8 [zP o, zI x, zI (st : Nat)] [] m1 E := by
  intro j
  induction j with
  | zero =>
    intro st m1 hj hf hs2 hP
    have h05 := Nat.two_pow_pos (5 + st)
    have h15 : 2 ^ (5 + st) ≤ 2 ^ 15 := Nat.pow_le_pow_right (by decide) (by omega)
    refine z_iload_n dX2_clear_8 rfl ?_
    refine z_bipush dX2_clear_9 rfl (by decide) ?_
    refine z_icmp_ge (tgt := 42) dX2_clear_11 rfl (fun h11 => ?_) (fun h => absurd (by omega) h)
    refine zA_wk [_, _, zN] (by exact ⟨Or.inr rfl, Or.inr rfl, Or.inl rfl, trivial⟩) ?_
    exact hP m1 hf hs2
  | succ j ih =>
    intro st m1 hj hf hs2 hP
    have h05 := Nat.two_pow_pos (5 + st)
    have h15 : 2 ^ (5 + st) ≤ 2 ^ 15 := Nat.pow_le_pow_right (by decide) (by omega)
    refine z_iload_n dX2_clear_8 rfl ?_
    refine z_bipush dX2_clear_9 rfl (by decide) ?_
    refine z_icmp_ge (tgt := 42) dX2_clear_11 rfl (fun h => absurd h (by omega)) (fun h11 => ?_)
    refine z_aload_n dX2_clear_14 rfl ?_
    refine z_gIv 2 rfl flX2_19 dX2_clear_15 so rfl hs2 ?_
    refine z_iload_n dX2_clear_18 rfl ?_
    refine z_iload_n dX2_clear_19 rfl ?_
    refine z_iconst dX2_clear_20 (by decide) ?_
    refine z_div dX2_clear_21 (by omega) (by omega) ?_
    refine z_add dX2_clear_22 (by omega) ?_
    refine z_icmp_ge (tgt := 42) dX2_clear_23 rfl (fun h23 => ?_) (fun h23 => ?_)
    · refine zA_wk [_, _, zN] (by exact ⟨Or.inr rfl, Or.inr rfl, Or.inl rfl, trivial⟩) ?_
      refine hP m1 hf ?_
      rw [show kEx x (j + 1) st = 5 + st from if_neg (by omega)]
      exact hs2
    · refine z_aload_n dX2_clear_26 rfl ?_
      refine z_dup dX2_clear_27 rfl ?_
      refine z_gIv 2 rfl flX2_19 dX2_clear_28 so rfl hs2 ?_
      refine z_iconst dX2_clear_31 (by decide) ?_
      refine z_mul dX2_clear_32 (by omega) ?_
      refine z_pI 2 rfl (fpX2_19 _) dX2_clear_33 so rfl ?_
      refine z_inc dX2_clear_36 rfl (by omega) ?_
      refine z_goto (tgt := 8) dX2_clear_39 rfl ?_
      try dsimp only [zs0, zsI, zsP, zsN, zsJ, zsS, zst2, Nat.reduceAdd]
      rw [show (st : Int) + 1 = ((st + 1 : Nat) : Int) by omega]
      rw [show kEx x (j + 1) st = kEx x j (st + 1) from if_pos (by omega)] at hP
      exact ih (st + 1) _ (by omega) (zfr_uj hf (by simp)) (by rw [zu_s, show 5 + (st + 1) = (5 + st) + 1 by omega, Nat.pow_succ]; omega) hP

theorem l_clr89 (d : Nat) {E0 E : zE} {m : zM} {P : Option zV → zM → Prop} (o a cap : Int) (so : E.1 o = (8, 3)) (sb : E.1 (a + 1) = (1, cap)) (a0 : 0 < a) (q1 : m o 1 = a + 1) (hcap : 0 ≤ cap ∧ cap ≤ 16384) {L2 : zV} (x : Int) (hP : ∀ m', zfr [(a + 1, none)] m m' → (∀ i : Int, 0 ≤ i → i < cap → m' (a + 1) i = 0) → P none m') : zA zX2_clear (d + 2) E0 E P 89 [zP o, zI x, L2] [] m E := by
  refine z_aload_n dX2_clear_89 rfl ?_
  refine z_gP 1 rfl (r := a + 1) flX2_15 dX2_clear_90 so rfl q1 (by omega) ?_
  refine z_iconst dX2_clear_93 (by decide) ?_
  refine z_callS mlX2_32 dX2_clear_94 (av := [_, _]) rfl rfl (Nat.le_of_ble_eq_true rfl) (c_fillA _ (a + 1) cap 0 sb (by omega)) (Nat.le_refl _) (Nat.le_refl _) (Nat.le_refl _) (Nat.le_refl _) ?_
  rintro _ m2 ⟨rfl, f2, h2⟩
  refine z_vret dX2_clear_97 rfl rfl ?_
  exact hP m2 f2 h2

theorem c_kclear0 (d : Nat) {E : zE} {m : zM} (o a cap : Int) (so : E.1 o = (8, 3)) (sa : E.1 a = (2, cap)) (sb : E.1 (a + 1) = (1, cap)) (a0 : 0 < a) (q0 : m o 0 = a) (q1 : m o 1 = a + 1) (oa : o ≠ a) (ob : o ≠ a + 1) (hcap : 32 ≤ cap ∧ cap ≤ 16384) (x : Int) (hx : 0 ≤ x ∧ x ≤ 10395) (hfit : ((2 ^ (kEx x 10 0) : Nat) : Int) ≤ cap) : zR zX2_clear (d + 2) [zP o, zI x] m E E (fun r m' => r = none ∧ zfr [(o, none), (a + 1, none)] m m' ∧ m' o 0 = a ∧ m' o 1 = a + 1 ∧ m' o 2 = ((2 ^ (kEx x 10 0) : Nat) : Int) ∧ kT m' a (kEx x 10 0) (fun _ => -1) 0) := by
  have hke := kEx_ok hx
  refine zR_go [zP o, zI x, zN] (by decide +kernel) (Nat.le_of_ble_eq_true rfl) rfl rfl ?_
  refine z_aload_n dX2_clear_0 rfl ?_
  refine z_bipush dX2_clear_1 rfl (by decide) ?_
  refine z_pI 2 rfl (fpX2_19 _) dX2_clear_3 so rfl ?_
  refine z_iconst dX2_clear_6 (by decide) ?_
  refine z_ist 2 dX2_clear_7 rfl (Nat.le_of_ble_eq_true rfl) ?_
  try dsimp only [zs0, zsI, zsP, zsN, zsJ, zsS, zst2, Nat.reduceAdd]
  refine l_clr d o a cap so sa sb a0 q0 q1 oa ob hcap x hx 10 0 _ (by omega) (zfr_uj zfr_rf (by simp)) zu_s (fun m2 g1 g2 => ?_)
  refine z_aload_n dX2_clear_42 rfl ?_
  refine z_gIv 2 rfl flX2_19 dX2_clear_43 so rfl g2 ?_
  refine z_aload_n dX2_clear_46 rfl ?_
  refine z_gP 0 rfl (r := a) flX2_9 dX2_clear_47 so rfl ((g1 o 0 (by simp) (by simp)).trans q0) (by omega) ?_
  refine z_alen dX2_clear_50 sa (by decide) ?_
  refine z_icmp_le (tgt := 89) dX2_clear_51 rfl (fun h51 => ?_) (fun h => absurd (by omega) h)
  refine l_clr89 d o a cap so sb a0 ((g1 o 1 (by simp) (by simp)).trans q1) (by omega) x (fun m3 f3 h3 => ⟨rfl, fun b i z1 z2 => ?_, ?_, ?_, ?_, kT_new (by omega) h3⟩)
  · rw [f3 b i (by simp at z1 ⊢; omega) (by simp), g1 b i (by simp) (by simp at z1 ⊢; omega)]
  · rw [f3 o 0 (by simp; omega) (by simp), g1 o 0 (by simp) (by simp)]; exact q0
  · rw [f3 o 1 (by simp; omega) (by simp), g1 o 1 (by simp) (by simp)]; exact q1
  · rw [f3 o 2 (by simp; omega) (by simp)]; exact g2

theorem c_kclear1 (d : Nat) {E : zE} {m : zM} (o a cap : Int) (so : E.1 o = (8, 3)) (sa : E.1 a = (2, cap)) (sb : E.1 (a + 1) = (1, cap)) (a0 : 0 < a) (q0 : m o 0 = a) (q1 : m o 1 = a + 1) (oa : o ≠ a) (ob : o ≠ a + 1) (hcap : 32 ≤ cap ∧ cap ≤ 16384) (x : Int) (hx : 0 ≤ x ∧ x ≤ 10395) (hN : 95 < E.2.1) (hoN : o < 95) (hfit : cap < ((2 ^ (kEx x 10 0) : Nat) : Int)) (R : Int) (hR : (if ((2 ^ (kEx x 10 0) : Nat) : Int) < (if 16384 < 4 * cap then 16384 else 4 * cap) then (if 16384 < 4 * cap then 16384 else 4 * cap) else ((2 ^ (kEx x 10 0) : Nat) : Int)) = R) : zR zX2_clear (d + 2) [zP o, zI x] m E (znew (znew E 2 R R.toNat) 1 R R.toNat) (fun r m' => r = none ∧ zfr [(o, none), ((E.2.1 : Int), none), ((E.2.1 : Int) + 1, none)] m m' ∧ m' o 0 = (E.2.1 : Int) ∧ m' o 1 = (E.2.1 : Int) + 1 ∧ m' o 2 = ((2 ^ (kEx x 10 0) : Nat) : Int) ∧ kT m' (E.2.1 : Int) (kEx x 10 0) (fun _ => -1) 0) := by
  have hke := kEx_ok hx
  have hk14 : 2 ^ (kEx x 10 0) ≤ 2 ^ 14 := Nat.pow_le_pow_right (by decide) hke.1
  have hRb : ((2 ^ (kEx x 10 0) : Nat) : Int) ≤ R ∧ R ≤ 16384 := by
    by_cases u1 : (16384 : Int) < 4 * cap
    · simp only [if_pos u1] at hR; split at hR <;> omega
    · simp only [if_neg u1] at hR; split at hR <;> omega
  refine zR_go [zP o, zI x, zN] (by decide +kernel) (Nat.le_of_ble_eq_true rfl) rfl rfl ?_
  refine z_aload_n dX2_clear_0 rfl ?_
  refine z_bipush dX2_clear_1 rfl (by decide) ?_
  refine z_pI 2 rfl (fpX2_19 _) dX2_clear_3 so rfl ?_
  refine z_iconst dX2_clear_6 (by decide) ?_
  refine z_ist 2 dX2_clear_7 rfl (Nat.le_of_ble_eq_true rfl) ?_
  try dsimp only [zs0, zsI, zsP, zsN, zsJ, zsS, zst2, Nat.reduceAdd]
  refine l_clr d o a cap so sa sb a0 q0 q1 oa ob hcap x hx 10 0 _ (by omega) (zfr_uj zfr_rf (by simp)) zu_s (fun m2 g1 g2 => ?_)
  refine z_aload_n dX2_clear_42 rfl ?_
  refine z_gIv 2 rfl flX2_19 dX2_clear_43 so rfl g2 ?_
  refine z_aload_n dX2_clear_46 rfl ?_
  refine z_gP 0 rfl (r := a) flX2_9 dX2_clear_47 so rfl ((g1 o 0 (by simp) (by simp)).trans q0) (by omega) ?_
  refine z_alen dX2_clear_50 sa (by decide) ?_
  refine z_icmp_le (tgt := 89) dX2_clear_51 rfl (fun h => absurd h (by omega)) (fun h51 => ?_)
  refine z_aload_n dX2_clear_54 rfl ?_
  refine z_gIv 2 rfl flX2_19 dX2_clear_55 so rfl g2 ?_
  refine z_iconst dX2_clear_58 (by decide) ?_
  refine z_aload_n dX2_clear_59 rfl ?_
  refine z_gP 0 rfl (r := a) flX2_9 dX2_clear_60 so rfl ((g1 o 0 (by simp) (by simp)).trans q0) (by omega) ?_
  refine z_alen dX2_clear_63 sa (by decide) ?_
  refine z_mul dX2_clear_64 (by omega) ?_
  refine z_sipush dX2_clear_65 rfl (by decide) ?_
  refine z_min (zg4 103 (by decide +kernel) rfl) dX2_clear_68 (Nat.le_of_ble_eq_true rfl) (by show E.2.1 ≤ E.2.1 + 1 + 1; omega) (by show E.2.2 ≤ E.2.2 + R.toNat + R.toNat; omega) ?_
  refine z_max (zg4 104 (by decide +kernel) rfl) dX2_clear_71 (Nat.le_of_ble_eq_true rfl) (by show E.2.1 ≤ E.2.1 + 1 + 1; omega) (by show E.2.2 ≤ E.2.2 + R.toNat + R.toNat; omega) ?_
  rw [hR]
  refine z_ist 2 dX2_clear_74 rfl (Nat.le_of_ble_eq_true rfl) ?_
  try dsimp only [zs0, zsI, zsP, zsN, zsJ, zsS, zst2, Nat.reduceAdd]
  refine z_aload_n dX2_clear_75 rfl ?_
  refine z_iload_n dX2_clear_76 rfl ?_
  refine z_newl dX2_clear_77 ac_long (by omega) (by omega) (by show E.2.1 + 1 ≤ E.2.1 + 1 + 1; omega) (by show E.2.2 + R.toNat ≤ E.2.2 + R.toNat + R.toNat; omega) ?_
  have so1 : (znew E 2 R R.toNat).1 o = (8, 3) := (znew_o (by omega)).trans so
  have so2 : (znew (znew E 2 R R.toNat) 1 R R.toNat).1 o = (8, 3) := (znew_o (by show o ≠ ((E.2.1 + 1 : Nat) : Int); omega)).trans so1
  refine z_pP 0 rfl (fpX2_9 _) dX2_clear_79 so1 rfl (by omega) ?_
  refine z_aload_n dX2_clear_82 rfl ?_
  refine z_iload_n dX2_clear_83 rfl ?_
  refine z_newi dX2_clear_84 ac_int (by omega) (by omega) (by show E.2.1 + 1 + 1 ≤ E.2.1 + 1 + 1; omega) (by show E.2.2 + R.toNat + R.toNat ≤ E.2.2 + R.toNat + R.toNat; omega) ?_
  refine z_pP 1 rfl (fpX2_15 _) dX2_clear_86 so2 rfl (by show (0 : Int) ≤ ((E.2.1 + 1 : Nat) : Int); omega) ?_
  have eN : (((znew E 2 R R.toNat).2.1 : Nat) : Int) = E.2.1 + 1 := by show ((E.2.1 + 1 : Nat) : Int) = _; omega
  rw [eN]
  refine l_clr89 d o E.2.1 R so2 (by rw [← eN]; exact znew_n) (by omega) zu_s (by omega) x (fun m3 f3 h3 => ⟨rfl, fun b i z1 z2 => ?_, ?_, ?_, ?_, kT_new (by omega) h3⟩)
  · have hb : b ≠ E.2.1 ∧ b ≠ E.2.1 + 1 ∧ b ≠ o := by simp at z1; omega
    rw [f3 b i (by simp; omega) (by simp), zu_a hb.2.2, zfill_o hb.2.1, zu_a hb.2.2, zfill_o hb.1, g1 b i (by simp) (by simp; omega)]
  · rw [f3 o 0 (by simp; omega) (by simp), zu_j (by decide), zfill_o (by omega), zu_s]
  · rw [f3 o 1 (by simp; omega) (by simp), zu_s]
  · rw [f3 o 2 (by simp; omega) (by simp), zu_j (by decide), zfill_o (by omega), zu_j (by decide), zfill_o (by omega)]; exact g2
