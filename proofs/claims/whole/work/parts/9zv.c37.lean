/-- eight rows more -/
def nwN (E : zE) (R : Int) : Nat → zE
  | 0 => E
  | k + 1 => znew (nwN E R k) (if k = 0 then 2 else 1) R R.toNat
theorem nwN_c {E : zE} {R : Int} : ∀ {k : Nat}, (nwN E R k).2.1 = E.2.1 + k
  | 0 => rfl
  | k + 1 => by show (nwN E R k).2.1 + 1 = _; rw [nwN_c (k := k)]; omega
theorem nwN_s {E : zE} {R : Int} : ∀ {k : Nat}, (nwN E R k).2.2 = E.2.2 + k * R.toNat
  | 0 => by show E.2.2 = _; omega
  | k + 1 => by show (nwN E R k).2.2 + R.toNat = _; rw [nwN_s (k := k), Nat.succ_mul]; omega
theorem nwN_i {E : zE} {R : Int} (k : Nat) : (((nwN E R k).2.1 : Nat) : Int) = (E.2.1 : Int) + (k : Int) := by rw [nwN_c]; omega
theorem nwN_o {E : zE} {R : Int} {a : Int} {x : Nat × Int} (h : a < E.2.1) (e : E.1 a = x) : ∀ {k : Nat}, (nwN E R k).1 a = x
  | 0 => e
  | k + 1 => by
    show (znew (nwN E R k) _ R R.toNat).1 a = x
    rw [znew_o (by rw [nwN_c]; omega)]
    exact nwN_o h e
theorem nwN_a {E : zE} {R : Int} (i : Nat) : ∀ {k : Nat}, i < k → (nwN E R k).1 ((E.2.1 : Int) + (i : Int)) = (if i = 0 then 2 else 1, R)
  | 0, h => absurd h (by omega)
  | k + 1, h => by
    show (znew (nwN E R k) _ R R.toNat).1 _ = _
    by_cases e : i = k
    · rw [e, ← nwN_i (R := R) k, znew_n]
    · rw [znew_o (by rw [nwN_c]; omega)]
      exact nwN_a i (by omega)
theorem nwN_sh {E : zE} {R : Int} : shDg (nwN E R 8) (E.2.1 : Int) R := by
  have h0 := nwN_a (E := E) (R := R) 0 (k := 8) (by decide)
  rw [show (E.2.1 : Int) + ((0 : Nat) : Int) = (E.2.1 : Int) by omega] at h0
  exact ⟨h0, nwN_a 1 (by decide), nwN_a 2 (by decide), nwN_a 3 (by decide), nwN_a 4 (by decide), nwN_a 5 (by decide), nwN_a 6 (by decide), nwN_a 7 (by decide)⟩
def fMk (N : Int) : List (Int × Option Int) := [(N, none), (N + 1, none), (N + 2, none), (N + 3, none), (N + 4, none), (N + 5, none), (N + 6, none), (N + 7, none), (14, some 5), (14, some 6), (14, some 7), (14, some 8), (14, some 9), (14, some 10), (14, some 11), (14, some 12)]
theorem fMk_in {N c k : Int} (h0 : 0 ≤ k) (h1 : k < 8) (e : c = N + k) : (c, none) ∈ fMk N := by
  simp [fMk]
  omega
theorem fMk_in2 {N c i k : Int} (e : c = 14) (h0 : 5 ≤ k) (h1 : k ≤ 12) (e2 : i = k) : (c, some i) ∈ fMk N := by
  simp [fMk]
  omega
theorem c_makeRoom0 (d : Nat) {E : zE} {m : zM} (s14 : E.1 14 = (6, 20)) (b bcap : Int) (sB : shDg E b bcap) (qB_ : qDg m 14 b) (b24 : 24 < b) (R : Int) (hR : R ≤ bcap) : zR zX0_makeRoom (d) [zP 14, zI R] m E E (fun r m' => r = none ∧ m = m') := by
  refine zR_go [zP 14, zI R] (by decide +kernel) (Nat.le_of_ble_eq_true rfl) rfl rfl ?_
  refine z_iload_n dX0_makeRoom_0 rfl ?_
  refine z_aload_n dX0_makeRoom_1 rfl ?_
  refine z_gP 5 rfl (r := b) flX0_35 dX0_makeRoom_2 s14 rfl qB_.1 (by omega) ?_
  refine z_alen dX0_makeRoom_5 sB.1 (by decide) ?_
  refine z_icmp_le (tgt := 65) dX0_makeRoom_6 rfl (fun h6 => ?_) (fun h => absurd (by omega) h)
  refine z_vret dX0_makeRoom_65 rfl rfl ?_
  exact ⟨rfl, rfl⟩

theorem c_makeRoom1 (d : Nat) {E : zE} {m : zM} (s14 : E.1 14 = (6, 20)) (b bcap : Int) (sB : shDg E b bcap) (qB_ : qDg m 14 b) (b24 : 24 < b) (R : Int) (hR : bcap < R) (hR2 : 0 ≤ R ∧ R ≤ 10395) (hN : 95 < E.2.1) : zR zX0_makeRoom (d) [zP 14, zI R] m E (nwN E R 8) (fun r m' => r = none ∧ zfr (fMk (E.2.1 : Int)) m m' ∧ qDg m' 14 (E.2.1 : Int)) := by
  refine zR_go [zP 14, zI R] (by decide +kernel) (Nat.le_of_ble_eq_true rfl) rfl rfl ?_
  refine z_iload_n dX0_makeRoom_0 rfl ?_
  refine z_aload_n dX0_makeRoom_1 rfl ?_
  refine z_gP 5 rfl (r := b) flX0_35 dX0_makeRoom_2 s14 rfl qB_.1 (by omega) ?_
  refine z_alen dX0_makeRoom_5 sB.1 (by decide) ?_
  refine z_icmp_le (tgt := 65) dX0_makeRoom_6 rfl (fun h => absurd h (by omega)) (fun h6 => ?_)
  refine z_aload_n dX0_makeRoom_9 rfl ?_
  refine z_iload_n dX0_makeRoom_10 rfl ?_
  refine z_newl (E := nwN E R 0) dX0_makeRoom_11 ac_long (by omega) (by omega) (by rw [nwN_c, nwN_c]; omega) (by rw [nwN_s, nwN_s]; omega) ?_
  rw [nwN_i 0, show znew (nwN E R 0) 2 R R.toNat = nwN E R 1 from rfl]
  refine z_pP 5 rfl (fpX0_35 _) dX0_makeRoom_13 (nwN_o (by omega) s14) rfl (by omega) ?_
  refine z_aload_n dX0_makeRoom_16 rfl ?_
  refine z_iload_n dX0_makeRoom_17 rfl ?_
  refine z_newi (E := nwN E R 1) dX0_makeRoom_18 ac_int (by omega) (by omega) (by rw [nwN_c, nwN_c]; omega) (by rw [nwN_s, nwN_s]; omega) ?_
  rw [nwN_i 1, show znew (nwN E R 1) 1 R R.toNat = nwN E R 2 from rfl]
  refine z_pP 6 rfl (fpX0_39 _) dX0_makeRoom_20 (nwN_o (by omega) s14) rfl (by omega) ?_
  refine z_aload_n dX0_makeRoom_23 rfl ?_
  refine z_iload_n dX0_makeRoom_24 rfl ?_
  refine z_newi (E := nwN E R 2) dX0_makeRoom_25 ac_int (by omega) (by omega) (by rw [nwN_c, nwN_c]; omega) (by rw [nwN_s, nwN_s]; omega) ?_
  rw [nwN_i 2, show znew (nwN E R 2) 1 R R.toNat = nwN E R 3 from rfl]
  refine z_pP 7 rfl (fpX0_42 _) dX0_makeRoom_27 (nwN_o (by omega) s14) rfl (by omega) ?_
  refine z_aload_n dX0_makeRoom_30 rfl ?_
  refine z_iload_n dX0_makeRoom_31 rfl ?_
  refine z_newi (E := nwN E R 3) dX0_makeRoom_32 ac_int (by omega) (by omega) (by rw [nwN_c, nwN_c]; omega) (by rw [nwN_s, nwN_s]; omega) ?_
  rw [nwN_i 3, show znew (nwN E R 3) 1 R R.toNat = nwN E R 4 from rfl]
  refine z_pP 8 rfl (fpX0_45 _) dX0_makeRoom_34 (nwN_o (by omega) s14) rfl (by omega) ?_
  refine z_aload_n dX0_makeRoom_37 rfl ?_
  refine z_iload_n dX0_makeRoom_38 rfl ?_
  refine z_newi (E := nwN E R 4) dX0_makeRoom_39 ac_int (by omega) (by omega) (by rw [nwN_c, nwN_c]; omega) (by rw [nwN_s, nwN_s]; omega) ?_
  rw [nwN_i 4, show znew (nwN E R 4) 1 R R.toNat = nwN E R 5 from rfl]
  refine z_pP 9 rfl (fpX0_48 _) dX0_makeRoom_41 (nwN_o (by omega) s14) rfl (by omega) ?_
  refine z_aload_n dX0_makeRoom_44 rfl ?_
  refine z_iload_n dX0_makeRoom_45 rfl ?_
  refine z_newi (E := nwN E R 5) dX0_makeRoom_46 ac_int (by omega) (by omega) (by rw [nwN_c, nwN_c]; omega) (by rw [nwN_s, nwN_s]; omega) ?_
  rw [nwN_i 5, show znew (nwN E R 5) 1 R R.toNat = nwN E R 6 from rfl]
  refine z_pP 10 rfl (fpX0_51 _) dX0_makeRoom_48 (nwN_o (by omega) s14) rfl (by omega) ?_
  refine z_aload_n dX0_makeRoom_51 rfl ?_
  refine z_iload_n dX0_makeRoom_52 rfl ?_
  refine z_newi (E := nwN E R 6) dX0_makeRoom_53 ac_int (by omega) (by omega) (by rw [nwN_c, nwN_c]; omega) (by rw [nwN_s, nwN_s]; omega) ?_
  rw [nwN_i 6, show znew (nwN E R 6) 1 R R.toNat = nwN E R 7 from rfl]
  refine z_pP 11 rfl (fpX0_54 _) dX0_makeRoom_55 (nwN_o (by omega) s14) rfl (by omega) ?_
  refine z_aload_n dX0_makeRoom_58 rfl ?_
  refine z_iload_n dX0_makeRoom_59 rfl ?_
  refine z_newi (E := nwN E R 7) dX0_makeRoom_60 ac_int (by omega) (by omega) (by rw [nwN_c, nwN_c]; omega) (by rw [nwN_s, nwN_s]; omega) ?_
  rw [nwN_i 7, show znew (nwN E R 7) 1 R R.toNat = nwN E R 8 from rfl]
  refine z_pP 12 rfl (fpX0_57 _) dX0_makeRoom_62 (nwN_o (by omega) s14) rfl (by omega) ?_
  refine z_vret dX0_makeRoom_65 rfl rfl ?_
  refine ⟨rfl, ?_, ?_⟩
  · intro c i z1 z2
    have hc : ∀ k : Int, 0 ≤ k → k < 8 → c ≠ E.2.1 + k := fun k h0 h1 e => z1 (fMk_in h0 h1 e)
    have h8 : c = 14 → ∀ k : Int, 5 ≤ k → k ≤ 12 → i ≠ k := fun e k h0 h1 e2 => z2 (fMk_in2 e h0 h1 e2)
    have st : ∀ (m1 : zM) (k : Int), 0 ≤ k → k < 8 → zu (zfill m1 (E.2.1 + k) fun _ => 0) 14 (5 + k) (E.2.1 + k) c i = m1 c i := fun m1 k h0 h1 => by
      by_cases e : c = 14
      · rw [e, zu_j (h8 e (5 + k) (by omega) (by omega)), zfill_o (by omega)]
      · rw [zu_a e, zfill_o (hc k h0 h1)]
    exact (st _ 7 (by decide) (by decide)).trans ((st _ 6 (by decide) (by decide)).trans ((st _ 5 (by decide) (by decide)).trans ((st _ 4 (by decide) (by decide)).trans ((st _ 3 (by decide) (by decide)).trans ((st _ 2 (by decide) (by decide)).trans ((st _ 1 (by decide) (by decide)).trans (st _ 0 (by decide) (by decide))))))))
  · have st : ∀ (m1 : zM) (k j v : Int), 0 ≤ k → j ≠ 5 + k → m1 14 j = v → zu (zfill m1 (E.2.1 + k) fun _ => 0) 14 (5 + k) (E.2.1 + k) 14 j = v := fun m1 k j v h0 hj hv => by
      rw [zu_j hj, zfill_o (by omega)]; exact hv
    exact ⟨(st _ 7 5 _ (by decide) (by decide) (st _ 6 5 _ (by decide) (by decide) (st _ 5 5 _ (by decide) (by decide) (st _ 4 5 _ (by decide) (by decide) (st _ 3 5 _ (by decide) (by decide) (st _ 2 5 _ (by decide) (by decide) (st _ 1 5 _ (by decide) (by decide) (zu_s.trans (by omega))))))))), (st _ 7 6 _ (by decide) (by decide) (st _ 6 6 _ (by decide) (by decide) (st _ 5 6 _ (by decide) (by decide) (st _ 4 6 _ (by decide) (by decide) (st _ 3 6 _ (by decide) (by decide) (st _ 2 6 _ (by decide) (by decide) zu_s)))))), (st _ 7 7 _ (by decide) (by decide) (st _ 6 7 _ (by decide) (by decide) (st _ 5 7 _ (by decide) (by decide) (st _ 4 7 _ (by decide) (by decide) (st _ 3 7 _ (by decide) (by decide) zu_s))))), (st _ 7 8 _ (by decide) (by decide) (st _ 6 8 _ (by decide) (by decide) (st _ 5 8 _ (by decide) (by decide) (st _ 4 8 _ (by decide) (by decide) zu_s)))), (st _ 7 9 _ (by decide) (by decide) (st _ 6 9 _ (by decide) (by decide) (st _ 5 9 _ (by decide) (by decide) zu_s))), (st _ 7 10 _ (by decide) (by decide) (st _ 6 10 _ (by decide) (by decide) zu_s)), (st _ 7 11 _ (by decide) (by decide) zu_s), zu_s, trivial⟩
