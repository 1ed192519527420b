section ZR8
variable {y : zY} {d : Nat} {E0 E' E : zE} {P : Option zV → zM → Prop} {pc : Nat} {L S : List zV} {m : zM}
theorem z_iastN {a n i x : Int} (hd : decode y.2.1 pc = .ok (.iastore, 1)) (hs : E.1 a = (1, n)) (h0 : 0 ≤ i) (hn : i < n) (kk : ∀ m2, zfr [(a, none)] m m2 → m2 a i = x → (∀ j, j ≠ i → m2 a j = m a j) → zA y d E0 E' P (pc + 1) L S m2 E) : zA y d E0 E' P pc L (zI x :: zI i :: zP a :: S) m E := z_iast hd hs h0 hn (kk _ (zfr_ua zfr_rf (by simp)) zu_s (fun j hj => zu_j hj))
end ZR8
def fCnt : List (Int × Option Int) := [(a_codes, none), (aM, some f_lines), (a_subs, none)]
theorem ptM_s {m m1 : zM} (h : ptM m) (b : zfr [(a_subs, none)] m m1) : ptM m1 := ptM_F h (zfr_sub b (by decide))
theorem sCL_len2 {n : Int} {k : Nat} {N : Nat} {code : Int → Int → Int} {mt : Int → Int} (h : ∀ i : Int, 0 ≤ i → i < n → mt i < i ∨ i < mt i) (hk : (k : Int) ≤ n) : ((sCL N code mt k 0).length : Int) = zsum (fun i => zb (i < mt i)) k 0 := by
  induction k with
  | zero => rfl
  | succ k ih =>
    have hf := h k (by omega) (by omega)
    rw [sCL, sCat_snoc, List.length_append, zsum_app, zsum_s, zsum_0, Int.zero_add, Int.add_zero]
    have := ih (by omega)
    unfold sCL at this
    by_cases e : mt k < k
    · rw [if_pos e, zb_f (by omega)]; simp; omega
    · rw [if_neg e, zb_t (by omega)]; simp; omega
/-- what a pairing of some letters adds to the four counts of sub -/
noncomputable def tSub (T : zT) (pts : Nat) (k : Int) (mt : Int → Int) : Int := if k = 0 then 1 else if k = 1 then tSign T mt else if k = 2 then zb (tLost T.1 (sCL T.2.2.2.toNat (cCode T.1 T.2.1 T.2.2.1) mt T.2.2.2.toNat 0).length (lf (sCL T.2.2.2.toNat (cCode T.1 T.2.1 T.2.2.1) mt T.2.2.2.toNat 0)) pts = 0) else zb (tParts (sCL T.2.2.2.toNat (cCode T.1 T.2.1 T.2.2.1) mt T.2.2.2.toNat 0).length (lf (sCL T.2.2.2.toNat (cCode T.1 T.2.1 T.2.2.1) mt T.2.2.2.toNat 0)) (-1) pts = 1)
theorem l_countsSub (d : Nat) {E : zE} {m : zM} {P : Option zV → zM → Prop} (hE : shM E) (hm : ptM m)  (hw : wfC (m a_c)) (hl : wfL (m a_c) (m a_what) (m a_pointOf) (m aM f_letters)) (hv : ∀ i : Int, 0 ≤ i → i < m aM f_letters → m a_mate i < i ∨ (i < m a_mate i ∧ m a_mate i < m aM f_letters ∧ cMay (m a_c) (m a_what) (m a_pointOf) i (m a_mate i) = true)) (hc : zsum (fun i => zb (i < m a_mate i)) (m aM f_letters).toNat 0 ≤ 6) : ∀ (j : Nat) (k : Nat) (m1 : zM), (ptM m1) → ((k : Int) + j = m aM f_letters) → (zfr [(a_codes, none), (aM, some f_lines)] m m1) → (m1 aM f_lines = (((sCL (m aM f_letters).toNat (cCode (m a_c) (m a_what) (m a_pointOf)) (m a_mate)) k 0).length : Int)) → (∀ x : Int, 0 ≤ x → x < (((sCL (m aM f_letters).toNat (cCode (m a_c) (m a_what) (m a_pointOf)) (m a_mate)) k 0).length : Int) → m1 a_codes x = lf ((sCL (m aM f_letters).toNat (cCode (m a_c) (m a_what) (m a_pointOf)) (m a_mate)) k 0) x) → (∀ m2, ptM m2 → zfr [(a_codes, none), (aM, some f_lines)] m m2 → m2 aM f_lines = (((sCL (m aM f_letters).toNat (cCode (m a_c) (m a_what) (m a_pointOf)) (m a_mate)) (m aM f_letters).toNat 0).length : Int) → (∀ x : Int, 0 ≤ x → x < (((sCL (m aM f_letters).toNat (cCode (m a_c) (m a_what) (m a_pointOf)) (m a_mate)) (m aM f_letters).toNat 0).length : Int) → m2 a_codes x = lf ((sCL (m aM f_letters).toNat (cCode (m a_c) (m a_what) (m a_pointOf)) (m a_mate)) (m aM f_letters).toNat 0) x) → zA zX12_countsSub (d + 4) E E P 64 [zP aM, zN] [] m2 E) → zA zX12_countsSub (d + 4) E E P 7 [zP aM, zI (k : Nat)] [] m1 E := by
  intro j
  induction j with
  | zero =>
    intro k m1 hm1 hk hf hlin hcod hP
    have ec : m1 a_c = m a_c := zfr_cell hf (by decide)
    have ew : m1 a_what = m a_what := zfr_cell hf (by decide)
    have eq' : m1 a_pointOf = m a_pointOf := zfr_cell hf (by decide)
    have em : m1 a_mate = m a_mate := zfr_cell hf (by decide)
    have en : m1 aM f_letters = m aM f_letters := zfr_at hf (by decide)
    have hb1 := hl.1
    refine z_iload_n dX12_countsSub_7 rfl ?_
    refine z_aload_n dX12_countsSub_8 rfl ?_
    refine z_gIv f_letters rfl flX12_124 dX12_countsSub_9 (sh_M hE) rfl en ?_
    refine z_icmp_ge (tgt := 64) dX12_countsSub_12 rfl (fun h12 => ?_) (fun h => absurd (by omega) h)
    refine zA_wk [_, zN] (by exact ⟨Or.inr rfl, Or.inl rfl, trivial⟩) ?_
    rw [show (m aM f_letters).toNat = k by omega] at hP
    exact hP m1 hm1 hf hlin hcod
  | succ j ih =>
    intro k m1 hm1 hk hf hlin hcod hP
    have ec : m1 a_c = m a_c := zfr_cell hf (by decide)
    have ew : m1 a_what = m a_what := zfr_cell hf (by decide)
    have eq' : m1 a_pointOf = m a_pointOf := zfr_cell hf (by decide)
    have em : m1 a_mate = m a_mate := zfr_cell hf (by decide)
    have en : m1 aM f_letters = m aM f_letters := zfr_at hf (by decide)
    have hb1 := hl.1
    have hvk := hv k (by omega) (by omega)
    have hlen := sCL_len2 (N := (m aM f_letters).toNat) (code := cCode (m a_c) (m a_what) (m a_pointOf)) (fun i q1 q2 => (hv i q1 q2).imp id (fun h => h.1)) (k := k) (by omega)
    have hlen2 : ¬ m a_mate k < k → zsum (fun i => zb (i < m a_mate i)) k 0 + 1 ≤ 6 := fun e => by
      rw [show (m aM f_letters).toNat = k + (1 + j) by omega, zsum_app, zsum_app, zsum_s, zsum_0, Int.zero_add, zb_t (by omega)] at hc
      have h3 := zsum_nn (f := fun i => zb (i < m a_mate i)) (j := j) (k := (k : Int) + ((1 : Nat) : Int)) (fun i _ _ => by have := zb01 (i < m a_mate i); omega)
      omega
    refine z_iload_n dX12_countsSub_7 rfl ?_
    refine z_aload_n dX12_countsSub_8 rfl ?_
    refine z_gIv f_letters rfl flX12_124 dX12_countsSub_9 (sh_M hE) rfl en ?_
    refine z_icmp_ge (tgt := 64) dX12_countsSub_12 rfl (fun h => absurd h (by omega)) (fun h12 => ?_)
    refine z_aload_n dX12_countsSub_15 rfl ?_
    refine z_gP 16 rfl (r := a_mate) flX12_41 dX12_countsSub_16 (sh_M hE) rfl (pt_mate hm1) (by decide) ?_
    refine z_iload_n dX12_countsSub_19 rfl ?_
    refine z_ialv dX12_countsSub_20 (sh_mate hE) (by omega) (by omega) (congrFun em _) ?_
    refine z_iload_n dX12_countsSub_21 rfl ?_
    refine z_icmp_ge (tgt := 28) dX12_countsSub_22 rfl (fun h22 => ?_) (fun h22 => ?_)
    · refine z_aload_n dX12_countsSub_28 rfl ?_
      refine z_gP 18 rfl (r := a_codes) flX12_44 dX12_countsSub_29 (sh_M hE) rfl (pt_codes hm1) (by decide) ?_
      refine z_aload_n dX12_countsSub_32 rfl ?_
      refine z_gI f_lines rfl flX12_197 dX12_countsSub_33 (sh_M hE) rfl ?_
      refine z_aload_n dX12_countsSub_36 rfl ?_
      refine z_iload_n dX12_countsSub_37 rfl ?_
      refine z_aload_n dX12_countsSub_38 rfl ?_
      refine z_gP 16 rfl (r := a_mate) flX12_41 dX12_countsSub_39 (sh_M hE) rfl (pt_mate hm1) (by decide) ?_
      refine z_iload_n dX12_countsSub_42 rfl ?_
      refine z_ialv dX12_countsSub_43 (sh_mate hE) (by omega) (by omega) (congrFun em _) ?_
      refine z_callV mlX12_203 dX12_countsSub_44 (sh_M hE) (av := [_, _]) rfl rfl (Nat.le_of_ble_eq_true rfl) (r_codeOf _ hE hm1 (k : Int) (m a_mate k) (by omega) (by omega) (by omega) (by omega) (by rw [ec]; exact hw) (by rw [ec, ew, eq', en]; exact hl) (by rw [ec, ew, eq']; exact (hvk.resolve_left (by omega)).2.2)) (Nat.le_refl _) (Nat.le_refl _) (Nat.le_refl _) (Nat.le_refl _) ?_
      rw [ec, ew, eq']
      rintro _ _ ⟨rfl, rfl⟩
      refine z_iast dX12_countsSub_47 (sh_codes hE) (by omega) (by omega) ?_
      refine z_aload_n dX12_countsSub_48 rfl ?_
      refine z_dup dX12_countsSub_49 rfl ?_
      refine z_gIv f_lines rfl flX12_197 dX12_countsSub_50 (sh_M hE) rfl (zu_a (by decide)) ?_
      refine z_iconst dX12_countsSub_53 (by decide) ?_
      refine z_add dX12_countsSub_54 (by omega) ?_
      refine z_pI f_lines rfl (fpX12_197 _) dX12_countsSub_55 (sh_M hE) rfl ?_
      refine z_inc dX12_countsSub_58 rfl (by omega) ?_
      refine z_goto (tgt := 7) dX12_countsSub_61 rfl ?_
      try dsimp only [zs0, zsI, zsP, zsN, zsJ, zsS, zst2, Nat.reduceAdd]
      rw [show (k : Int) + 1 = ((k + 1 : Nat) : Int) by omega]
      have hsn : (sCL (m aM f_letters).toNat (cCode (m a_c) (m a_what) (m a_pointOf)) (m a_mate)) (k + 1) 0 = (sCL (m aM f_letters).toNat (cCode (m a_c) (m a_what) (m a_pointOf)) (m a_mate)) k 0 ++ [cCode (m a_c) (m a_what) (m a_pointOf) k (m a_mate k)] := by rw [sCL, sCat_snoc, Int.zero_add, if_neg (by omega)]; rfl
      refine ih (k + 1) _ (ptM_j (ptM_a hm1 (by decide)) (by decide)) (by omega) (zfr_uj (zfr_ua hf (by decide)) (by decide)) ?_ (fun x q1 q2 => ?_) hP
      · rw [zu_s, hsn, List.length_append]
        rw [hlin]
        simp
      · rw [zu_a (by decide)]
        rw [hsn, List.length_append] at q2
        simp at q2
        by_cases e : x = (((sCL (m aM f_letters).toNat (cCode (m a_c) (m a_what) (m a_pointOf)) (m a_mate)) k 0).length : Int)
        · rw [hlin, e, zu_s, hsn, lf_snoc]
        · rw [hlin, zu_j e, hsn, lf_left (by omega) (by omega)]
          exact hcod x q1 (by omega)
    · refine z_goto (tgt := 58) dX12_countsSub_25 rfl ?_
      refine z_inc dX12_countsSub_58 rfl (by omega) ?_
      refine z_goto (tgt := 7) dX12_countsSub_61 rfl ?_
      try dsimp only [zs0, zsI, zsP, zsN, zsJ, zsS, zst2, Nat.reduceAdd]
      rw [show (k : Int) + 1 = ((k + 1 : Nat) : Int) by omega]
      have hsn : (sCL (m aM f_letters).toNat (cCode (m a_c) (m a_what) (m a_pointOf)) (m a_mate)) (k + 1) 0 = (sCL (m aM f_letters).toNat (cCode (m a_c) (m a_what) (m a_pointOf)) (m a_mate)) k 0 := by rw [sCL, sCat_snoc, Int.zero_add, if_pos (by omega), List.append_nil]; rfl
      exact ih (k + 1) m1 hm1 (by omega) hf (by rw [hsn]; exact hlin) (by rw [hsn]; exact hcod) hP

theorem l_countsSub_2 (d : Nat) {E : zE} {m m1 : zM} (hE : shM E) (hw : wfC (m a_c)) (hl : wfL (m a_c) (m a_what) (m a_pointOf) (m aM f_letters)) (hv : ∀ i : Int, 0 ≤ i → i < m aM f_letters → m a_mate i < i ∨ (i < m a_mate i ∧ m a_mate i < m aM f_letters ∧ cMay (m a_c) (m a_what) (m a_pointOf) i (m a_mate i) = true)) (hc : zsum (fun i => zb (i < m a_mate i)) (m aM f_letters).toNat 0 ≤ 6) (pts : Nat) (hp : pts < 256) (hpt : m aM f_subPoints = (pts : Int)) (hsb : ∀ k : Int, 0 ≤ k → k < 4 → -20000 ≤ m a_subs k ∧ m a_subs k ≤ 20000) (hm1 : ptM m1) (f1 : zfr [(a_codes, none), (aM, some f_lines)] m m1) (o1 : mOp m1 (lf ((sCL (m aM f_letters).toNat (cCode (m a_c) (m a_what) (m a_pointOf)) (m a_mate)) (m aM f_letters).toNat 0)) ((sCL (m aM f_letters).toNat (cCode (m a_c) (m a_what) (m a_pointOf)) (m a_mate)) (m aM f_letters).toNat 0).length) : zA zX12_countsSub (d + 4) E E (fun r m' => r = none ∧ zfr fCnt m m' ∧ m' a_subs 0 = m a_subs 0 + tSub (mT m) pts 0 (m a_mate) ∧ m' a_subs 1 = m a_subs 1 + tSub (mT m) pts 1 (m a_mate) ∧ m' a_subs 2 = m a_subs 2 + tSub (mT m) pts 2 (m a_mate) ∧ m' a_subs 3 = m a_subs 3 + tSub (mT m) pts 3 (m a_mate)) 64 [zP aM, zN] [] m1 E := by
  have ec1 : m1 a_c = m a_c := zfr_cell f1 (by decide)
  have ew1 : m1 a_what = m a_what := zfr_cell f1 (by decide)
  have ep1 : m1 a_pointOf = m a_pointOf := zfr_cell f1 (by decide)
  have em1 : m1 a_mate = m a_mate := zfr_cell f1 (by decide)
  have en1 : m1 aM f_letters = m aM f_letters := zfr_at f1 (by decide)
  have es1 : m1 aM f_subPoints = (pts : Int) := (zfr_at f1 (by decide)).trans hpt
  have eu1 : m1 a_subs = m a_subs := zfr_cell f1 (by decide)
  have b0 := hsb 0 (by decide) (by decide)
  have b1 := hsb 1 (by decide) (by decide)
  have b2 := hsb 2 (by decide) (by decide)
  have b3 := hsb 3 (by decide) (by decide)
  have hsg : tSign (mT m) (m a_mate) = 1 ∨ tSign (mT m) (m a_mate) = -1 := zpar_or _
  refine z_aload_n dX12_countsSub_64 rfl ?_
  refine z_gP 32 rfl (r := a_subs) flX12_69 dX12_countsSub_65 (sh_M hE) rfl (pt_subs hm1) (by decide) ?_
  refine z_iconst dX12_countsSub_68 (by decide) ?_
  refine z_dup2 dX12_countsSub_69 rfl rfl ?_
  refine z_ialv dX12_countsSub_70 (sh_subs hE) (by omega) (by omega) (congrFun eu1 0) ?_
  refine z_iconst dX12_countsSub_71 (by decide) ?_
  refine z_add dX12_countsSub_72 (by omega) ?_
  refine z_iastN dX12_countsSub_73 (sh_subs hE) (by omega) (by omega) ?_
  intro m2 s2 v2 u2
  have hm2 := ptM_s hm1 s2
  have o2 := mOp_fr o1 (zfr_at s2 (by decide)) (zfr_cell s2 (by decide)) (zfr_cell s2 (by decide))
  have ec2 : m2 a_c = m a_c := (zfr_cell s2 (by decide)).trans ec1
  have ew2 : m2 a_what = m a_what := (zfr_cell s2 (by decide)).trans ew1
  have ep2 : m2 a_pointOf = m a_pointOf := (zfr_cell s2 (by decide)).trans ep1
  have em2 : m2 a_mate = m a_mate := (zfr_cell s2 (by decide)).trans em1
  have en2 : m2 aM f_letters = m aM f_letters := (zfr_at s2 (by decide)).trans en1
  have es2 : m2 aM f_subPoints = (pts : Int) := (zfr_at s2 (by decide)).trans es1
  have hw2 : wfC (m2 a_c) := by rw [ec2]; exact hw
  refine z_aload_n dX12_countsSub_74 rfl ?_
  refine z_gP 32 rfl (r := a_subs) flX12_69 dX12_countsSub_75 (sh_M hE) rfl (pt_subs hm2) (by decide) ?_
  refine z_iconst dX12_countsSub_78 (by decide) ?_
  refine z_dup2 dX12_countsSub_79 rfl rfl ?_
  refine z_ialv dX12_countsSub_80 (sh_subs hE) (by omega) (by omega) ((u2 1 (by decide)).trans (congrFun eu1 1)) ?_
  refine z_aload_n dX12_countsSub_81 rfl ?_
  refine z_callV mlX12_175 dX12_countsSub_82 (sh_M hE) (av := _) rfl rfl (Nat.le_of_ble_eq_true rfl) (r_signNow _ hE hm2 hw2 (by rw [ec2, ew2, ep2, en2]; exact hl)) (Nat.le_refl _) (Nat.le_refl _) (Nat.le_refl _) (Nat.le_refl _) ?_
  rw [en2, ec2, ew2, em2, show sSign (m aM f_letters).toNat (cOd (m a_c) (m a_what)) (cBr (m a_c) (m a_what)) (m a_mate) = tSign (mT m) (m a_mate) from rfl]
  rintro _ _ ⟨rfl, rfl⟩
  refine z_add dX12_countsSub_85 (by omega) ?_
  refine z_iastN dX12_countsSub_86 (sh_subs hE) (by omega) (by omega) ?_
  intro m3 s3 v3 u3
  have hm3 := ptM_s hm2 s3
  have o3 := mOp_fr o2 (zfr_at s3 (by decide)) (zfr_cell s3 (by decide)) (zfr_cell s3 (by decide))
  have ec3 : m3 a_c = m a_c := (zfr_cell s3 (by decide)).trans ec2
  have ew3 : m3 a_what = m a_what := (zfr_cell s3 (by decide)).trans ew2
  have ep3 : m3 a_pointOf = m a_pointOf := (zfr_cell s3 (by decide)).trans ep2
  have em3 : m3 a_mate = m a_mate := (zfr_cell s3 (by decide)).trans em2
  have en3 : m3 aM f_letters = m aM f_letters := (zfr_at s3 (by decide)).trans en2
  have es3 : m3 aM f_subPoints = (pts : Int) := (zfr_at s3 (by decide)).trans es2
  have hw3 : wfC (m3 a_c) := by rw [ec3]; exact hw
  refine z_aload_n dX12_countsSub_87 rfl ?_
  refine z_gP 32 rfl (r := a_subs) flX12_69 dX12_countsSub_88 (sh_M hE) rfl (pt_subs hm3) (by decide) ?_
  refine z_iconst dX12_countsSub_91 (by decide) ?_
  refine z_dup2 dX12_countsSub_92 rfl rfl ?_
  refine z_ialv dX12_countsSub_93 (sh_subs hE) (by omega) (by omega) ((u3 2 (by decide)).trans ((u2 2 (by decide)).trans (congrFun eu1 2))) ?_
  refine z_aload_n dX12_countsSub_94 rfl ?_
  refine z_aload_n dX12_countsSub_95 rfl ?_
  refine z_gIv f_subPoints rfl flX12_380 dX12_countsSub_96 (sh_M hE) rfl es3 ?_
  refine z_callV mlX12_295 dX12_countsSub_99 (sh_M hE) (av := [_]) rfl rfl (Nat.le_of_ble_eq_true rfl) (q_lost _ hE hm3 hw3 o3 pts hp) (Nat.le_refl _) (Nat.le_refl _) (Nat.le_refl _) (Nat.le_refl _) ?_
  rw [ec3]
  rintro _ _ ⟨rfl, rfl⟩
  refine z_if_ne (tgt := 109) dX12_countsSub_102 rfl (fun h102 => ?_) (fun h102 => ?_)
  · refine z_iconst dX12_countsSub_109 (by decide) ?_
    refine z_add dX12_countsSub_110 (by omega) ?_
    refine z_iastN dX12_countsSub_111 (sh_subs hE) (by omega) (by omega) ?_
    intro m4 s4 v4 u4
    have hm4 := ptM_s hm3 s4
    have o4 := mOp_fr o3 (zfr_at s4 (by decide)) (zfr_cell s4 (by decide)) (zfr_cell s4 (by decide))
    have ec4 : m4 a_c = m a_c := (zfr_cell s4 (by decide)).trans ec3
    have ew4 : m4 a_what = m a_what := (zfr_cell s4 (by decide)).trans ew3
    have ep4 : m4 a_pointOf = m a_pointOf := (zfr_cell s4 (by decide)).trans ep3
    have em4 : m4 a_mate = m a_mate := (zfr_cell s4 (by decide)).trans em3
    have en4 : m4 aM f_letters = m aM f_letters := (zfr_at s4 (by decide)).trans en3
    have es4 : m4 aM f_subPoints = (pts : Int) := (zfr_at s4 (by decide)).trans es3
    have hw4 : wfC (m4 a_c) := by rw [ec4]; exact hw
    refine z_aload_n dX12_countsSub_112 rfl ?_
    refine z_gP 32 rfl (r := a_subs) flX12_69 dX12_countsSub_113 (sh_M hE) rfl (pt_subs hm4) (by decide) ?_
    refine z_iconst dX12_countsSub_116 (by decide) ?_
    refine z_dup2 dX12_countsSub_117 rfl rfl ?_
    refine z_ialv dX12_countsSub_118 (sh_subs hE) (by omega) (by omega) ((u4 3 (by decide)).trans ((u3 3 (by decide)).trans ((u2 3 (by decide)).trans (congrFun eu1 3)))) ?_
    refine z_aload_n dX12_countsSub_119 rfl ?_
    refine z_aload_n dX12_countsSub_120 rfl ?_
    refine z_gIv f_subPoints rfl flX12_380 dX12_countsSub_121 (sh_M hE) rfl es4 ?_
    refine z_iconst dX12_countsSub_124 (by decide) ?_
    refine z_callV mlX12_298 dX12_countsSub_125 (sh_M hE) (av := [_, _]) rfl rfl (Nat.le_of_ble_eq_true rfl) (q_partsOf _ hE hm4 hw4 o4 pts (-1) hp) (Nat.le_refl _) (Nat.le_refl _) (Nat.le_refl _) (Nat.le_refl _) ?_
    rintro _ _ ⟨rfl, rfl⟩
    refine z_iconst dX12_countsSub_128 (by decide) ?_
    refine z_icmp_ne (tgt := 136) dX12_countsSub_129 rfl (fun h129 => ?_) (fun h129 => ?_)
    · refine z_iconst dX12_countsSub_136 (by decide) ?_
      refine z_add dX12_countsSub_137 (by omega) ?_
      refine z_iastN dX12_countsSub_138 (sh_subs hE) (by omega) (by omega) ?_
      intro m5 s5 v5 u5
      have hm5 := ptM_s hm4 s5
      have o5 := mOp_fr o4 (zfr_at s5 (by decide)) (zfr_cell s5 (by decide)) (zfr_cell s5 (by decide))
      have ec5 : m5 a_c = m a_c := (zfr_cell s5 (by decide)).trans ec4
      have ew5 : m5 a_what = m a_what := (zfr_cell s5 (by decide)).trans ew4
      have ep5 : m5 a_pointOf = m a_pointOf := (zfr_cell s5 (by decide)).trans ep4
      have em5 : m5 a_mate = m a_mate := (zfr_cell s5 (by decide)).trans em4
      have en5 : m5 aM f_letters = m aM f_letters := (zfr_at s5 (by decide)).trans en4
      have es5 : m5 aM f_subPoints = (pts : Int) := (zfr_at s5 (by decide)).trans es4
      have hw5 : wfC (m5 a_c) := by rw [ec5]; exact hw
      refine z_vret dX12_countsSub_139 rfl rfl ?_
      have r2 : tSub (mT m) pts 2 (m a_mate) = 0 := by rw [tSub, if_neg (by decide), if_neg (by decide), if_pos rfl]; exact zb_f (show ¬ tLost (m a_c) ((sCL (m aM f_letters).toNat (cCode (m a_c) (m a_what) (m a_pointOf)) (m a_mate)) (m aM f_letters).toNat 0).length (lf ((sCL (m aM f_letters).toNat (cCode (m a_c) (m a_what) (m a_pointOf)) (m a_mate)) (m aM f_letters).toNat 0)) pts = 0 by omega)
      have r3 : tSub (mT m) pts 3 (m a_mate) = 0 := by rw [tSub, if_neg (by decide), if_neg (by decide), if_neg (by decide)]; exact zb_f (show ¬ tParts ((sCL (m aM f_letters).toNat (cCode (m a_c) (m a_what) (m a_pointOf)) (m a_mate)) (m aM f_letters).toNat 0).length (lf ((sCL (m aM f_letters).toNat (cCode (m a_c) (m a_what) (m a_pointOf)) (m a_mate)) (m aM f_letters).toNat 0)) (-1) pts = 1 by omega)
      refine ⟨rfl, zfr_tr (zfr_sub f1 (by decide)) (zfr_tr (zfr_sub s2 (by decide)) (zfr_tr (zfr_sub s3 (by decide)) (zfr_tr (zfr_sub s4 (by decide)) (zfr_sub s5 (by decide))))), ?_, ?_, ?_, ?_⟩
      · rw [u5 0 (by decide), u4 0 (by decide), u3 0 (by decide), v2]; rfl
      · rw [u5 1 (by decide), u4 1 (by decide), v3]; rfl
      · rw [u5 2 (by decide), v4, r2]
      · rw [v5, r3]
    · refine z_iconst dX12_countsSub_132 (by decide) ?_
      refine z_goto (tgt := 137) dX12_countsSub_133 rfl ?_
      refine z_add dX12_countsSub_137 (by omega) ?_
      refine z_iastN dX12_countsSub_138 (sh_subs hE) (by omega) (by omega) ?_
      intro m5 s5 v5 u5
      have hm5 := ptM_s hm4 s5
      have o5 := mOp_fr o4 (zfr_at s5 (by decide)) (zfr_cell s5 (by decide)) (zfr_cell s5 (by decide))
      have ec5 : m5 a_c = m a_c := (zfr_cell s5 (by decide)).trans ec4
      have ew5 : m5 a_what = m a_what := (zfr_cell s5 (by decide)).trans ew4
      have ep5 : m5 a_pointOf = m a_pointOf := (zfr_cell s5 (by decide)).trans ep4
      have em5 : m5 a_mate = m a_mate := (zfr_cell s5 (by decide)).trans em4
      have en5 : m5 aM f_letters = m aM f_letters := (zfr_at s5 (by decide)).trans en4
      have es5 : m5 aM f_subPoints = (pts : Int) := (zfr_at s5 (by decide)).trans es4
      have hw5 : wfC (m5 a_c) := by rw [ec5]; exact hw
      refine z_vret dX12_countsSub_139 rfl rfl ?_
      have r2 : tSub (mT m) pts 2 (m a_mate) = 0 := by rw [tSub, if_neg (by decide), if_neg (by decide), if_pos rfl]; exact zb_f (show ¬ tLost (m a_c) ((sCL (m aM f_letters).toNat (cCode (m a_c) (m a_what) (m a_pointOf)) (m a_mate)) (m aM f_letters).toNat 0).length (lf ((sCL (m aM f_letters).toNat (cCode (m a_c) (m a_what) (m a_pointOf)) (m a_mate)) (m aM f_letters).toNat 0)) pts = 0 by omega)
      have r3 : tSub (mT m) pts 3 (m a_mate) = 1 := by rw [tSub, if_neg (by decide), if_neg (by decide), if_neg (by decide)]; exact zb_t (show tParts ((sCL (m aM f_letters).toNat (cCode (m a_c) (m a_what) (m a_pointOf)) (m a_mate)) (m aM f_letters).toNat 0).length (lf ((sCL (m aM f_letters).toNat (cCode (m a_c) (m a_what) (m a_pointOf)) (m a_mate)) (m aM f_letters).toNat 0)) (-1) pts = 1 by omega)
      refine ⟨rfl, zfr_tr (zfr_sub f1 (by decide)) (zfr_tr (zfr_sub s2 (by decide)) (zfr_tr (zfr_sub s3 (by decide)) (zfr_tr (zfr_sub s4 (by decide)) (zfr_sub s5 (by decide))))), ?_, ?_, ?_, ?_⟩
      · rw [u5 0 (by decide), u4 0 (by decide), u3 0 (by decide), v2]; rfl
      · rw [u5 1 (by decide), u4 1 (by decide), v3]; rfl
      · rw [u5 2 (by decide), v4, r2]
      · rw [v5, r3]
  · refine z_iconst dX12_countsSub_105 (by decide) ?_
    refine z_goto (tgt := 110) dX12_countsSub_106 rfl ?_
    refine z_add dX12_countsSub_110 (by omega) ?_
    refine z_iastN dX12_countsSub_111 (sh_subs hE) (by omega) (by omega) ?_
    intro m4 s4 v4 u4
    have hm4 := ptM_s hm3 s4
    have o4 := mOp_fr o3 (zfr_at s4 (by decide)) (zfr_cell s4 (by decide)) (zfr_cell s4 (by decide))
    have ec4 : m4 a_c = m a_c := (zfr_cell s4 (by decide)).trans ec3
    have ew4 : m4 a_what = m a_what := (zfr_cell s4 (by decide)).trans ew3
    have ep4 : m4 a_pointOf = m a_pointOf := (zfr_cell s4 (by decide)).trans ep3
    have em4 : m4 a_mate = m a_mate := (zfr_cell s4 (by decide)).trans em3
    have en4 : m4 aM f_letters = m aM f_letters := (zfr_at s4 (by decide)).trans en3
    have es4 : m4 aM f_subPoints = (pts : Int) := (zfr_at s4 (by decide)).trans es3
    have hw4 : wfC (m4 a_c) := by rw [ec4]; exact hw
    refine z_aload_n dX12_countsSub_112 rfl ?_
    refine z_gP 32 rfl (r := a_subs) flX12_69 dX12_countsSub_113 (sh_M hE) rfl (pt_subs hm4) (by decide) ?_
    refine z_iconst dX12_countsSub_116 (by decide) ?_
    refine z_dup2 dX12_countsSub_117 rfl rfl ?_
    refine z_ialv dX12_countsSub_118 (sh_subs hE) (by omega) (by omega) ((u4 3 (by decide)).trans ((u3 3 (by decide)).trans ((u2 3 (by decide)).trans (congrFun eu1 3)))) ?_
    refine z_aload_n dX12_countsSub_119 rfl ?_
    refine z_aload_n dX12_countsSub_120 rfl ?_
    refine z_gIv f_subPoints rfl flX12_380 dX12_countsSub_121 (sh_M hE) rfl es4 ?_
    refine z_iconst dX12_countsSub_124 (by decide) ?_
    refine z_callV mlX12_298 dX12_countsSub_125 (sh_M hE) (av := [_, _]) rfl rfl (Nat.le_of_ble_eq_true rfl) (q_partsOf _ hE hm4 hw4 o4 pts (-1) hp) (Nat.le_refl _) (Nat.le_refl _) (Nat.le_refl _) (Nat.le_refl _) ?_
    rintro _ _ ⟨rfl, rfl⟩
    refine z_iconst dX12_countsSub_128 (by decide) ?_
    refine z_icmp_ne (tgt := 136) dX12_countsSub_129 rfl (fun h129 => ?_) (fun h129 => ?_)
    · refine z_iconst dX12_countsSub_136 (by decide) ?_
      refine z_add dX12_countsSub_137 (by omega) ?_
      refine z_iastN dX12_countsSub_138 (sh_subs hE) (by omega) (by omega) ?_
      intro m5 s5 v5 u5
      have hm5 := ptM_s hm4 s5
      have o5 := mOp_fr o4 (zfr_at s5 (by decide)) (zfr_cell s5 (by decide)) (zfr_cell s5 (by decide))
      have ec5 : m5 a_c = m a_c := (zfr_cell s5 (by decide)).trans ec4
      have ew5 : m5 a_what = m a_what := (zfr_cell s5 (by decide)).trans ew4
      have ep5 : m5 a_pointOf = m a_pointOf := (zfr_cell s5 (by decide)).trans ep4
      have em5 : m5 a_mate = m a_mate := (zfr_cell s5 (by decide)).trans em4
      have en5 : m5 aM f_letters = m aM f_letters := (zfr_at s5 (by decide)).trans en4
      have es5 : m5 aM f_subPoints = (pts : Int) := (zfr_at s5 (by decide)).trans es4
      have hw5 : wfC (m5 a_c) := by rw [ec5]; exact hw
      refine z_vret dX12_countsSub_139 rfl rfl ?_
      have r2 : tSub (mT m) pts 2 (m a_mate) = 1 := by rw [tSub, if_neg (by decide), if_neg (by decide), if_pos rfl]; exact zb_t (show tLost (m a_c) ((sCL (m aM f_letters).toNat (cCode (m a_c) (m a_what) (m a_pointOf)) (m a_mate)) (m aM f_letters).toNat 0).length (lf ((sCL (m aM f_letters).toNat (cCode (m a_c) (m a_what) (m a_pointOf)) (m a_mate)) (m aM f_letters).toNat 0)) pts = 0 by omega)
      have r3 : tSub (mT m) pts 3 (m a_mate) = 0 := by rw [tSub, if_neg (by decide), if_neg (by decide), if_neg (by decide)]; exact zb_f (show ¬ tParts ((sCL (m aM f_letters).toNat (cCode (m a_c) (m a_what) (m a_pointOf)) (m a_mate)) (m aM f_letters).toNat 0).length (lf ((sCL (m aM f_letters).toNat (cCode (m a_c) (m a_what) (m a_pointOf)) (m a_mate)) (m aM f_letters).toNat 0)) (-1) pts = 1 by omega)
      refine ⟨rfl, zfr_tr (zfr_sub f1 (by decide)) (zfr_tr (zfr_sub s2 (by decide)) (zfr_tr (zfr_sub s3 (by decide)) (zfr_tr (zfr_sub s4 (by decide)) (zfr_sub s5 (by decide))))), ?_, ?_, ?_, ?_⟩
      · rw [u5 0 (by decide), u4 0 (by decide), u3 0 (by decide), v2]; rfl
      · rw [u5 1 (by decide), u4 1 (by decide), v3]; rfl
      · rw [u5 2 (by decide), v4, r2]
      · rw [v5, r3]
    · refine z_iconst dX12_countsSub_132 (by decide) ?_
      refine z_goto (tgt := 137) dX12_countsSub_133 rfl ?_
      refine z_add dX12_countsSub_137 (by omega) ?_
      refine z_iastN dX12_countsSub_138 (sh_subs hE) (by omega) (by omega) ?_
      intro m5 s5 v5 u5
      have hm5 := ptM_s hm4 s5
      have o5 := mOp_fr o4 (zfr_at s5 (by decide)) (zfr_cell s5 (by decide)) (zfr_cell s5 (by decide))
      have ec5 : m5 a_c = m a_c := (zfr_cell s5 (by decide)).trans ec4
      have ew5 : m5 a_what = m a_what := (zfr_cell s5 (by decide)).trans ew4
      have ep5 : m5 a_pointOf = m a_pointOf := (zfr_cell s5 (by decide)).trans ep4
      have em5 : m5 a_mate = m a_mate := (zfr_cell s5 (by decide)).trans em4
      have en5 : m5 aM f_letters = m aM f_letters := (zfr_at s5 (by decide)).trans en4
      have es5 : m5 aM f_subPoints = (pts : Int) := (zfr_at s5 (by decide)).trans es4
      have hw5 : wfC (m5 a_c) := by rw [ec5]; exact hw
      refine z_vret dX12_countsSub_139 rfl rfl ?_
      have r2 : tSub (mT m) pts 2 (m a_mate) = 1 := by rw [tSub, if_neg (by decide), if_neg (by decide), if_pos rfl]; exact zb_t (show tLost (m a_c) ((sCL (m aM f_letters).toNat (cCode (m a_c) (m a_what) (m a_pointOf)) (m a_mate)) (m aM f_letters).toNat 0).length (lf ((sCL (m aM f_letters).toNat (cCode (m a_c) (m a_what) (m a_pointOf)) (m a_mate)) (m aM f_letters).toNat 0)) pts = 0 by omega)
      have r3 : tSub (mT m) pts 3 (m a_mate) = 1 := by rw [tSub, if_neg (by decide), if_neg (by decide), if_neg (by decide)]; exact zb_t (show tParts ((sCL (m aM f_letters).toNat (cCode (m a_c) (m a_what) (m a_pointOf)) (m a_mate)) (m aM f_letters).toNat 0).length (lf ((sCL (m aM f_letters).toNat (cCode (m a_c) (m a_what) (m a_pointOf)) (m a_mate)) (m aM f_letters).toNat 0)) (-1) pts = 1 by omega)
      refine ⟨rfl, zfr_tr (zfr_sub f1 (by decide)) (zfr_tr (zfr_sub s2 (by decide)) (zfr_tr (zfr_sub s3 (by decide)) (zfr_tr (zfr_sub s4 (by decide)) (zfr_sub s5 (by decide))))), ?_, ?_, ?_, ?_⟩
      · rw [u5 0 (by decide), u4 0 (by decide), u3 0 (by decide), v2]; rfl
      · rw [u5 1 (by decide), u4 1 (by decide), v3]; rfl
      · rw [u5 2 (by decide), v4, r2]
      · rw [v5, r3]

theorem r_countsSub (d : Nat) {E : zE} {m : zM} (hE : shM E) (hm : ptM m) (hw : wfC (m a_c)) (hl : wfL (m a_c) (m a_what) (m a_pointOf) (m aM f_letters)) (hv : ∀ i : Int, 0 ≤ i → i < m aM f_letters → m a_mate i < i ∨ (i < m a_mate i ∧ m a_mate i < m aM f_letters ∧ cMay (m a_c) (m a_what) (m a_pointOf) i (m a_mate i) = true)) (hc : zsum (fun i => zb (i < m a_mate i)) (m aM f_letters).toNat 0 ≤ 6) (pts : Nat) (hp : pts < 256) (hpt : m aM f_subPoints = (pts : Int)) (hsb : ∀ k : Int, 0 ≤ k → k < 4 → -20000 ≤ m a_subs k ∧ m a_subs k ≤ 20000) : zR zX12_countsSub (d + 4) [zP aM] m E E (fun r m' => r = none ∧ zfr fCnt m m' ∧ m' a_subs 0 = m a_subs 0 + tSub (mT m) pts 0 (m a_mate) ∧ m' a_subs 1 = m a_subs 1 + tSub (mT m) pts 1 (m a_mate) ∧ m' a_subs 2 = m a_subs 2 + tSub (mT m) pts 2 (m a_mate) ∧ m' a_subs 3 = m a_subs 3 + tSub (mT m) pts 3 (m a_mate)) := by
  have hb1 := hl.1
  refine zR_go [zP aM, zN] (by decide +kernel) (Nat.le_of_ble_eq_true rfl) rfl rfl ?_
  refine z_aload_n dX12_countsSub_0 rfl ?_
  refine z_iconst dX12_countsSub_1 (by decide) ?_
  refine z_pI f_lines rfl (fpX12_197 _) dX12_countsSub_2 (sh_M hE) rfl ?_
  refine z_iconst dX12_countsSub_5 (by decide) ?_
  refine z_ist 1 dX12_countsSub_6 rfl (Nat.le_of_ble_eq_true rfl) ?_
  try dsimp only [zs0, zsI, zsP, zsN, zsJ, zsS, zst2, Nat.reduceAdd]
  refine l_countsSub d hE hm hw hl hv hc (m aM f_letters).toNat 0 _ (ptM_j hm (by decide)) (by have := hl.1; omega) (zfr_uj zfr_rf (by decide)) (by rw [zu_s]; rfl) (fun x q1 q2 => by have : (((sCL (m aM f_letters).toNat (cCode (m a_c) (m a_what) (m a_pointOf)) (m a_mate)) 0 0).length : Int) = 0 := rfl; omega) (fun m1 hm1 f1 hlin hcod => ?_)
  have ec1 : m1 a_c = m a_c := zfr_cell f1 (by decide)
  have hlen := sCL_len2 (N := (m aM f_letters).toNat) (code := cCode (m a_c) (m a_what) (m a_pointOf)) (fun i q1 q2 => (hv i q1 q2).imp id (fun h => h.1)) (k := (m aM f_letters).toNat) (by omega)
  refine l_countsSub_2 d hE hw hl hv hc pts hp hpt hsb hm1 f1 ⟨hlin, by omega, hcod, fun i q1 q2 => ?_⟩
  obtain ⟨x, x1, x2, x3, x4⟩ := sCL_mem (lf_mem (l := (sCL (m aM f_letters).toNat (cCode (m a_c) (m a_what) (m a_pointOf)) (m a_mate)) (m aM f_letters).toNat 0) q1 q2)
  have hx := (hv x x1 (by omega)).resolve_left x3
  rw [x4, ec1]
  exact cCode_ok hw hl x1 (by omega) (by omega) hx.2.1 hx.2.2
