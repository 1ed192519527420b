/-! locals forgotten; sums and searches -/
def zwk : List zV → List zV → Prop
  | [], [] => True
  | v :: L, w :: L' => (w = zN ∨ w = v) ∧ zwk L L'
  | _, _ => False
theorem zwk_len : ∀ {L L' : List zV}, zwk L L' → L.length = L'.length
  | [], [], _ => rfl
  | _ :: L, _ :: L', h => by simp only [List.length_cons]; rw [zwk_len h.2]
  | [], _ :: _, h => h.elim
  | _ :: _, [], h => h.elim
theorem zwk_at : ∀ {L L' : List zV}, zwk L L' → ∀ (i : Nat) (v : zV), L'[i]? = some v → v ≠ .inr none → L[i]? = some v
  | [], [], _, i, v, h, _ => by simp at h
  | x :: L, w :: L', h, 0, v, h1, h2 => by
    simp only [List.getElem?_cons_zero, Option.some.injEq] at h1 ⊢
    rcases h.1 with e | e
    · exact absurd (h1.symm.trans e) h2
    · rw [← e]; exact h1
  | x :: L, w :: L', h, i + 1, v, h1, h2 => by
    simp only [List.getElem?_cons_succ] at h1 ⊢
    exact zwk_at h.2 i v h1 h2
  | [], _ :: _, h, _, _, _, _ => h.elim
  | _ :: _, [], h, _, _, _, _ => h.elim
theorem zA_wk {y : zY} {d : Nat} {E0 E' E : zE} {P : Option zV → zM → Prop} {pc : Nat} {L S : List zV} {m : zM} (L' : List zV) (h : zwk L L') (k : zA y d E0 E' P pc L' S m E) : zA y d E0 E' P pc L S m E := by
  intro G p l e s mid args below meth c H locs ls cx hH hS hl hL okL okS g1 g2
  refine k G p l e s mid args below meth c H locs ls cx hH hS ⟨hl.1, hl.2.1, fun q hq => ?_⟩ (by rw [← zwk_len h]; exact hL) (fun v hv => ?_) okS g1 g2
  · obtain ⟨i, v, rfl, hi, hv⟩ := zLs_of G L' 0 q hq
    exact hl.2.2 _ (zLs_mem G L 0 i v (zwk_at h i v hi hv) hv)
  · by_cases hn : v = .inr none
    · subst hn; trivial
    · obtain ⟨i, hi⟩ := List.getElem?_of_mem hv
      exact okL v (List.mem_of_getElem? (zwk_at h i v hi hn))
/-- f k + f (k + 1) + .., j of them -/
def zsum (f : Int → Int) : Nat → Int → Int
  | 0, _ => 0
  | j + 1, k => f k + zsum f j (k + 1)
/-- the first from k on, of j, that p holds of; else -1 -/
def zfst (p : Int → Bool) : Nat → Int → Int
  | 0, _ => -1
  | j + 1, k => if p k then k else zfst p j (k + 1)
theorem zsum_0 (f : Int → Int) (k : Int) : zsum f 0 k = 0 := rfl
theorem zsum_s (f : Int → Int) (j : Nat) (k : Int) : zsum f (j + 1) k = f k + zsum f j (k + 1) := rfl
theorem zfst_0 (p : Int → Bool) (k : Int) : zfst p 0 k = -1 := rfl
theorem zfst_t {p : Int → Bool} {j : Nat} {k : Int} (h : p k = true) : zfst p (j + 1) k = k := by simp [zfst, h]
theorem zfst_f {p : Int → Bool} {j : Nat} {k : Int} (h : p k = false) : zfst p (j + 1) k = zfst p j (k + 1) := by simp [zfst, h]
theorem zfst_ge {p : Int → Bool} : ∀ {j : Nat} {k : Int}, 0 ≤ k → (zfst p j k = -1 ∧ ∀ i, k ≤ i → i < k + j → p i = false) ∨ (k ≤ zfst p j k ∧ zfst p j k < k + j ∧ p (zfst p j k) = true ∧ ∀ i, k ≤ i → i < zfst p j k → p i = false)
  | 0, k, _ => Or.inl ⟨rfl, fun i h1 h2 => by omega⟩
  | j + 1, k, h0 => by
    cases h : p k with
    | true =>
      right
      rw [zfst_t h]
      exact ⟨Int.le_refl _, by omega, h, fun i h1 h2 => by omega⟩
    | false =>
      rw [zfst_f h]
      rcases zfst_ge (p := p) (j := j) (k := k + 1) (by omega) with ⟨h1, h2⟩ | ⟨h1, h2, h3, h4⟩
      · left
        refine ⟨h1, fun i h3 h4 => ?_⟩
        by_cases hi : i = k
        · rw [hi]; exact h
        · exact h2 i (by omega) (by omega)
      · right
        refine ⟨by omega, by omega, h3, fun i h5 h6 => ?_⟩
        by_cases hi : i = k
        · rw [hi]; exact h
        · exact h4 i (by omega) h6
theorem zsum_congr {f g : Int → Int} : ∀ {j : Nat} {k : Int}, (∀ i, k ≤ i → i < k + j → f i = g i) → zsum f j k = zsum g j k
  | 0, _, _ => rfl
  | j + 1, k, h => by
    rw [zsum_s, zsum_s, h k (by omega) (by omega), zsum_congr (fun i h1 h2 => h i (by omega) (by omega))]
theorem zsum_bd {f : Int → Int} {b : Int} : ∀ {j : Nat} {k : Int}, (∀ i, k ≤ i → i < k + j → 0 ≤ f i ∧ f i ≤ b) → 0 ≤ zsum f j k ∧ zsum f j k ≤ j * b
  | 0, _, _ => by simp [zsum]
  | j + 1, k, h => by
    have h1 := h k (by omega) (by omega)
    have h2 := zsum_bd (f := f) (b := b) (j := j) (k := k + 1) (fun i h1 h2 => h i (by omega) (by omega))
    rw [zsum_s]
    have e : ((j + 1 : Nat) : Int) * b = b + (j : Int) * b := by push_cast; rw [Int.add_mul, Int.one_mul, Int.add_comm]
    rw [e]
    omega
section ZR6
variable {y : zY} {d : Nat} {E0 E' E : zE} {P : Option zV → zM → Prop} {pc : Nat} {L S : List zV} {m : zM}
theorem z_ist {f : Fin 4} {x : Int} (i : Nat) (hd : decode y.2.1 pc = .ok (.istore_n f, 1)) (hf : (f : Nat) = i) (hi : i < L.length) (k : zA y d E0 E' P (pc + 1) (zst L i (zI x)) S m E) : zA y d E0 E' P pc L (zI x :: S) m E := by subst hf; exact z_istore_n hd hi k
theorem z_lst {f : Fin 4} {x : Int} (i : Nat) (hd : decode y.2.1 pc = .ok (.lstore_n f, 1)) (hf : (f : Nat) = i) (hi : i + 1 < L.length) (k : zA y d E0 E' P (pc + 1) (zst2 L i (zJ x)) S m E) : zA y d E0 E' P pc L (zJ x :: S) m E := by subst hf; exact z_lstore_n hd hi k
theorem z_ast {f : Fin 4} {x : Int} (i : Nat) (hd : decode y.2.1 pc = .ok (.astore_n f, 1)) (hf : (f : Nat) = i) (hi : i < L.length) (k : zA y d E0 E' P (pc + 1) (zst L i (zP x)) S m E) : zA y d E0 E' P pc L (zP x :: S) m E := by subst hf; exact z_astore_n hd hi k
theorem z_gI {ci k idx : Nat} {a n : Int} (i : Int) (hi : (k : Int) = i) (hf : zFl y.1.cls idx ci k) (hd : decode y.2.1 pc = .ok (.getfield idx, 3)) (hs : E.1 a = (ci + 6, n)) (hk : zfk (zty ci k) = 0) (kk : zA y d E0 E' P (pc + 3) L (zI (m a i) :: S) m E) : zA y d E0 E' P pc L (zP a :: S) m E := by subst hi; exact z_getI hf hd hs hk kk
theorem z_gJ {ci k idx : Nat} {a n : Int} (i : Int) (hi : (k : Int) = i) (hf : zFl y.1.cls idx ci k) (hd : decode y.2.1 pc = .ok (.getfield idx, 3)) (hs : E.1 a = (ci + 6, n)) (hk : zfk (zty ci k) = 1) (kk : zA y d E0 E' P (pc + 3) L (zJ (m a i) :: S) m E) : zA y d E0 E' P pc L (zP a :: S) m E := by subst hi; exact z_getJ hf hd hs hk kk
theorem z_gP {ci k idx : Nat} {a n r : Int} (i : Int) (hi : (k : Int) = i) (hf : zFl y.1.cls idx ci k) (hd : decode y.2.1 pc = .ok (.getfield idx, 3)) (hs : E.1 a = (ci + 6, n)) (hk : zfk (zty ci k) = 2) (hr : m a i = r) (h0 : 0 ≤ r) (kk : zA y d E0 E' P (pc + 3) L (zP r :: S) m E) : zA y d E0 E' P pc L (zP a :: S) m E := by subst hi; exact z_getP hf hd hs hk hr h0 kk
theorem z_pI {ci k idx : Nat} {a n x : Int} (i : Int) (hi : (k : Int) = i) (hf : zFp y.1.cls y.1.name idx ci k) (hd : decode y.2.1 pc = .ok (.putfield idx, 3)) (hs : E.1 a = (ci + 6, n)) (ht : zty ci k = .int) (kk : zA y d E0 E' P (pc + 3) L S (zu m a i x) E) : zA y d E0 E' P pc L (zI x :: zP a :: S) m E := by subst hi; exact z_putI hf hd hs ht kk
theorem z_pZ {ci k idx : Nat} {a n x : Int} (i : Int) (hi : (k : Int) = i) (hf : zFp y.1.cls y.1.name idx ci k) (hd : decode y.2.1 pc = .ok (.putfield idx, 3)) (hs : E.1 a = (ci + 6, n)) (ht : zty ci k = .boolean) (hx : x = 0 ∨ x = 1) (kk : zA y d E0 E' P (pc + 3) L S (zu m a i x) E) : zA y d E0 E' P pc L (zI x :: zP a :: S) m E := by subst hi; exact z_putZ hf hd hs ht hx kk
theorem z_pJ {ci k idx : Nat} {a n x : Int} (i : Int) (hi : (k : Int) = i) (hf : zFp y.1.cls y.1.name idx ci k) (hd : decode y.2.1 pc = .ok (.putfield idx, 3)) (hs : E.1 a = (ci + 6, n)) (ht : zty ci k = .long) (kk : zA y d E0 E' P (pc + 3) L S (zu m a i x) E) : zA y d E0 E' P pc L (zJ x :: zP a :: S) m E := by subst hi; exact z_putJ hf hd hs ht kk
theorem z_pP {ci k idx : Nat} {a n x : Int} (i : Int) (hi : (k : Int) = i) (hf : zFp y.1.cls y.1.name idx ci k) (hd : decode y.2.1 pc = .ok (.putfield idx, 3)) (hs : E.1 a = (ci + 6, n)) (ht : zfk (zty ci k) = 2) (hx : 0 ≤ x) (kk : zA y d E0 E' P (pc + 3) L S (zu m a i x) E) : zA y d E0 E' P pc L (zP x :: zP a :: S) m E := by subst hi; exact z_putP hf hd hs ht hx kk
end ZR6
section ZR7
variable {y : zY} {d : Nat} {E0 E' E : zE} {P : Option zV → zM → Prop} {pc : Nat} {L S : List zV} {m : zM}
theorem z_ifz_eq {p : Prop} [Decidable p] {off : Int} {tgt : Nat} (hd : decode y.2.1 pc = .ok (.ifCond .eq off, 3)) (ht : (pc : Int) + off = (tgt : Int)) (kt : ¬ p → zA y d E0 E' P tgt L S m E) (kf : p → zA y d E0 E' P (pc + 3) L S m E) : zA y d E0 E' P pc L (zI (zb p) :: S) m E :=
  z_if_eq hd ht (fun h => kt (fun hp => by rw [zb_t hp] at h; omega)) (fun h => kf (Classical.byContradiction fun hp => h (zb_f hp)))
theorem z_ifz_ne {p : Prop} [Decidable p] {off : Int} {tgt : Nat} (hd : decode y.2.1 pc = .ok (.ifCond .ne off, 3)) (ht : (pc : Int) + off = (tgt : Int)) (kt : p → zA y d E0 E' P tgt L S m E) (kf : ¬ p → zA y d E0 E' P (pc + 3) L S m E) : zA y d E0 E' P pc L (zI (zb p) :: S) m E :=
  z_if_ne hd ht (fun h => kt (Classical.byContradiction fun hp => h (zb_f hp))) (fun h => kf (fun hp => by rw [zb_t hp] at h; omega))
end ZR7
/-- only these places may differ: (a, none) a whole cell, (a, some j) a place in it -/
def zfr (F : List (Int × Option Int)) (m m' : zM) : Prop := ∀ a j : Int, (a, none) ∉ F → (a, some j) ∉ F → m' a j = m a j
theorem zfr_rf {F : List (Int × Option Int)} {m : zM} : zfr F m m := fun _ _ _ _ => rfl
theorem zfr_tr {F : List (Int × Option Int)} {m m1 m2 : zM} (h1 : zfr F m m1) (h2 : zfr F m1 m2) : zfr F m m2 := fun a j q1 q2 => (h2 a j q1 q2).trans (h1 a j q1 q2)
theorem zfr_sub {F F' : List (Int × Option Int)} {m m' : zM} (h : zfr F m m') (hs : ∀ q ∈ F, q ∈ F') : zfr F' m m' := fun a j q1 q2 => h a j (fun h => q1 (hs _ h)) (fun h => q2 (hs _ h))
theorem zfr_ua {F : List (Int × Option Int)} {m m1 : zM} {a j x : Int} (h : zfr F m m1) (ha : (a, none) ∈ F) : zfr F m (zu m1 a j x) := fun b i q1 q2 => by
  have : b ≠ a := fun e => q1 (e ▸ ha)
  rw [zu_a this]; exact h b i q1 q2
theorem zfr_uj {F : List (Int × Option Int)} {m m1 : zM} {a j x : Int} (h : zfr F m m1) (ha : (a, some j) ∈ F) : zfr F m (zu m1 a j x) := fun b i q1 q2 => by
  by_cases hb : b = a ∧ i = j
  · exact absurd (by rw [hb.1, hb.2]; exact ha) q2
  · have : zu m1 a j x b i = m1 b i := by simp only [zu, if_neg hb]
    rw [this]; exact h b i q1 q2
section ZR8
variable {y : zY} {d : Nat} {E0 E' E : zE} {P : Option zV → zM → Prop} {pc : Nat} {L S : List zV} {m : zM}
theorem z_gIv {ci k idx : Nat} {a n v : Int} (i : Int) (hi : (k : Int) = i) (hf : zFl y.1.cls idx ci k) (hd : decode y.2.1 pc = .ok (.getfield idx, 3)) (hs : E.1 a = (ci + 6, n)) (hk : zfk (zty ci k) = 0) (hv : m a i = v) (kk : zA y d E0 E' P (pc + 3) L (zI v :: S) m E) : zA y d E0 E' P pc L (zP a :: S) m E := by subst hi; subst hv; exact z_getI hf hd hs hk kk
theorem z_gJv {ci k idx : Nat} {a n v : Int} (i : Int) (hi : (k : Int) = i) (hf : zFl y.1.cls idx ci k) (hd : decode y.2.1 pc = .ok (.getfield idx, 3)) (hs : E.1 a = (ci + 6, n)) (hk : zfk (zty ci k) = 1) (hv : m a i = v) (kk : zA y d E0 E' P (pc + 3) L (zJ v :: S) m E) : zA y d E0 E' P pc L (zP a :: S) m E := by subst hi; subst hv; exact z_getJ hf hd hs hk kk
theorem z_ialv {a n i v : Int} (hd : decode y.2.1 pc = .ok (.iaload, 1)) (hs : E.1 a = (1, n)) (h0 : 0 ≤ i) (hn : i < n) (hv : m a i = v) (kk : zA y d E0 E' P (pc + 1) L (zI v :: S) m E) : zA y d E0 E' P pc L (zI i :: zP a :: S) m E := by subst hv; exact z_iald hd hs h0 hn kk
theorem z_lalv {a n i v : Int} (hd : decode y.2.1 pc = .ok (.laload, 1)) (hs : E.1 a = (2, n)) (h0 : 0 ≤ i) (hn : i < n) (hv : m a i = v) (kk : zA y d E0 E' P (pc + 1) L (zJ v :: S) m E) : zA y d E0 E' P pc L (zI i :: zP a :: S) m E := by subst hv; exact z_lald hd hs h0 hn kk
end ZR8
