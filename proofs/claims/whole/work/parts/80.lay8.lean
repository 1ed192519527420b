/-! texts: tokens -/
def kn (x : Int) : Int := if 10 ≤ x ∧ x ≤ 122 then x else 0
/-- a text: its bytes, its length, whether numbers may stand in it -/
abbrev zK : Type := (Int → Int) × Int × Int
def mV (t : Int → Int) (e : Int) : Int → Int := fun k => if 0 ≤ k ∧ k < e then kn (t k) else 0
def mK (m : zM) : zK := (mV (m a_tape) (m aM f_end), m aM f_end, m aM f_withNumbers)
def zrun (p : Int → Bool) : Nat → Int → Int
  | 0, k => k
  | j + 1, k => if p k = true then zrun p j (k + 1) else k
theorem zrun_0 (p : Int → Bool) (k : Int) : zrun p 0 k = k := rfl
theorem zrun_t {p : Int → Bool} {j : Nat} {k : Int} (h : p k = true) : zrun p (j + 1) k = zrun p j (k + 1) := if_pos h
theorem zrun_f {p : Int → Bool} {j : Nat} {k : Int} (h : p k = false) : zrun p j k = k := by
  cases j with
  | zero => rfl
  | succ j => exact if_neg (by rw [h]; decide)
theorem zrun_ge {p : Int → Bool} : ∀ {j : Nat} {k : Int}, k ≤ zrun p j k ∧ zrun p j k ≤ k + j
  | 0, k => by rw [zrun_0]; omega
  | j + 1, k => by
    cases h : p k with
    | true => rw [zrun_t h]; have := zrun_ge (p := p) (j := j) (k := k + 1); omega
    | false => rw [zrun_f h]; omega
/-- a run ends before what stops it -/
theorem zrun_le {p : Int → Bool} {e : Int} (he : ∀ k, e ≤ k → p k = false) : ∀ {j : Nat} {k : Int}, k ≤ e → zrun p j k ≤ e
  | 0, k, h => by rw [zrun_0]; exact h
  | j + 1, k, h => by
    cases hp : p k with
    | true =>
      rw [zrun_t hp]
      refine zrun_le he ?_
      rcases Int.lt_or_le k e with q | q
      · omega
      · rw [he k q] at hp; cases hp
    | false => rw [zrun_f hp]; exact h
theorem zrun_in {p : Int → Bool} : ∀ {j : Nat} {k i : Int}, k ≤ i → i < zrun p j k → p i = true
  | 0, k, i, h1, h2 => by rw [zrun_0] at h2; omega
  | j + 1, k, i, h1, h2 => by
    cases hp : p k with
    | true =>
      rw [zrun_t hp] at h2
      by_cases e : i = k
      · rw [e]; exact hp
      · exact zrun_in (by omega) h2
    | false => rw [zrun_f hp] at h2; omega
def kB (K : zK) (k : Int) : Bool := decide (K.1 k = 32 ∨ K.1 k = 10)
def kL (K : zK) (k : Int) : Bool := decide (97 ≤ K.1 k ∧ K.1 k ≤ 122)
def kD (K : zK) (k : Int) : Bool := decide (48 ≤ K.1 k ∧ K.1 k ≤ 57)
def kSk (K : zK) (k : Int) : Int := zrun (kB K) (400 - k).toNat k
def kWe (K : zK) (k : Int) : Int := zrun (kL K) (400 - k).toNat k
def kNe (K : zK) (k : Int) : Int := zrun (kD K) (400 - k).toNat k
def kSg (K : zK) (k : Int) : Bool := decide (if K.2.2 = 0 then K.1 k = 39 ∨ K.1 k = 59 else K.1 k = 45 ∨ K.1 k = 62 ∨ K.1 k = 59)
/-- where the token ends -/
def kNx (K : zK) (p : Int) : Int := if kL K p = true then kWe K p else if K.2.2 ≠ 0 ∧ kD K p = true then kNe K p else p + 1
/-- its sort: 0 none, 1 word, 2 number, 3 sign, 4 bad -/
def kSo (K : zK) (p : Int) : Int := if kL K p = true then 1 else if K.2.2 ≠ 0 ∧ kD K p = true then (if 2 < kNe K p - p then 4 else 2) else if K.2.1 ≤ p then 0 else if kSg K p = true then 3 else 4
def kWn (K : zK) (p : Int) : Nat → Int
  | 0 => 0
  | i + 1 => if i < 8 then 27 * kWn K p i + K.1 (p + i) - 96 else -1
def kNn (K : zK) (p : Int) : Nat → Int
  | 0 => 0
  | i + 1 => if i < 2 then 10 * kNn K p i + K.1 (p + i) - 48 else kNn K p i
def kW (K : zK) (p : Int) : Int := kWn K p (kWe K p - p).toNat
def kN (K : zK) (p : Int) : Int := kNn K p (kNe K p - p).toNat
def kSz (K : zK) (p : Int) : Int := kNx K p - p
/-- the token behind -/
def kR (K : zK) (p : Int) : Int := kSk K (kNx K p)
def kMis (K : zK) (p : Int) : Int := if kSo K p = 4 then 1 else 2
theorem mV_o {t : Int → Int} {e k : Int} (h : e ≤ k) : mV t e k = 0 := if_neg (by omega)
theorem mV_in {t : Int → Int} {e k lo hi : Int} (h0 : 0 ≤ k) (hlo : 10 ≤ lo) (hhi : hi ≤ 122) : (lo ≤ mV t e k ∧ mV t e k ≤ hi) ↔ (k < e ∧ lo ≤ t k ∧ t k ≤ hi) := by
  unfold mV kn
  by_cases h : k < e
  · rw [if_pos ⟨h0, h⟩]
    split <;> omega
  · rw [if_neg (by omega)]
    omega
theorem mV_eq {t : Int → Int} {e k v : Int} (h0 : 0 ≤ k) (h1 : k < e) (hlo : 10 ≤ v) (hhi : v ≤ 122) : mV t e k = v ↔ t k = v := by
  have := mV_in (t := t) (e := e) (k := k) (lo := v) (hi := v) h0 hlo hhi
  omega
theorem kL_iff {K : zK} {k : Int} : kL K k = true ↔ (97 ≤ K.1 k ∧ K.1 k ≤ 122) := by unfold kL; rw [decide_eq_true_eq]
theorem kD_iff {K : zK} {k : Int} : kD K k = true ↔ (48 ≤ K.1 k ∧ K.1 k ≤ 57) := by unfold kD; rw [decide_eq_true_eq]
theorem kB_iff {K : zK} {k : Int} : kB K k = true ↔ (K.1 k = 32 ∨ K.1 k = 10) := by unfold kB; rw [decide_eq_true_eq]
/-- a text that ends -/
def kOk (K : zK) : Prop := (0 ≤ K.2.1 ∧ K.2.1 ≤ 400) ∧ ∀ k, K.2.1 ≤ k → K.1 k = 0
theorem mK_ok {m : zM} (h : 0 ≤ m aM f_end ∧ m aM f_end ≤ 400) : kOk (mK m) := ⟨h, fun _ hk => mV_o hk⟩
theorem kL_o {K : zK} (h : kOk K) : ∀ k, K.2.1 ≤ k → kL K k = false := fun k hk => by unfold kL; rw [h.2 k hk]; decide
theorem kD_o {K : zK} (h : kOk K) : ∀ k, K.2.1 ≤ k → kD K k = false := fun k hk => by unfold kD; rw [h.2 k hk]; decide
theorem kB_o {K : zK} (h : kOk K) : ∀ k, K.2.1 ≤ k → kB K k = false := fun k hk => by unfold kB; rw [h.2 k hk]; decide
theorem kWe_gt {K : zK} {p : Int} (h : kOk K) (hl : kL K p = true) : p + 1 ≤ kWe K p ∧ kWe K p ≤ K.2.1 := by
  have hp : p < K.2.1 := by
    rcases Int.lt_or_le p K.2.1 with q | q
    · exact q
    · rw [kL_o h p q] at hl; cases hl
  have h1 := h.1
  unfold kWe
  refine ⟨?_, zrun_le (kL_o h) (by omega)⟩
  rw [show (400 - p).toNat = (399 - p).toNat + 1 by omega, zrun_t hl]
  exact zrun_ge.1
theorem kNe_gt {K : zK} {p : Int} (h : kOk K) (hl : kD K p = true) : p + 1 ≤ kNe K p ∧ kNe K p ≤ K.2.1 := by
  have hp : p < K.2.1 := by
    rcases Int.lt_or_le p K.2.1 with q | q
    · exact q
    · rw [kD_o h p q] at hl; cases hl
  have h1 := h.1
  unfold kNe
  refine ⟨?_, zrun_le (kD_o h) (by omega)⟩
  rw [show (400 - p).toNat = (399 - p).toNat + 1 by omega, zrun_t hl]
  exact zrun_ge.1
theorem kNx_gt {K : zK} {p : Int} (h : kOk K) : p + 1 ≤ kNx K p ∧ (p < K.2.1 → kNx K p ≤ K.2.1) ∧ (K.2.1 ≤ p → kNx K p = p + 1) := by
  unfold kNx
  split
  · rename_i hl
    have := kWe_gt h hl
    omega
  · split
    · rename_i hl
      have := kNe_gt h hl.2
      omega
    · omega
theorem kSk_ge {K : zK} {k : Int} (h : kOk K) : k ≤ kSk K k ∧ (k ≤ K.2.1 → kSk K k ≤ K.2.1) := by
  unfold kSk
  exact ⟨zrun_ge.1, fun hk => zrun_le (kB_o h) hk⟩
theorem kR_gt {K : zK} {p : Int} (h : kOk K) (hp : p < K.2.1) : p + 1 ≤ kR K p ∧ kR K p ≤ K.2.1 := by
  have h1 := kNx_gt (p := p) h
  have h2 := kSk_ge (k := kNx K p) h
  unfold kR
  omega
theorem kSo_lt {K : zK} {p : Int} (h : kOk K) (hs : kSo K p ≠ 0) : p < K.2.1 := by
  rcases Int.lt_or_le p K.2.1 with q | q
  · exact q
  · exfalso
    apply hs
    unfold kSo
    rw [if_neg (by rw [kL_o h p q]; decide), if_neg (by rw [kD_o h p q]; simp), if_pos q]
theorem kSo_1 {K : zK} {p : Int} : kSo K p = 1 ↔ kL K p = true := by
  unfold kSo
  split
  · simp [*]
  · rename_i h
    constructor
    · intro e; exfalso; revert e; split
      · split <;> decide
      · split
        · decide
        · split <;> decide
    · intro e; exact absurd e h
theorem kSo_rg (K : zK) (p : Int) : 0 ≤ kSo K p ∧ kSo K p ≤ 4 := by
  unfold kSo
  split
  · decide
  · split
    · split <;> decide
    · split
      · decide
      · split <;> decide
theorem kWn_bd {K : zK} {p : Int} : ∀ {i : Nat}, (∀ x : Nat, x < i → kL K (p + x) = true) → i ≤ 8 → 0 ≤ kWn K p i ∧ kWn K p i < 27 ^ i
  | 0, _, _ => by simp [kWn]
  | i + 1, h, h8 => by
    have h1 := kWn_bd (K := K) (p := p) (i := i) (fun x hx => h x (by omega)) (by omega)
    have h2 := kL_iff.mp (h i (by omega))
    have h3 : (27 : Int) ^ (i + 1) = 27 ^ i * 27 := Int.pow_succ _ _
    show 0 ≤ (if i < 8 then 27 * kWn K p i + K.1 (p + i) - 96 else -1) ∧ (if i < 8 then 27 * kWn K p i + K.1 (p + i) - 96 else -1) < 27 ^ (i + 1)
    rw [if_pos (by omega), h3]
    omega
theorem kNn_bd {K : zK} {p : Int} : ∀ {i : Nat}, (∀ x : Nat, x < i → kD K (p + x) = true) → 0 ≤ kNn K p i ∧ kNn K p i ≤ 99 ∧ (i ≤ 1 → kNn K p i ≤ 9) ∧ (i = 0 → kNn K p i = 0)
  | 0, _ => by simp [kNn]
  | i + 1, h => by
    have h1 := kNn_bd (K := K) (p := p) (i := i) (fun x hx => h x (by omega))
    have h2 := kD_iff.mp (h i (by omega))
    show 0 ≤ (if i < 2 then 10 * kNn K p i + K.1 (p + i) - 48 else kNn K p i) ∧ (if i < 2 then 10 * kNn K p i + K.1 (p + i) - 48 else kNn K p i) ≤ 99 ∧ (i + 1 ≤ 1 → (if i < 2 then 10 * kNn K p i + K.1 (p + i) - 48 else kNn K p i) ≤ 9) ∧ (i + 1 = 0 → (if i < 2 then 10 * kNn K p i + K.1 (p + i) - 48 else kNn K p i) = 0)
    split <;> omega
/-- the token that stands there, in the model -/
def mTk (m : zM) (p : Int) : Prop := 0 ≤ p ∧ m aM f_place = p ∧ m aM f_next = kNx (mK m) p ∧ m aM f_sort = kSo (mK m) p ∧ m aM f_size = kSz (mK m) p ∧ (kSo (mK m) p = 1 → m aM f_word = kW (mK m) p) ∧ (kSo (mK m) p = 2 → m aM f_number = kN (mK m) p)
def fRd : List (Int × Option Int) := [(aM, some f_place), (aM, some f_next), (aM, some f_sort), (aM, some f_word), (aM, some f_number), (aM, some f_size)]
theorem mK_fr {F : List (Int × Option Int)} {m m' : zM} (f : zfr F m m') (h : (F.all (fun q => q.1 != a_tape) && F.all (fun q => q.1 != aM || (q.2 != none && q.2 != some f_end)) && F.all (fun q => q.1 != aM || (q.2 != none && q.2 != some f_withNumbers))) = true) : mK m' = mK m := by
  simp only [Bool.and_eq_true] at h
  unfold mK
  rw [zfr_cell f h.1.1, zfr_at f h.1.2, zfr_at f h.2]
