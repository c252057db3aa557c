/-! ===== the pure side: frames, numbers, bits ===== -/
def slFr (L : List (Nat × Nat)) (σ τ : slM) : Prop := ∀ r i, (r, i) ∉ L → τ r i = σ r i
theorem slFr.id {L : List (Nat × Nat)} {σ : slM} : slFr L σ σ := fun _ _ _ => rfl
theorem slFr.tr {L : List (Nat × Nat)} {σ τ υ : slM} (h1 : slFr L σ τ) (h2 : slFr L τ υ) : slFr L σ υ := fun r i h => (h2 r i h).trans (h1 r i h)
theorem slFr.mono {L M : List (Nat × Nat)} {σ τ : slM} (h1 : slFr L σ τ) (h : ∀ p ∈ L, p ∈ M) : slFr M σ τ := fun r i q => h1 r i (fun z => q (h _ z))
theorem slU_else {σ : slM} {r i k r' i' : Nat} {v : Int} (h : ¬ (r' = r ∧ i' = i)) : slU σ r i k v r' i' = σ r' i' := by
  funext k'
  unfold slU
  rw [if_neg (fun q => h ⟨q.1, q.2.1⟩)]
theorem slFr.up {L : List (Nat × Nat)} {σ τ : slM} {r i k : Nat} {v : Int} (h1 : slFr L σ τ) (h : (r, i) ∈ L) : slFr L σ (slU τ r i k v) := fun r' i' q => by
  rw [slU_else (fun z => q (by rw [z.1, z.2]; exact h))]
  exact h1 r' i' q
theorem slU_at {σ : slM} {r i k k' : Nat} {v : Int} : slU σ r i k v r i k' = if k' = k then v else σ r i k' := by
  unfold slU
  by_cases h : k' = k
  · simp [h]
  · simp [h]
theorem slU_ne {σ : slM} {r i k k' : Nat} {v : Int} (h : k' ≠ k) : slU σ r i k v r i k' = σ r i k' := by rw [slU_at, if_neg h]
/-! numbers -/
theorem sDiv_pos {a b : Int} (ha : 0 ≤ a) (ha' : a < 2147483648) (hb : 0 < b) (hb' : b < 2147483648) : Int32.ofInt a / Int32.ofInt b = Int32.ofInt (a / b) := by
  have q1 : 0 ≤ a / b := Int.ediv_nonneg ha (by omega)
  have q2 : a / b ≤ a := Int.ediv_le_self b ha
  apply Int32.toInt_inj.mp
  rw [Int32.toInt_div, i32_to ⟨by omega, by omega⟩, i32_to ⟨by omega, by omega⟩, i32_to ⟨by omega, by omega⟩, Int.tdiv_eq_ediv_of_nonneg ha]
  exact Int.bmod_eq_of_le (by omega) (by omega)
theorem sDiv_eq {a b : Int} (ha : 0 ≤ a) (ha' : a < 2147483648) (hb : 0 < b) (hb' : b < 2147483648) : sDiv a b = a / b := by
  have q1 : 0 ≤ a / b := Int.ediv_nonneg ha (by omega)
  have q2 : a / b ≤ a := Int.ediv_le_self b ha
  unfold sDiv
  rw [sDiv_pos ha ha' hb hb']
  exact i32_to ⟨by omega, by omega⟩
theorem sRem_eq {a b : Int} (ha : 0 ≤ a) (ha' : a < 2147483648) (hb : 0 < b) (hb' : b < 2147483648) : sRem a b = a % b := by
  have q1 : 0 ≤ a % b := Int.emod_nonneg a (by omega)
  have q2 : a % b < b := Int.emod_lt_of_pos a hb
  unfold sRem
  rw [sDiv_pos ha ha' hb hb', ← Int32.ofInt_mul, ← Int32.ofInt_sub, i32_to]
  · rw [Int.emod_def, Int.mul_comm]
  · rw [Int.mul_comm, ← Int.emod_def]
    exact ⟨by omega, by omega⟩
theorem ab_mod {a b : Int} (hb : 0 < b) : 0 ≤ a % b ∧ a % b < b := ⟨Int.emod_nonneg a (by omega), Int.emod_lt_of_pos a hb⟩
/-! bits of small numbers -/
def abBit (m l : Int) : Int := m / 2 ^ l.toNat % 2
theorem sBit {m l : Int} (hm : 0 ≤ m) (hm' : m < 256) (hl : 0 ≤ l) (hl' : l < 8) : sAnd (sShr m l) 1 = abBit m l := by
  obtain ⟨a, rfl⟩ := Int.eq_ofNat_of_zero_le hm
  obtain ⟨b, rfl⟩ := Int.eq_ofNat_of_zero_le hl
  exact (by decide +kernel : ∀ a, a < 256 → ∀ b, b < 8 → sAnd (sShr ((a : Nat) : Int) ((b : Nat) : Int)) 1 = abBit (a : Int) (b : Int)) a (by omega) b (by omega)
theorem abBit01 (m l : Int) : abBit m l = 0 ∨ abBit m l = 1 := by unfold abBit; omega
noncomputable def abIf (p : Prop) (a b : Int) : Int := @ite Int p (Classical.propDecidable p) a b
theorem abIf_t {p : Prop} {a b : Int} (h : p) : abIf p a b = a := if_pos h
theorem abIf_f {p : Prop} {a b : Int} (h : ¬ p) : abIf p a b = b := if_neg h
theorem abIf_c {p q : Prop} {a b : Int} (h : p ↔ q) : abIf p a b = abIf q a b := by rw [propext h]
theorem abIf_01 {p : Prop} : abIf p 1 0 = 0 ∨ abIf p 1 0 = 1 := by
  by_cases h : p
  · exact Or.inr (abIf_t h)
  · exact Or.inl (abIf_f h)
noncomputable def abMask (f : Int → Prop) : Nat → Int
  | 0 => 0
  | n + 1 => abMask f n + abIf (f n) (2 ^ n) 0
noncomputable def abSum (f : Int → Int) : Nat → Int
  | 0 => 0
  | n + 1 => abSum f n + f n
theorem abSum_s {f : Int → Int} {y : Int} (h : 0 ≤ y) : abSum f (y + 1).toNat = abSum f y.toNat + f y := by
  obtain ⟨n, rfl⟩ := Int.eq_ofNat_of_zero_le h
  have : ((n : Int) + 1).toNat = n + 1 := by omega
  rw [this, Int.toNat_natCast]
  rfl
theorem abSum_c {f g : Int → Int} : ∀ {n : Nat}, (∀ k : Int, 0 ≤ k → k < n → f k = g k) → abSum f n = abSum g n
  | 0, _ => rfl
  | n + 1, h => by
    show abSum f n + f n = abSum g n + g n
    rw [abSum_c (fun k h1 h2 => h k h1 (by omega)), h n (by omega) (by omega)]
theorem abSum_le {f : Int → Int} {B : Int} : ∀ {n : Nat}, (∀ k : Int, 0 ≤ k → k < n → 0 ≤ f k ∧ f k ≤ B) → 0 ≤ abSum f n ∧ abSum f n ≤ B * n
  | 0, _ => by show (0 : Int) ≤ 0 ∧ (0 : Int) ≤ B * ((0 : Nat) : Int); simp
  | n + 1, h => by
    have a := abSum_le (n := n) (fun k h1 h2 => h k h1 (by omega))
    have b := h n (by omega) (by omega)
    show 0 ≤ abSum f n + f n ∧ abSum f n + f n ≤ B * ((n + 1 : Nat) : Int)
    have e : B * ((n + 1 : Nat) : Int) = B * (n : Int) + B := by rw [Int.natCast_succ, Int.mul_add, Int.mul_one]
    omega
theorem abMask_s {f : Int → Prop} {y : Int} (h : 0 ≤ y) : abMask f (y + 1).toNat = abMask f y.toNat + abIf (f y) (2 ^ y.toNat) 0 := by
  obtain ⟨n, rfl⟩ := Int.eq_ofNat_of_zero_le h
  have : ((n : Int) + 1).toNat = n + 1 := by omega
  rw [this, Int.toNat_natCast]
  rfl
theorem abMask_c {f g : Int → Prop} : ∀ {n : Nat}, (∀ k : Int, 0 ≤ k → k < n → (f k ↔ g k)) → abMask f n = abMask g n
  | 0, _ => rfl
  | n + 1, h => by
    show abMask f n + abIf (f n) (2 ^ n) 0 = abMask g n + abIf (g n) (2 ^ n) 0
    rw [abMask_c (fun k h1 h2 => h k h1 (by omega)), abIf_c (h n (by omega) (by omega))]
theorem abMask_r {f : Int → Prop} : ∀ {n : Nat}, 0 ≤ abMask f n ∧ abMask f n < 2 ^ n
  | 0 => ⟨Int.le_refl _, by show (0 : Int) < 2 ^ 0; decide⟩
  | n + 1 => by
    have a := abMask_r (f := f) (n := n)
    show 0 ≤ abMask f n + abIf (f n) (2 ^ n) 0 ∧ abMask f n + abIf (f n) (2 ^ n) 0 < 2 ^ (n + 1)
    have e : (2 : Int) ^ (n + 1) = 2 ^ n * 2 := Int.pow_succ 2 n
    by_cases q : f n
    · rw [abIf_t q]; omega
    · rw [abIf_f q]; omega
theorem abPow8 {n : Nat} (h : n ≤ 8) : (2 : Int) ^ n ≤ 256 := (by decide : ∀ n, n ≤ 8 → (2 : Int) ^ n ≤ 256) n h
theorem abPow5 {n : Nat} (h : n ≤ 5) : (2 : Int) ^ n ≤ 32 := (by decide : ∀ n, n ≤ 5 → (2 : Int) ^ n ≤ 32) n h
theorem abMask_8 {f : Int → Prop} {n : Nat} (h : n ≤ 8) : 0 ≤ abMask f n ∧ abMask f n < 256 := ⟨abMask_r.1, Int.lt_of_lt_of_le abMask_r.2 (abPow8 h)⟩
theorem abMask_5 {f : Int → Prop} {n : Nat} (h : n ≤ 5) : 0 ≤ abMask f n ∧ abMask f n < 32 := ⟨abMask_r.1, Int.lt_of_lt_of_le abMask_r.2 (abPow5 h)⟩
theorem sOrBit : ∀ n, n < 8 → ∀ m, m < 2 ^ n → sOr ((m : Nat) : Int) (sShl 1 ((n : Nat) : Int)) = (m : Int) + 2 ^ n := by decide +kernel
theorem sOr_0 : ∀ m, m < 256 → sOr ((m : Nat) : Int) 0 = (m : Int) := by decide +kernel
theorem abMask_or {f : Int → Prop} {y : Int} (h : 0 ≤ y) (h8 : y < 8) : sOr (abMask f y.toNat) (sShl 1 y) = abMask f y.toNat + 2 ^ y.toNat := by
  obtain ⟨n, rfl⟩ := Int.eq_ofNat_of_zero_le h
  obtain ⟨m, e⟩ := Int.eq_ofNat_of_zero_le (abMask_r (f := f) (n := n)).1
  have q := (abMask_r (f := f) (n := n)).2
  rw [Int.toNat_natCast, e]
  rw [e] at q
  exact sOrBit n (by omega) m (by exact_mod_cast q)
theorem sShl_1 {y : Int} (h : 0 ≤ y) (h8 : y < 8) : sShl 1 y = 2 ^ y.toNat := by
  obtain ⟨n, rfl⟩ := Int.eq_ofNat_of_zero_le h
  exact (by decide +kernel : ∀ n, n < 8 → sShl 1 ((n : Nat) : Int) = 2 ^ (((n : Nat) : Int)).toNat) n (by omega)
theorem abBit_lo : ∀ n, n < 8 → ∀ m, m < 2 ^ n → ∀ l, l < n → (abBit ((m : Nat) + 2 ^ n) ((l : Nat) : Int) = abBit (m : Int) (l : Int)) := by decide +kernel
theorem abBit_hi : ∀ n, n < 8 → ∀ m, m < 2 ^ n → (abBit ((m : Nat) + 2 ^ n) ((n : Nat) : Int) = 1 ∧ abBit (m : Int) (n : Int) = 0) := by decide +kernel
theorem abMask_bitN {f : Int → Prop} : ∀ {n : Nat}, n ≤ 8 → ∀ l, l < n → abBit (abMask f n) ((l : Nat) : Int) = abIf (f l) 1 0
  | 0, _, l, h => absurd h (by omega)
  | n + 1, h8, l, h => by
    show abBit (abMask f n + abIf (f n) (2 ^ n) 0) _ = _
    obtain ⟨m, e⟩ := Int.eq_ofNat_of_zero_le (abMask_r (f := f) (n := n)).1
    have q := (abMask_r (f := f) (n := n)).2
    have ih := abMask_bitN (f := f) (n := n) (by omega) l
    rw [e] at q ih
    rw [e]
    have q' : m < 2 ^ n := by exact_mod_cast q
    by_cases z : l = n
    · subst z
      have w := abBit_hi l (by omega) m q'
      by_cases p : f (l : Int)
      · rw [abIf_t p, abIf_t p]; exact w.1
      · rw [abIf_f p, abIf_f p, Int.add_zero]; exact w.2
    · rw [← ih (by omega)]
      by_cases p : f (n : Int)
      · rw [abIf_t p]; exact abBit_lo n (by omega) m q' l (by omega)
      · rw [abIf_f p, Int.add_zero]
theorem abMask_bit {f : Int → Prop} {n : Nat} (h8 : n ≤ 8) {l : Int} (h : 0 ≤ l) (h' : l < n) : abBit (abMask f n) l = abIf (f l) 1 0 := by
  obtain ⟨k, rfl⟩ := Int.eq_ofNat_of_zero_le h
  exact abMask_bitN h8 k (by omega)
theorem abMask_tst {f : Int → Prop} {n : Nat} (h8 : n ≤ 8) {l : Int} (h : 0 ≤ l) (h' : l < n) : sAnd (sShr (abMask f n) l) 1 = abIf (f l) 1 0 := by
  have r := abMask_8 (f := f) h8
  rw [sBit r.1 r.2 h (by omega), abMask_bit h8 h h']
theorem abMask_0 {f : Int → Prop} : ∀ {n : Nat}, (abMask f n = 0 ↔ ∀ k : Int, 0 ≤ k → k < n → ¬ f k)
  | 0 => ⟨fun _ k h1 h2 => absurd h2 (by omega), fun _ => rfl⟩
  | n + 1 => by
    have a := abMask_r (f := f) (n := n)
    have ih := abMask_0 (f := f) (n := n)
    have p2 : (0 : Int) < 2 ^ n := Int.pow_pos (by omega)
    show abMask f n + abIf (f n) (2 ^ n) 0 = 0 ↔ _
    by_cases q : f n
    · rw [abIf_t q]
      exact ⟨fun h => by omega, fun h => absurd q (h n (by omega) (by omega))⟩
    · rw [abIf_f q, Int.add_zero, ih]
      refine ⟨fun h k h1 h2 => ?_, fun h k h1 h2 => h k h1 (by omega)⟩
      by_cases e : k = n
      · rw [e]; exact q
      · exact h k h1 (by omega)
theorem sNz {m : Int} (h : 0 ≤ m) (h' : m < 32) : sAnd m 31 = m := by
  obtain ⟨a, rfl⟩ := Int.eq_ofNat_of_zero_le h
  exact (by decide +kernel : ∀ a, a < 32 → sAnd ((a : Nat) : Int) 31 = (a : Int)) a (by omega)
