/-! ===== signs: which lights must differ, the fewest signs, couples taken for each other ===== -/
def gtB (m v l : Nat) : Bool :=
  decide (0 ≤ sOr ((m : Nat) : Int) (sAnd ((v : Nat) : Int) (sXor (sShl 1 ((l : Nat) : Int)) (-1))) ∧ sOr ((m : Nat) : Int) (sAnd ((v : Nat) : Int) (sXor (sShl 1 ((l : Nat) : Int)) (-1))) < 32) &&
  (List.range 5).all (fun k => decide (abBit (sOr ((m : Nat) : Int) (sAnd ((v : Nat) : Int) (sXor (sShl 1 ((l : Nat) : Int)) (-1)))) ((k : Nat) : Int) = 1) == (decide (abBit (m : Int) (k : Int) = 1) || (!(k == l) && decide (abBit (v : Int) (k : Int) = 1))))
set_option maxHeartbeats 8000000 in
set_option maxRecDepth 100000 in
theorem gtB_t : ∀ m, m < 32 → ∀ v, v < 32 → ∀ l, l < 5 → gtB m v l = true := by decide +kernel
def anB (m v : Nat) : Bool :=
  (decide (sAnd ((m : Nat) : Int) ((v : Nat) : Int) = 0) == (List.range 5).all (fun k => !(decide (abBit (m : Int) (k : Int) = 1) && decide (abBit (v : Int) (k : Int) = 1)))) &&
  (decide (sAnd ((m : Nat) : Int) ((v : Nat) : Int) = (m : Int)) == (List.range 5).all (fun k => !(decide (abBit (m : Int) (k : Int) = 1)) || decide (abBit (v : Int) (k : Int) = 1))) &&
  decide (0 ≤ sAnd ((m : Nat) : Int) (sXor ((v : Nat) : Int) (-1)) ∧ sAnd ((m : Nat) : Int) (sXor ((v : Nat) : Int) (-1)) ≤ (m : Int)) &&
  (List.range 5).all (fun k => decide (abBit (sAnd ((m : Nat) : Int) (sXor ((v : Nat) : Int) (-1))) ((k : Nat) : Int) = 1) == (decide (abBit (m : Int) (k : Int) = 1) && !(decide (abBit (v : Int) (k : Int) = 1))))
set_option maxHeartbeats 8000000 in
set_option maxRecDepth 100000 in
theorem anB_t : ∀ m, m < 32 → ∀ v, v < 32 → anB m v = true := by decide +kernel
theorem ab_nat {a : Int} {n : Nat} (h : 0 ≤ a ∧ a < n) : ∃ k : Nat, k < n ∧ a = (k : Int) := ⟨a.toNat, by omega, by omega⟩
theorem ab_or {m v l : Int} (hm : 0 ≤ m ∧ m < 32) (hv : 0 ≤ v ∧ v < 32) (hl : 0 ≤ l ∧ l < 5) : (0 ≤ sOr m (sAnd v (sXor (sShl 1 l) (-1))) ∧ sOr m (sAnd v (sXor (sShl 1 l) (-1))) < 32) ∧ ∀ k : Int, 0 ≤ k → k < 5 → (abBit (sOr m (sAnd v (sXor (sShl 1 l) (-1)))) k = 1 ↔ abBit m k = 1 ∨ (k ≠ l ∧ abBit v k = 1)) := by
  obtain ⟨m, h1, rfl⟩ := ab_nat (n := 32) hm
  obtain ⟨v, h2, rfl⟩ := ab_nat (n := 32) hv
  obtain ⟨l, h3, rfl⟩ := ab_nat (n := 5) hl
  have t := gtB_t m h1 v h2 l h3
  unfold gtB at t
  rw [Bool.and_eq_true, decide_eq_true_eq, List.all_eq_true] at t
  refine ⟨t.1, fun k k0 k5 => ?_⟩
  obtain ⟨k, h4, rfl⟩ := ab_nat (n := 5) ⟨k0, k5⟩
  have t2 := t.2 k (List.mem_range.mpr h4)
  rw [beq_iff_eq] at t2
  rw [← decide_eq_true_eq (p := abBit (sOr ((m : Nat) : Int) (sAnd ((v : Nat) : Int) (sXor (sShl 1 ((l : Nat) : Int)) (-1)))) ((k : Nat) : Int) = 1), t2, Bool.or_eq_true, Bool.and_eq_true, decide_eq_true_eq, decide_eq_true_eq]
  have : ((!(k == l)) = true ↔ (k : Int) ≠ (l : Int)) := by simp [Int.ofNat_inj]
  rw [this]
theorem ab_an {m v : Int} (hm : 0 ≤ m ∧ m < 32) (hv : 0 ≤ v ∧ v < 32) : (sAnd m v = 0 ↔ ∀ k : Int, 0 ≤ k → k < 5 → ¬ (abBit m k = 1 ∧ abBit v k = 1)) ∧ (sAnd m v = m ↔ ∀ k : Int, 0 ≤ k → k < 5 → abBit m k = 1 → abBit v k = 1) ∧ (0 ≤ sAnd m (sXor v (-1)) ∧ sAnd m (sXor v (-1)) ≤ m) ∧ ∀ k : Int, 0 ≤ k → k < 5 → (abBit (sAnd m (sXor v (-1))) k = 1 ↔ abBit m k = 1 ∧ ¬ abBit v k = 1) := by
  obtain ⟨m, h1, rfl⟩ := ab_nat (n := 32) hm
  obtain ⟨v, h2, rfl⟩ := ab_nat (n := 32) hv
  have t := anB_t m h1 v h2
  unfold anB at t
  rw [Bool.and_eq_true, Bool.and_eq_true, Bool.and_eq_true, beq_iff_eq, beq_iff_eq, decide_eq_true_eq, List.all_eq_true] at t
  obtain ⟨⟨⟨t1, t2⟩, t3⟩, t4⟩ := t
  refine ⟨?_, ?_, t3, fun k k0 k5 => ?_⟩
  · rw [← decide_eq_true_eq (p := sAnd ((m : Nat) : Int) ((v : Nat) : Int) = 0), t1, List.all_eq_true]
    constructor
    · intro h k k0 k5
      obtain ⟨k, h4, rfl⟩ := ab_nat (n := 5) ⟨k0, k5⟩
      have := h k (List.mem_range.mpr h4)
      rintro ⟨a, b⟩
      rw [decide_eq_true a, decide_eq_true b] at this
      exact absurd this (by decide)
    · intro h k hk
      have := h (k : Int) (by omega) (by have := List.mem_range.mp hk; omega)
      by_cases a : abBit (m : Int) (k : Int) = 1
      · have b : ¬ abBit (v : Int) (k : Int) = 1 := fun z => this ⟨a, z⟩
        rw [decide_eq_true a, decide_eq_false b]; rfl
      · rw [decide_eq_false a]; rfl
  · rw [← decide_eq_true_eq (p := sAnd ((m : Nat) : Int) ((v : Nat) : Int) = (m : Int)), t2, List.all_eq_true]
    constructor
    · intro h k k0 k5 a
      obtain ⟨k, h4, rfl⟩ := ab_nat (n := 5) ⟨k0, k5⟩
      have := h k (List.mem_range.mpr h4)
      rw [decide_eq_true a] at this
      exact of_decide_eq_true this
    · intro h k hk
      by_cases a : abBit (m : Int) (k : Int) = 1
      · rw [decide_eq_true a, decide_eq_true (h (k : Int) (by omega) (by have := List.mem_range.mp hk; omega) a)]; rfl
      · rw [decide_eq_false a]; rfl
  · obtain ⟨k, h4, rfl⟩ := ab_nat (n := 5) ⟨k0, k5⟩
    have t5 := t4 k (List.mem_range.mpr h4)
    rw [beq_iff_eq] at t5
    rw [← decide_eq_true_eq (p := abBit (sAnd ((m : Nat) : Int) (sXor ((v : Nat) : Int) (-1))) ((k : Nat) : Int) = 1), t5, Bool.and_eq_true, decide_eq_true_eq]
    by_cases a : abBit (v : Int) (k : Int) = 1
    · rw [decide_eq_true a]; simp [a]
    · rw [decide_eq_false a]; simp [a]
theorem abMask_1 {p : Int → Prop} {k : Int} (h0 : 0 ≤ k) (h5 : k < 5) : abBit (abMask p 5) k = 1 ↔ p k := by
  rw [abMask_bit (by decide) h0 (by omega)]
  constructor
  · intro h
    exact abIf_nz (by omega)
  · intro h
    exact abIf_t h
theorem ab_ext {a b : Int} (ha : 0 ≤ a ∧ a < 32) (hb : 0 ≤ b ∧ b < 32) (h : ∀ k : Int, 0 ≤ k → k < 5 → (abBit a k = 1 ↔ abBit b k = 1)) : a = b := by
  have key : ∀ a : Int, 0 ≤ a → a < 32 → a = abBit a 0 + 2 * abBit a 1 + 4 * abBit a 2 + 8 * abBit a 3 + 16 * abBit a 4 := fun a h0 h1 => by
    show a = a / 1 % 2 + 2 * (a / 2 % 2) + 4 * (a / 4 % 2) + 8 * (a / 8 % 2) + 16 * (a / 16 % 2)
    omega
  have e : ∀ k : Int, 0 ≤ k → k < 5 → abBit a k = abBit b k := fun k h0 h5 => by
    have := h k h0 h5
    have := abBit01 a k
    have := abBit01 b k
    omega
  rw [key a ha.1 ha.2, key b hb.1 hb.2, e 0 (by omega) (by omega), e 1 (by omega) (by omega), e 2 (by omega) (by omega), e 3 (by omega) (by omega), e 4 (by omega) (by omega)]
theorem ab_gt {p : Int → Prop} {v l : Int} (hv : 0 ≤ v ∧ v < 32) (hl : 0 ≤ l ∧ l < 5) : sOr (abMask p 5) (sAnd v (sXor (sShl 1 l) (-1))) = abMask (fun k => p k ∨ (k ≠ l ∧ abBit v k = 1)) 5 := by
  have r := abMask_5 (f := p) (n := 5) (by decide)
  have o := ab_or r hv hl
  refine ab_ext o.1 (abMask_5 (by decide)) (fun k k0 k5 => ?_)
  rw [o.2 k k0 k5, abMask_1 k0 k5, abMask_1 k0 k5]
/-- both lights are seen together, from some ship in some hour of R -/
def abAd (R : Int → Int → Prop) (V : Int → Int → Int) (l k : Int) : Prop := k ≠ l ∧ ∃ s h, R s h ∧ abBit (V s h) l = 1 ∧ abBit (V s h) k = 1
def isF (r : Nat) (L : Int) (R : Int → Int → Prop) (V : Int → Int → Int) (σ : slM) : Prop := ∀ l : Int, 0 ≤ l → l < L → σ r 0 l.toNat = abMask (abAd R V l) 5
theorem isF.c {r : Nat} {L : Int} {R R' : Int → Int → Prop} {V : Int → Int → Int} {σ τ : slM} (h : isF r L R V σ) (e : τ r 0 = σ r 0) (q : ∀ s h, (R s h → R' s h) ∧ (R' s h → R s h ∨ V s h = 0)) : isF r L R' V τ := fun l a b => by
  rw [e, h l a b]
  refine abMask_c (fun k _ _ => ⟨fun z => ?_, fun z => ?_⟩)
  · obtain ⟨ne, s, x, p1, p2, p3⟩ := z
    exact ⟨ne, s, x, (q s x).1 p1, p2, p3⟩
  · obtain ⟨ne, s, x, p1, p2, p3⟩ := z
    rcases (q s x).2 p1 with w | w
    · exact ⟨ne, s, x, w, p2, p3⟩
    · rw [w] at p2
      unfold abBit at p2
      rw [Int.zero_ediv] at p2
      exact absurd p2 (by decide)
set_option maxHeartbeats 1000000 in
set_option maxRecDepth 4000 in
theorem sp_X2_gatherFrom {G : slG} (hG : slGood G) {d K : Nat} (hd : 0 ≤ d) (hK : 0 ≤ K) {Φ : slPost} {σ : slM} {x1 : Int} {x2 : Int} {p : Int → Int → Prop} (hv : 0 ≤ x1 ∧ x1 < 32) (h2 : 0 ≤ x2 ∧ x2 ≤ 5) (hf : ∀ l : Int, 0 ≤ l → l < x2 → σ 33 0 l.toNat = abMask (p l) 5) (h : ∀ τ, slFr [(33, 0)] σ τ → (∀ l : Int, 0 ≤ l → l < x2 → τ 33 0 l.toNat = abMask (fun k => p l k ∨ (abBit x1 l = 1 ∧ k ≠ l ∧ abBit x1 k = 1)) 5) → Φ (0, 0) τ) :
    slCall G mX2_gatherFrom d K [sR 2 0, sI x1, sI x2] σ Φ := by
  refine vc_X2_gatherFrom hG (by omega) hK (fun μ y3 σ' => slFr [(33, 0)] σ σ' ∧ μ = ((x2 - y3).toNat, 0, 0) ∧ (0 ≤ y3 ∧ y3 ≤ x2) ∧ (∀ l : Int, y3 ≤ l → l < x2 → σ' 33 0 l.toNat = abMask (p l) 5) ∧ ∀ l : Int, 0 ≤ l → l < y3 → σ' 33 0 l.toNat = abMask (fun k => p l k ∨ (abBit x1 l = 1 ∧ k ≠ l ∧ abBit x1 k = 1)) 5) ?_ ?_
  · exact ⟨_, slFr.id, rfl, ⟨by omega, by omega⟩, hf, fun l a b => by omega⟩
  · rintro μ y3 σ' ⟨fr, rfl, hy, c1, c2⟩
    have lt : ¬ x2 ≤ y3 → slLt ((x2 - (y3 + 1)).toNat, 0, 0) ((x2 - y3).toNat, 0, 0) := fun q => Or.inl (by show (x2 - (y3 + 1)).toNat < (x2 - y3).toNat; omega)
    refine ⟨⟨⟨by omega, by omega⟩, by omega, by omega⟩, fun q => h σ' fr (fun l a b => c2 l a (by omega)), fun q => ?_⟩
    rw [sBit hv.1 (by omega) hy.1 (by omega)]
    have b01 := abBit01 x1 y3
    refine ⟨⟨by omega, by omega⟩, fun z => ⟨_, lt q, fr, rfl, ⟨by omega, by omega⟩, fun l a b => c1 l (by omega) b, fun l a b => ?_⟩, fun z => ⟨⟨by omega, by omega⟩, ⟨by omega, by omega⟩, _, lt q, fr.up (by simp), rfl, ⟨by omega, by omega⟩, fun l a b => ?_, fun l a b => ?_⟩⟩
    · by_cases e : l = y3
      · rw [e, c1 y3 (by omega) (by omega)]
        exact abMask_c (fun k _ _ => ⟨fun w => Or.inl w, fun w => w.elim id (fun u => absurd u.1 z)⟩)
      · exact c2 l a (by omega)
    · rw [slU_ne (by omega)]; exact c1 l (by omega) b
    · by_cases e : l = y3
      · rw [e, slU_same, c1 y3 (by omega) (by omega), ab_gt hv ⟨by omega, by omega⟩]
        exact abMask_c (fun k _ _ => ⟨fun w => w.elim Or.inl (fun u => Or.inr ⟨z, u⟩), fun w => w.elim Or.inl (fun u => Or.inr u.2)⟩)
      · rw [slU_ne (by omega)]; exact c2 l a (by omega)
def abR1 (n s h : Int) : Int → Int → Prop := fun s' h' => 0 ≤ s' ∧ 24 * n ≤ h' ∧ h' < 24 * n + 24 ∧ (s' < s ∨ (s' = s ∧ h' < h))
theorem abR1_s {n s h : Int} {V : Int → Int → Int} {l k : Int} (hs : 0 ≤ s) (h0 : 24 * n ≤ h) (h1 : h < 24 * n + 24) : abAd (abR1 n s (h + 1)) V l k ↔ (abAd (abR1 n s h) V l k ∨ (abBit (V s h) l = 1 ∧ k ≠ l ∧ abBit (V s h) k = 1)) := by
  constructor
  · rintro ⟨ne, s', h', ⟨a, b, c, d⟩, p2, p3⟩
    by_cases e : s' = s ∧ h' = h
    · rw [e.1, e.2] at p2 p3
      exact Or.inr ⟨p2, ne, p3⟩
    · exact Or.inl ⟨ne, s', h', ⟨a, b, c, by omega⟩, p2, p3⟩
  · rintro (⟨ne, s', h', ⟨a, b, c, d⟩, p2, p3⟩ | ⟨p2, ne, p3⟩)
    · exact ⟨ne, s', h', ⟨a, b, c, by omega⟩, p2, p3⟩
    · exact ⟨ne, s, h, ⟨hs, h0, h1, by omega⟩, p2, p3⟩
set_option maxHeartbeats 1000000 in
set_option maxRecDepth 4000 in
theorem sp_X2_gather {G : slG} (hG : slGood G) {d K : Nat} (hd : 1 ≤ d) (hK : 0 ≤ K) {Φ : slPost} {σ : slM} {c : Nat} {k : Nat} {x3 : Int} {V : Int → Int → Int} {P : abP} (hP : isC c P σ) (hC : gdC P) (h3 : 0 ≤ x3 ∧ x3 < 10) (hk : k ≤ 1) (hV : ∀ s h : Int, 0 ≤ s → s < P 1 4 → 0 ≤ h → h < 240 → σ 36 k (s * 240 + h).toNat = V s h ∧ 0 ≤ V s h ∧ V s h < 32) (hz : ∀ s h : Int, h % 24 < 12 → V s h = 0) (h : ∀ τ, slFr [(33, 0)] σ τ → isF 33 (P 1 3) (abR1 x3 (P 1 4) 0) V τ → Φ (0, 0) τ) :
    slCall G mX2_gather d K [sR 2 0, sR 1 c, sR 3 k, sI x3] σ Φ := by
  refine vc_X2_gather hG (by omega) hK (fun μ y4 σ' => slFr [(33, 0)] σ σ' ∧ μ = (100, (P 1 3 - y4).toNat, 0) ∧ (0 ≤ y4 ∧ y4 ≤ P 1 3) ∧ ∀ l : Int, 0 ≤ l → l < y4 → σ' 33 0 l.toNat = 0) (fun μ y4 σ' => slFr [(33, 0)] σ σ' ∧ μ = ((P 1 4 - y4).toNat, 1000, 0) ∧ (0 ≤ y4 ∧ y4 ≤ P 1 4) ∧ isF 33 (P 1 3) (abR1 x3 y4 0) V σ') (fun μ y4 y5 σ' => slFr [(33, 0)] σ σ' ∧ μ = ((P 1 4 - y4).toNat, (24 * x3 + 24 - y5).toNat, 0) ∧ (0 ≤ y4 ∧ y4 < P 1 4) ∧ (24 * x3 + 12 ≤ y5 ∧ y5 ≤ 24 * x3 + 24) ∧ isF 33 (P 1 3) (abR1 x3 y4 y5) V σ') ?_ ?_ ?_ ?_
  · have a3 := hC.2.2.2.1
    exact ⟨_, slFr.id, rfl, ⟨by omega, by omega⟩, fun l a b => by omega⟩
  · have a3 := hC.2.2.2.1
    have a4 := hC.2.2.2.2.1
    rintro μ y4 σ' ⟨fr, rfl, hy, c1⟩
    rw [(hP.fr fr (by simp [chR])).1]
    refine ⟨⟨⟨by omega, by omega⟩, by omega, by omega⟩, fun q => ⟨((P 1 4 - 0).toNat, 1000, 0), Or.inl (by show (P 1 4 - 0).toNat < 100; omega), fr, rfl, ⟨by omega, by omega⟩, fun l a b => ?_⟩, fun q => ⟨⟨by omega, by omega⟩, (100, (P 1 3 - (y4 + 1)).toNat, 0), Or.inr ⟨rfl, Or.inl (by show (P 1 3 - (y4 + 1)).toNat < (P 1 3 - y4).toNat; omega)⟩, fr.up (by simp), rfl, ⟨by omega, by omega⟩, fun l a b => ?_⟩⟩
    · rw [c1 l a (by omega)]
      symm
      refine abMask_0.mpr (fun k _ _ z => ?_)
      obtain ⟨ne, s, x, p1, -⟩ := z
      unfold abR1 at p1
      omega
    · by_cases e : l = y4
      · rw [e, slU_same]
      · rw [slU_ne (by omega)]; exact c1 l a (by omega)
  · have a3 := hC.2.2.2.1
    have a4 := hC.2.2.2.2.1
    rintro μ y4 σ' ⟨fr, rfl, hy, c1⟩
    rw [(hP.fr fr (by simp [chR])).1]
    refine ⟨⟨⟨by omega, by omega⟩, by omega, by omega⟩, fun q => h σ' fr (c1.c rfl (fun s x => ?_)), fun q => ⟨((P 1 4 - y4).toNat, (24 * x3 + 24 - (x3 * 24 + 12)).toNat, 0), Or.inr ⟨rfl, Or.inl (by show (24 * x3 + 24 - (x3 * 24 + 12)).toNat < 1000; omega)⟩, fr, rfl, ⟨by omega, by omega⟩, ⟨by omega, by omega⟩, c1.c rfl (fun s x => ?_)⟩⟩
    · rw [show P 1 4 = y4 by omega]
      exact ⟨id, Or.inl⟩
    · unfold abR1
      refine ⟨fun z => ⟨z.1, z.2.1, z.2.2.1, by omega⟩, fun z => ?_⟩
      by_cases w : x % 24 < 12
      · exact Or.inr (hz s x w)
      · exact Or.inl ⟨z.1, z.2.1, z.2.2.1, by omega⟩
  · have a3 := hC.2.2.2.1
    have a4 := hC.2.2.2.2.1
    rintro μ y4 y5 σ' ⟨fr, rfl, hy, hy5, c1⟩
    refine ⟨⟨⟨by omega, by omega⟩, by omega, by omega⟩, fun q => ⟨((P 1 4 - (y4 + 1)).toNat, 1000, 0), Or.inl (by show (P 1 4 - (y4 + 1)).toNat < (P 1 4 - y4).toNat; omega), fr, rfl, ⟨by omega, by omega⟩, c1.c rfl (fun s x => ?_)⟩, fun q => ?_⟩
    · unfold abR1
      exact ⟨fun z => ⟨z.1, z.2.1, z.2.2.1, by omega⟩, fun z => Or.inl ⟨z.1, z.2.1, z.2.2.1, by omega⟩⟩
    · have v := hV y4 y5 hy.1 hy.2 (by omega) (by omega)
      refine sp_X3_sightsOf hG (by omega) (by omega) ⟨by omega, by omega⟩ ⟨by omega, by omega⟩ (slKt.ok ?_)
      rw [fr 36 k (by simp), v.1, (hP.fr fr (by simp [chR])).1]
      refine sp_X2_gatherFrom hG (by omega) (by omega) (p := abAd (abR1 x3 y4 y5) V) v.2 ⟨by omega, by omega⟩ c1 (fun τ f1 c2 => slKt.ok ⟨((P 1 4 - y4).toNat, (24 * x3 + 24 - (y5 + 1)).toNat, 0), Or.inr ⟨rfl, Or.inl (by show (24 * x3 + 24 - (y5 + 1)).toNat < (24 * x3 + 24 - y5).toNat; omega)⟩, fr.tr f1, rfl, hy, ⟨by omega, by omega⟩, fun l a b => ?_⟩)
      rw [c2 l a b]
      exact abMask_c (fun k _ _ => (abR1_s hy.1 (by omega) (by omega)).symm)
/-! colours -/
def abPc (A : Int → Int → Prop) (S : Int) : Prop := ∀ l k : Int, 0 ≤ l → l < 5 → 0 ≤ k → k < 5 → abBit S l = 1 → abBit S k = 1 → ¬ A l k
def abCl (A : Int → Int → Prop) (S n : Int) : Prop := ∃ f : Int → Int, (∀ l : Int, 0 ≤ l → l < 5 → abBit S l = 1 → 0 ≤ f l ∧ f l < n) ∧ ∀ l k : Int, 0 ≤ l → l < 5 → 0 ≤ k → k < 5 → abBit S l = 1 → abBit S k = 1 → A l k → f l ≠ f k
def isChr (A : Int → Int → Prop) (S v : Int) : Prop := (0 ≤ v ∧ v ≤ 5) ∧ abCl A S v ∧ ∀ n : Int, 0 ≤ n → abCl A S n → v ≤ n
noncomputable def abChr (A : Int → Int → Prop) (S : Int) : Int := @Classical.epsilon Int ⟨0⟩ (fun v => isChr A S v)
theorem isChr.eq {A : Int → Int → Prop} {S v : Int} (h : isChr A S v) : abChr A S = v := by
  have q : isChr A S (abChr A S) := @Classical.epsilon_spec Int (fun v => isChr A S v) ⟨v, h⟩
  have a := h.2.2 _ q.1.1 q.2.1
  have b := q.2.2 _ h.1.1 h.2.1
  omega
theorem abCl_5 {A : Int → Int → Prop} {S : Int} (hA : ∀ l k, A l k → k ≠ l) : abCl A S 5 := ⟨fun l => l, fun l a b _ => ⟨a, b⟩, fun l k _ _ _ _ _ _ z => fun e => hA l k z e.symm⟩
theorem isChr_0 {A : Int → Int → Prop} : isChr A 0 0 := by
  have z : ∀ l : Int, ¬ abBit 0 l = 1 := fun l => by
    unfold abBit
    rw [Int.zero_ediv]
    decide
  exact ⟨⟨by decide, by decide⟩, ⟨fun _ => 0, fun l _ _ w => absurd w (z l), fun l _ _ _ _ _ w => absurd w (z l)⟩, fun n a _ => a⟩
theorem ab_some {S : Int} (h : 0 ≤ S ∧ S < 32) (h0 : S ≠ 0) : ∃ l : Int, 0 ≤ l ∧ l < 5 ∧ abBit S l = 1 := by
  by_cases z : ∃ l : Int, 0 ≤ l ∧ l < 5 ∧ abBit S l = 1
  · exact z
  · refine absurd (ab_ext h (b := 0) ⟨by decide, by decide⟩ (fun k k0 k5 => ⟨fun w => absurd ⟨k, k0, k5, w⟩ z, fun w => ?_⟩)) h0
    unfold abBit at w
    rw [Int.zero_ediv] at w
    exact absurd w (by decide)
/-- one sign to some that are at peace, the rest with theirs -/
theorem abCl_add {A : Int → Int → Prop} {S a n : Int} (hS : 0 ≤ S ∧ S < 32) (ha : 0 ≤ a ∧ a < 32) (hA : ∀ l k, A l k → A k l) (n0 : 0 ≤ n) (hp : abPc A a) (hc : abCl A (sAnd S (sXor a (-1))) n) : abCl A S (1 + n) := by
  obtain ⟨f, f1, f2⟩ := hc
  have d := (ab_an hS ha).2.2.2
  refine ⟨fun l => if abBit a l = 1 then n else f l, fun l l0 l5 w => ?_, fun l k l0 l5 k0 k5 wl wk al => ?_⟩
  · show 0 ≤ (if abBit a l = 1 then n else f l) ∧ (if abBit a l = 1 then n else f l) < 1 + n
    by_cases z : abBit a l = 1
    · rw [if_pos z]; omega
    · rw [if_neg z]
      have := f1 l l0 l5 ((d l l0 l5).mpr ⟨w, z⟩)
      omega
  · show (if abBit a l = 1 then n else f l) ≠ (if abBit a k = 1 then n else f k)
    by_cases z : abBit a l = 1
    · by_cases y : abBit a k = 1
      · exact absurd al (hp l k l0 l5 k0 k5 z y)
      · rw [if_pos z, if_neg y]
        have := f1 k k0 k5 ((d k k0 k5).mpr ⟨wk, y⟩)
        omega
    · by_cases y : abBit a k = 1
      · rw [if_neg z, if_pos y]
        have := f1 l l0 l5 ((d l l0 l5).mpr ⟨wl, z⟩)
        omega
      · rw [if_neg z, if_neg y]
        exact f2 l k l0 l5 k0 k5 ((d l l0 l5).mpr ⟨wl, z⟩) ((d k k0 k5).mpr ⟨wk, y⟩) al
/-- and the other way round -/
theorem abCl_sub {A : Int → Int → Prop} {S n : Int} (hS : 0 ≤ S ∧ S < 32) (S0 : S ≠ 0) (hI : ∀ l, ¬ A l l) (hc : abCl A S n) : 1 ≤ n ∧ ∃ a, (1 ≤ a ∧ a ≤ S) ∧ sAnd a S = a ∧ abPc A a ∧ abCl A (sAnd S (sXor a (-1))) (n - 1) := by
  obtain ⟨f, f1, f2⟩ := hc
  obtain ⟨l0, q0, q5, w0⟩ := ab_some hS S0
  have n1 := f1 l0 q0 q5 w0
  have mk : ∀ p : Int → Prop, (∃ l : Int, 0 ≤ l ∧ l < 5 ∧ abBit S l = 1 ∧ p l) → (∀ l k : Int, 0 ≤ l → l < 5 → 0 ≤ k → k < 5 → abBit S l = 1 → abBit S k = 1 → p l → p k → ¬ A l k) → (∀ l : Int, 0 ≤ l → l < 5 → abBit S l = 1 → ¬ p l → f l < n - 1) → ∃ a, (1 ≤ a ∧ a ≤ S) ∧ sAnd a S = a ∧ abPc A a ∧ abCl A (sAnd S (sXor a (-1))) (n - 1) := by
    intro p e1 e2 e3
    have r := abMask_5 (f := fun l => abBit S l = 1 ∧ p l) (n := 5) (by decide)
    have bt : ∀ k : Int, 0 ≤ k → k < 5 → (abBit (abMask (fun l => abBit S l = 1 ∧ p l) 5) k = 1 ↔ abBit S k = 1 ∧ p k) := fun k k0 k5 => abMask_1 k0 k5
    generalize abMask (fun l => abBit S l = 1 ∧ p l) 5 = a at r bt
    have an := ab_an r hS
    have an2 := ab_an hS r
    have sub : sAnd a S = a := an.2.1.mpr (fun k k0 k5 w => ((bt k k0 k5).mp w).1)
    have le : a ≤ S := by
      have k1 : ∀ a : Nat, a < 32 → ∀ S : Nat, S < 32 → sAnd (a : Int) (S : Int) = (a : Int) → a ≤ S := by decide +kernel
      obtain ⟨x, hx, ex⟩ := ab_nat (n := 32) r
      obtain ⟨y, hy, ey⟩ := ab_nat (n := 32) hS
      rw [ex, ey] at sub ⊢
      have := k1 x hx y hy sub
      omega
    have ne : a ≠ 0 := fun z => by
      obtain ⟨l, a0, a5, w, pl⟩ := e1
      have := (bt l a0 a5).mpr ⟨w, pl⟩
      rw [z] at this
      unfold abBit at this
      rw [Int.zero_ediv] at this
      exact absurd this (by decide)
    refine ⟨a, ⟨by omega, le⟩, sub, fun l k x0 x5 k0 k5 wl wk => ?_, f, fun l x0 x5 w => ?_, fun l k x0 x5 k0 k5 wl wk al => ?_⟩
    · have pl := (bt l x0 x5).mp wl
      have pk := (bt k k0 k5).mp wk
      exact e2 l k x0 x5 k0 k5 pl.1 pk.1 pl.2 pk.2
    · have w2 := (an2.2.2.2 l x0 x5).mp w
      exact ⟨(f1 l x0 x5 w2.1).1, e3 l x0 x5 w2.1 (fun pl => w2.2 ((bt l x0 x5).mpr ⟨w2.1, pl⟩))⟩
    · exact f2 l k x0 x5 k0 k5 ((an2.2.2.2 l x0 x5).mp wl).1 ((an2.2.2.2 k k0 k5).mp wk).1 al
  refine ⟨by omega, ?_⟩
  by_cases z : ∃ l : Int, 0 ≤ l ∧ l < 5 ∧ abBit S l = 1 ∧ f l = n - 1
  · refine mk (fun l => f l = n - 1) z (fun l k x0 x5 k0 k5 wl wk pl pk al => f2 l k x0 x5 k0 k5 wl wk al (pl.trans pk.symm)) (fun l x0 x5 w pl => ?_)
    have := f1 l x0 x5 w
    have : ¬ f l = n - 1 := pl
    omega
  · refine mk (fun l => l = l0) ⟨l0, q0, q5, w0, rfl⟩ (fun l k x0 x5 k0 k5 wl wk pl pk al => ?_) (fun l x0 x5 w pl => ?_)
    · rw [show l = l0 from pl, show k = l0 from pk] at al
      exact hI l0 al
    · have := f1 l x0 x5 w
      have : ¬ f l = n - 1 := fun y => z ⟨l, x0, x5, w, y⟩
      omega
set_option maxHeartbeats 1000000 in
set_option maxRecDepth 4000 in
theorem sp_X2_isPeaceful {G : slG} (hG : slGood G) {d K : Nat} (hd : 0 ≤ d) (hK : 0 ≤ K) {Φ : slPost} {σ : slM} {x1 : Int} {x2 : Int} {A : Int → Int → Prop} (hv : 0 ≤ x1 ∧ x1 < 32) (h2 : 0 ≤ x2 ∧ x2 ≤ 5) (hs : x1 < 2 ^ x2.toNat) (hf : ∀ l : Int, 0 ≤ l → l < x2 → σ 33 0 l.toNat = abMask (A l) 5) (h : Φ (0, abIf (abPc A x1) 1 0) σ) :
    slCall G mX2_isPeaceful d K [sR 2 0, sI x1, sI x2] σ Φ := by
  refine vc_X2_isPeaceful hG (by omega) hK (fun μ y3 σ' => σ' = σ ∧ μ = ((x2 - y3).toNat, 0, 0) ∧ (0 ≤ y3 ∧ y3 ≤ x2) ∧ ∀ l k : Int, 0 ≤ l → l < y3 → 0 ≤ k → k < 5 → abBit x1 l = 1 → abBit x1 k = 1 → ¬ A l k) ?_ ?_
  · exact ⟨_, rfl, rfl, ⟨by omega, by omega⟩, fun l k a b => by omega⟩
  · rintro μ y3 σ' ⟨rfl, rfl, hy, al⟩
    have lt : ¬ x2 ≤ y3 → slLt ((x2 - (y3 + 1)).toNat, 0, 0) ((x2 - y3).toNat, 0, 0) := fun q => Or.inl (by show (x2 - (y3 + 1)).toNat < (x2 - y3).toNat; omega)
    refine ⟨⟨⟨by omega, by omega⟩, by omega, by omega⟩, fun q => ?_, fun q => ?_⟩
    · rw [abIf_t (show abPc A x1 from fun l k l0 l5 k0 k5 wl wk => ?_)] at h
      · exact h
      · by_cases z : l < y3
        · exact al l k l0 z k0 k5 wl wk
        · exfalso
          have e : x1 / 2 ^ l.toNat = 0 := by
            refine Int.ediv_eq_zero_of_lt hv.1 (Int.lt_of_lt_of_le hs ?_)
            have e1 := Nat.pow_le_pow_right (n := 2) (by decide) (show x2.toNat ≤ l.toNat by omega)
            exact_mod_cast e1
          unfold abBit at wl
          rw [e] at wl
          exact absurd wl (by decide)
    · rw [sBit hv.1 (by omega) hy.1 (by omega)]
      have b01 := abBit01 x1 y3
      refine ⟨⟨by omega, by omega⟩, fun z => ⟨_, lt q, rfl, rfl, ⟨by omega, by omega⟩, fun l k l0 l5 k0 k5 wl wk => ?_⟩, fun z => ⟨⟨by omega, by omega⟩, ?_⟩⟩
      · by_cases e : l = y3
        · rw [e] at wl; exact absurd wl z
        · exact al l k l0 (by omega) k0 k5 wl wk
      · rw [hf y3 hy.1 (by omega)]
        have an := (ab_an (abMask_5 (f := A y3) (n := 5) (by decide)) hv).1
        refine ⟨inAnd, fun w => ⟨_, lt q, rfl, rfl, ⟨by omega, by omega⟩, fun l k l0 l5 k0 k5 wl wk => ?_⟩, fun w => ?_⟩
        · by_cases e : l = y3
          · rw [e]
            exact fun t => an.mp w k k0 k5 ⟨(abMask_1 k0 k5).mpr t, wk⟩
          · exact al l k l0 (by omega) k0 k5 wl wk
        · rw [abIf_f (fun t => w (an.mpr (fun k k0 k5 u => t y3 k hy.1 (by omega) k0 k5 z u.2 ((abMask_1 k0 k5).mp u.1))))] at h
          exact h
theorem sShl_m {n : Int} (h : 0 ≤ n) (h5 : n ≤ 5) : sShl 1 n - 1 = 2 ^ n.toNat - 1 ∧ 0 ≤ (2 : Int) ^ n.toNat - 1 ∧ (2 : Int) ^ n.toNat - 1 < 32 := by
  have p5 := abPow5 (n := n.toNat) (by omega)
  have p2 : (0 : Int) < 2 ^ n.toNat := Int.pow_pos (by omega)
  rw [sShl_p h h5]
  exact ⟨rfl, by omega, by omega⟩
set_option maxHeartbeats 4000000 in
set_option maxRecDepth 4000 in
theorem sp_X2_fewestSigns {G : slG} (hG : slGood G) {d K : Nat} (hd : 20 ≤ d) (hK : 0 ≤ K) {Φ : slPost} {σ : slM} {x1 : Int} {A : Int → Int → Prop} (h1 : 0 ≤ x1 ∧ x1 ≤ 5) (hf : ∀ l : Int, 0 ≤ l → l < x1 → σ 33 0 l.toNat = abMask (A l) 5) (hA : ∀ l k, A l k → A k l) (hI : ∀ l, ¬ A l l) (h : ∀ τ, slFr [(34, 0)] σ τ → Φ (0, abChr A (2 ^ x1.toNat - 1)) τ) :
    slCall G mX2_fewestSigns d K [sR 2 0, sI x1] σ Φ := by
  refine vc_X2_fewestSigns hG (by omega) hK (fun μ y2 y3 σ' => slFr [(34, 0)] σ σ' ∧ y2 = 2 ^ x1.toNat - 1 ∧ μ = ((y2 + 1 - y3).toNat, 100, 0) ∧ (1 ≤ y3 ∧ y3 ≤ y2 + 1) ∧ ∀ S : Int, 0 ≤ S → S < y3 → isChr A S (σ' 34 0 S.toNat)) (fun μ y2 y3 y4 σ' => slFr [(34, 0)] σ σ' ∧ y2 = 2 ^ x1.toNat - 1 ∧ μ = ((y2 + 1 - y3).toNat, (y3 + 1 - y4).toNat, 0) ∧ (1 ≤ y3 ∧ y3 ≤ y2) ∧ (1 ≤ y4 ∧ y4 ≤ y3 + 1) ∧ (∀ S : Int, 0 ≤ S → S < y3 → isChr A S (σ' 34 0 S.toNat)) ∧ (0 ≤ σ' 34 0 y3.toNat ∧ σ' 34 0 y3.toNat ≤ 5) ∧ abCl A y3 (σ' 34 0 y3.toNat) ∧ ∀ a : Int, 1 ≤ a → a < y4 → sAnd a y3 = a → abPc A a → σ' 34 0 y3.toNat ≤ 1 + σ' 34 0 (sAnd y3 (sXor a (-1))).toNat) ?_ ?_ ?_
  · have m := sShl_m h1.1 h1.2
    refine ⟨_, slFr.id.up (by simp), m.1, rfl, ⟨by omega, by omega⟩, fun S a b => ?_⟩
    rw [show S = 0 by omega]
    show isChr A 0 (slU σ 34 0 0 0 34 0 0)
    rw [slU_same]
    exact isChr_0
  · have m := sShl_m h1.1 h1.2
    rintro μ y2 y3 σ' ⟨fr, rfl, rfl, hy, al⟩
    refine ⟨⟨⟨by omega, by omega⟩, by omega, by omega⟩, fun q => ⟨⟨by omega, by omega⟩, ?_⟩, fun q => ⟨⟨by omega, by omega⟩, ((2 ^ x1.toNat - 1 + 1 - y3).toNat, (y3 + 1 - 1).toNat, 0), Or.inr ⟨rfl, Or.inl (by show (y3 + 1 - 1).toNat < 100; omega)⟩, fr.up (by simp), rfl, rfl, ⟨by omega, by omega⟩, ⟨by omega, by omega⟩, fun S a b => ?_, ?_, ?_, fun a b c => by omega⟩⟩
    · have k := h σ' fr
      rw [(al (2 ^ x1.toNat - 1) (by omega) (by omega)).eq] at k
      exact k
    · rw [slU_ne (by omega)]; exact al S a b
    · rw [slU_same]; exact ⟨by decide, by decide⟩
    · rw [slU_same]; exact abCl_5 (fun l k z e => hI l (by rw [e] at z; exact z))
  · have m := sShl_m h1.1 h1.2
    rintro μ y2 y3 y4 σ' ⟨fr, rfl, rfl, hy, hy4, al, rv, cv, mn⟩
    have S32 : 0 ≤ y3 ∧ y3 < 32 := ⟨by omega, by omega⟩
    have lt : ¬ y3 < y4 → slLt ((2 ^ x1.toNat - 1 + 1 - y3).toNat, (y3 + 1 - (y4 + 1)).toNat, 0) ((2 ^ x1.toNat - 1 + 1 - y3).toNat, (y3 + 1 - y4).toNat, 0) := fun q => Or.inr ⟨rfl, Or.inl (by show (y3 + 1 - (y4 + 1)).toNat < (y3 + 1 - y4).toNat; omega)⟩
    have skip : ¬ (sAnd y4 y3 = y4 ∧ abPc A y4) → ∀ a : Int, 1 ≤ a → a < y4 + 1 → sAnd a y3 = a → abPc A a → σ' 34 0 y3.toNat ≤ 1 + σ' 34 0 (sAnd y3 (sXor a (-1))).toNat := fun no a b c e1 e2 => by
      by_cases z : a = y4
      · rw [z] at e1 e2; exact absurd ⟨e1, e2⟩ no
      · exact mn a b (by omega) e1 e2
    refine ⟨⟨⟨by omega, by omega⟩, by omega, by omega⟩, fun q => ⟨((2 ^ x1.toNat - 1 + 1 - (y3 + 1)).toNat, 100, 0), Or.inl (by show (2 ^ x1.toNat - 1 + 1 - (y3 + 1)).toNat < (2 ^ x1.toNat - 1 + 1 - y3).toNat; omega), fr, rfl, rfl, ⟨by omega, by omega⟩, fun S a b => ?_⟩, fun q => ?_⟩
    · by_cases e : S = y3
      · rw [e]
        refine ⟨rv, cv, fun n n0 cn => ?_⟩
        obtain ⟨n1, a, ⟨a1, a2⟩, e1, e2, c2⟩ := abCl_sub S32 (by omega) hI cn
        have k := mn a a1 (by omega) e1 e2
        have d := (ab_an S32 (v := a) ⟨by omega, by omega⟩).2.2
        have lt2 : sAnd y3 (sXor a (-1)) < y3 := by
          by_cases w : sAnd y3 (sXor a (-1)) = y3
          · exfalso
            obtain ⟨l, l0, l5, wl⟩ := ab_some (S := a) ⟨by omega, by omega⟩ (by omega)
            have w1 := ((ab_an (m := a) ⟨by omega, by omega⟩ S32).2.1.mp e1) l l0 l5 wl
            rw [← w] at w1
            exact ((d.2 l l0 l5).mp w1).2 wl
          · have := d.1.2; omega
        have c3 := (al (sAnd y3 (sXor a (-1))) d.1.1 lt2).2.2 (n - 1) (by omega) c2
        omega
      · exact al S a (by omega)
    · refine ⟨⟨inAnd, by omega, by omega⟩, fun z => ⟨_, lt q, fr, rfl, rfl, hy, ⟨by omega, by omega⟩, al, rv, cv, skip (fun w => z w.1)⟩, fun z => ?_⟩
      have hs : y4 < 2 ^ x1.toNat := by omega
      refine sp_X2_isPeaceful hG (by omega) (by omega) (A := A) ⟨by omega, by omega⟩ h1 hs (fun l a b => by rw [fr 33 0 (by simp)]; exact hf l a b) (slKt.ok ⟨in01, fun w => ⟨_, lt q, fr, rfl, rfl, hy, ⟨by omega, by omega⟩, al, rv, cv, skip (fun u => abIf_z w u.2)⟩, fun w => ?_⟩)
      have pc := abIf_nz w
      have d := (ab_an S32 (v := y4) ⟨by omega, by omega⟩).2.2
      have lt2 : ∀ a : Int, 1 ≤ a → a ≤ y3 → sAnd a y3 = a → sAnd y3 (sXor a (-1)) < y3 := fun a a1 a2 e1 => by
        have d := (ab_an S32 (v := a) ⟨by omega, by omega⟩).2.2
        by_cases w : sAnd y3 (sXor a (-1)) = y3
        · exfalso
          obtain ⟨l, l0, l5, wl⟩ := ab_some (S := a) ⟨by omega, by omega⟩ (by omega)
          have w1 := ((ab_an (m := a) ⟨by omega, by omega⟩ S32).2.1.mp e1) l l0 l5 wl
          rw [← w] at w1
          exact ((d.2 l l0 l5).mp w1).2 wl
        · have := d.1.2; omega
      have l2 := lt2 y4 (by omega) (by omega) z
      have c3 := al (sAnd y3 (sXor y4 (-1))) d.1.1 l2
      have r3 := c3.1
      refine ⟨⟨by omega, by omega⟩, ⟨d.1.1, by omega⟩, ⟨⟨by omega, by omega⟩, by omega, by omega⟩, ⟨by omega, by omega⟩, _, lt q, fr.up (by simp), rfl, rfl, hy, ⟨by omega, by omega⟩, fun S a b => ?_, ?_, ?_, fun a a1 a2 e1 e2 => ?_⟩
      · rw [slU_ne (by omega)]; exact al S a b
      · rw [slU_same]
        split <;> omega
      · rw [slU_same]
        by_cases u : 1 + σ' 34 0 (sAnd y3 (sXor y4 (-1))).toNat < σ' 34 0 y3.toNat
        · rw [if_pos u]
          exact abCl_add S32 ⟨by omega, by omega⟩ hA r3.1 pc c3.2.1
        · rw [if_neg u]; exact cv
      · have da := (ab_an S32 (v := a) ⟨by omega, by omega⟩).2.2
        have l3 := lt2 a a1 (by omega) e1
        have d0 := da.1.1
        rw [slU_same, slU_ne (by omega)]
        by_cases e : a = y4
        · rw [e]
          split <;> omega
        · have := mn a a1 (by omega) e1 e2
          split <;> omega
def abTkC (P : abP) (A : Int → Int → Prop) (a b : Int) : Prop := A a b ∧ P 31 a.toNat = P 31 b.toNat ∧ P 30 a.toNat = P 30 b.toNat
noncomputable def abTk1 (P : abP) (A : Int → Int → Prop) (a : Int) (n : Nat) : Int := abSum (fun b => abIf (a < b ∧ abTkC P A a b) 1 0) n
noncomputable def abTk (P : abP) (A : Int → Int → Prop) (n : Nat) : Int := abSum (fun a => abTk1 P A a (P 1 3).toNat) n
theorem abTk1_0 {P : abP} {A : Int → Int → Prop} {a : Int} : ∀ {n : Nat}, (n : Int) ≤ a + 1 → abTk1 P A a n = 0
  | 0, _ => rfl
  | n + 1, h => by
    show abTk1 P A a n + abIf (a < n ∧ abTkC P A a n) 1 0 = 0
    rw [abTk1_0 (by omega), abIf_f (fun z => by have := z.1; omega)]
    rfl
theorem abTk1_s {P : abP} {A : Int → Int → Prop} {a y : Int} (h : 0 ≤ y) : abTk1 P A a (y + 1).toNat = abTk1 P A a y.toNat + abIf (a < y ∧ abTkC P A a y) 1 0 := abSum_s h
theorem abTk1_r {P : abP} {A : Int → Int → Prop} {a : Int} {n : Nat} : 0 ≤ abTk1 P A a n ∧ abTk1 P A a n ≤ n := by
  have := abSum_le (f := fun b => abIf (a < b ∧ abTkC P A a b) 1 0) (B := 1) (n := n) (fun k _ _ => by
    rcases abIf_01 (p := a < k ∧ abTkC P A a k) with z | z <;> (show 0 ≤ abIf _ 1 0 ∧ abIf _ 1 0 ≤ 1) <;> rw [z] <;> omega)
  rw [Int.one_mul] at this
  exact this
theorem gdC.sg {P : abP} (hC : gdC P) {l : Int} (h : 0 ≤ l ∧ l < P 1 3) : (1 ≤ P 30 l.toNat ∧ P 30 l.toNat ≤ 6) ∧ (0 ≤ P 31 l.toNat ∧ P 31 l.toNat < 64) ∧ P 31 l.toNat < 2 ^ (P 30 l.toNat).toNat := by
  have g := hC.2.2.2.2.2.2.2.2.1 l h.1 h.2
  have e := Nat.pow_le_pow_right (n := 2) (by decide) (show (P 30 l.toNat).toNat ≤ 6 by omega)
  have e2 : ((2 ^ (P 30 l.toNat).toNat : Nat) : Int) ≤ ((2 ^ 6 : Nat) : Int) := by exact_mod_cast e
  push_cast at e2
  exact ⟨g.2.2.2.1, ⟨g.2.2.2.2.1.1, by omega⟩, g.2.2.2.2.1.2⟩
set_option maxHeartbeats 1000000 in
set_option maxRecDepth 4000 in
theorem sp_X2_takenCouples {G : slG} (hG : slGood G) {d K : Nat} (hd : 0 ≤ d) (hK : 0 ≤ K) {Φ : slPost} {σ : slM} {c : Nat} {P : abP} {A : Int → Int → Prop} (hP : isC c P σ) (hC : gdC P) (hf : ∀ l : Int, 0 ≤ l → l < P 1 3 → σ 33 0 l.toNat = abMask (A l) 5) (h : Φ (0, abTk P A (P 1 3).toNat) σ) :
    slCall G mX2_takenCouples d K [sR 2 0, sR 1 c] σ Φ := by
  refine vc_X2_takenCouples hG (by omega) hK (fun μ y2 y3 σ' => σ' = σ ∧ μ = ((P 1 3 - y3).toNat, 100, 0) ∧ (0 ≤ y3 ∧ y3 ≤ P 1 3) ∧ y2 = abTk P A y3.toNat) (fun μ y2 y3 y4 σ' => σ' = σ ∧ μ = ((P 1 3 - y3).toNat, (P 1 3 - y4).toNat, 0) ∧ (0 ≤ y3 ∧ y3 < P 1 3) ∧ (y3 < y4 ∧ y4 ≤ P 1 3) ∧ y2 = abTk P A y3.toNat + abTk1 P A y3 y4.toNat) ?_ ?_ ?_
  · have a3 := hC.2.2.2.1
    exact ⟨_, rfl, rfl, ⟨by omega, by omega⟩, rfl⟩
  · have a3 := hC.2.2.2.1
    rintro μ y2 y3 σ' ⟨rfl, rfl, hy, rfl⟩
    rw [hP.1]
    refine ⟨⟨⟨by omega, by omega⟩, by omega, by omega⟩, fun q => ?_, fun q => ⟨((P 1 3 - y3).toNat, (P 1 3 - (y3 + 1)).toNat, 0), Or.inr ⟨rfl, Or.inl (by show (P 1 3 - (y3 + 1)).toNat < 100; omega)⟩, rfl, rfl, ⟨by omega, by omega⟩, ⟨by omega, by omega⟩, ?_⟩⟩
    · rw [show y3 = P 1 3 by omega]; exact h
    · rw [abTk1_0 (by omega), Int.add_zero]
  · have a3 := hC.2.2.2.1
    rintro μ y2 y3 y4 σ' ⟨rfl, rfl, hy, hy4, rfl⟩
    have lt : ¬ P 1 3 ≤ y4 → slLt ((P 1 3 - y3).toNat, (P 1 3 - (y4 + 1)).toNat, 0) ((P 1 3 - y3).toNat, (P 1 3 - y4).toNat, 0) := fun q => Or.inr ⟨rfl, Or.inl (by show (P 1 3 - (y4 + 1)).toNat < (P 1 3 - y4).toNat; omega)⟩
    have no : ¬ abTkC P A y3 y4 → abTk P A y3.toNat + abTk1 P A y3 y4.toNat = abTk P A y3.toNat + abTk1 P A y3 (y4 + 1).toNat := fun z => by rw [abTk1_s (by omega), abIf_f (fun w => z w.2), Int.add_zero]
    have g3 := hC.sg (l := y3) hy
    obtain ⟨p1, p23, p24, p25, p26, p27, p28, p29, p30, p31, -⟩ := hP
    rw [p1, p30, p31, hf y3 hy.1 hy.2]
    refine ⟨⟨⟨by omega, by omega⟩, by omega, by omega⟩, fun q => ⟨((P 1 3 - (y3 + 1)).toNat, 100, 0), Or.inl (by show (P 1 3 - (y3 + 1)).toNat < (P 1 3 - y3).toNat; omega), rfl, rfl, ⟨by omega, by omega⟩, ?_⟩, fun q => ⟨⟨by omega, by omega⟩, ?_⟩⟩
    · rw [show y4 = P 1 3 by omega]
      exact (abSum_s hy.1).symm
    · have g4 := hC.sg (l := y4) ⟨by omega, by omega⟩
      rw [abMask_tst (by decide) (show 0 ≤ y4 by omega) (show y4 < ((5 : Nat) : Int) by omega)]
      refine ⟨in01, fun z => ⟨_, lt q, rfl, rfl, hy, ⟨by omega, by omega⟩, no (fun w => z (abIf_t w.1))⟩, fun z => ⟨⟨by omega, by omega⟩, ⟨by omega, by omega⟩, ⟨⟨by omega, by omega⟩, by omega, by omega⟩, fun w => ⟨_, lt q, rfl, rfl, hy, ⟨by omega, by omega⟩, no (fun u => w u.2.1)⟩, fun w => ⟨⟨by omega, by omega⟩, ⟨by omega, by omega⟩, ⟨⟨by omega, by omega⟩, by omega, by omega⟩, fun u => ⟨_, lt q, rfl, rfl, hy, ⟨by omega, by omega⟩, no (fun t => u t.2.2)⟩, fun u => ⟨_, lt q, rfl, rfl, hy, ⟨by omega, by omega⟩, ?_⟩⟩⟩⟩
      rw [abTk1_s (by omega), abIf_t ⟨hy4.1, abIf_nz (by omega), w, u⟩]
      omega
def abAdN (Z : abZ) (n : Int) : Int → Int → Prop := abAd (abR1 n (Z.1 1 4) 0) (abNow Z.1 (abC Z.1 Z.2.1.1) (Z.2.1.1 0) (Z.2.1.1 1))
theorem abAd_sy {R : Int → Int → Prop} {V : Int → Int → Int} {l k : Int} (h : abAd R V l k) : abAd R V k l := by
  obtain ⟨ne, s, x, p, a, b⟩ := h
  exact ⟨ne.symm, s, x, p, b, a⟩
noncomputable def abSgn (Z : abZ) (n w : Int) : Int := if w = 0 then abChr (abAdN Z n) (2 ^ (Z.1 1 3).toNat - 1) else abTk Z.1 (abAdN Z n) (Z.1 1 3).toNat
set_option maxHeartbeats 1000000 in
set_option maxRecDepth 4000 in
theorem sp_X11_signs {G : slG} (hG : slGood G) {d K : Nat} (hd : 50 ≤ d) (hK : 2 ≤ K) {Φ : slPost} {σ : slM} {x1 : Int} {x2 : Int} {c s N : Nat} {Z : abZ} (hX : isX c s Z σ) (hZ : gdZ N Z) (i1 : InR x1) (i2 : InR x2) (h : cA c s Z σ Φ (abOk ((0 ≤ x1 ∧ x1 < 10) ∧ 0 ≤ x2 ∧ x2 < 2) (abSgn Z x1 x2))) :
    slCall G mX11_signs d K [sR 11 0, sI x1, sI x2] σ Φ := by
  refine vc_X11_signs hG (by omega) hK  ?_
  have a3 := hZ.c.2.2.2.1
  refine sp_X11_needNight hG (by omega) (by omega) i1 (fun q1 => slKt.ok ?_) (fun q => slKt.ex (Or.inl rfl) (h.no (fun z => q z.1) cQ.id hX))
  refine sp_X11_needWhat hG (by omega) (by omega) i2 ⟨by decide, by decide⟩ (fun q2 => slKt.ok ?_) (fun q => slKt.ex (Or.inl rfl) (h.no (fun z => q z.2) cQ.id hX))
  refine sp_X11_settle hG (by omega) (by omega) hX hZ (fun τ f x t => slKt.ok ?_)
  have m : cS c s Z σ τ := ⟨f, x, t⟩
  rw [x.e4]
  refine sp_X2_gather hG (by omega) (by omega) (V := abNow Z.1 (abC Z.1 Z.2.1.1) (Z.2.1.1 0) (Z.2.1.1 1)) x.cc hZ.c q1 (by decide) (fun k y a b c d => ⟨t.2.2.2 k y a b c d, abNow_r hZ.c⟩) (fun k y d => abNow_day d) (fun τ1 f1 F => slKt.ok ?_)
  have m1 : cS c s Z σ τ1 := m.fr f1 (by decide) (fun k hk => by rw [f1 36 1 (by simp)]; exact m.dz k hk)
  have k := fun (τ : slM) (f : cQ σ τ) (x : isX c s Z τ) => h.yes ⟨q1, q2⟩ f x
  unfold abSgn at k
  rw [m1.2.1.e4, m1.2.1.cc.1]
  refine ⟨i2, fun z => ?_, fun z => ?_⟩
  · have k := k _ m1.1 m1.2.1
    rw [if_neg z] at k
    exact sp_X2_takenCouples hG (by omega) (by omega) (A := abAdN Z x1) m1.2.1.cc hZ.c F (slKt.ok k)
  · refine sp_X2_fewestSigns hG (by omega) (by omega) (A := abAdN Z x1) ⟨by omega, by omega⟩ F (fun l k z => abAd_sy z) (fun l z => z.1 rfl) (fun τ2 f2 => slKt.ok ?_)
    have m2 : cS c s Z σ τ2 := m1.fr f2 (by decide) (fun k hk => by rw [f2 36 1 (by simp)]; exact m1.dz k hk)
    have k := k _ m2.1 m2.2.1
    rw [if_pos z] at k
    exact k
/-! signs in the model -/
theorem mS.up {Z : abZ} {σ τ : slM} {r i k : Nat} {v : Int} (m : mS Z σ τ) (hr : r ∈ [90, 91, 92, 93, 94, 95, 96, 97, 98, 99, 100, 101, 103]) (h12 : r ≠ 12) (h92 : r ≠ 92) (h93 : r ≠ 93) : mS Z σ (slU τ r i k v) :=
  ⟨mFr.up m.1 hr h12, m.2.1.q (mFr.up mQ.id hr h12), by rw [slU_else (fun z => h12 z.1.symm)]; exact m.2.2.1, fun h l a b c d => by rw [slU_else (fun z => h92 z.1.symm), slU_else (fun z => h93 z.1.symm)]; exact m.2.2.2 h l a b c d⟩
set_option maxHeartbeats 4000000 in
set_option maxRecDepth 4000 in
theorem sp_X12_findsDiffers {G : slG} (hG : slGood G) {d K : Nat} (hd : 30 ≤ d) (hK : 0 ≤ K) {Φ : slPost} {σ : slM} {x1 : Int} {N : Nat} {Z : abZ} {σ0 : slM} (m : mS Z σ0 σ) (hZ : gdZ N Z) (h1 : 0 ≤ x1 ∧ x1 < 10) (h : ∀ τ, mS Z σ0 τ → isF 96 (Z.1 1 3) (abR1 x1 (Z.1 1 4) 0) (abNow Z.1 (abC Z.1 Z.2.1.1) (Z.2.1.1 0) (Z.2.1.1 1)) τ → Φ (0, 0) τ) :
    slCall G mX12_findsDiffers d K [sR 12 0, sI x1] σ Φ := by
  refine vc_X12_findsDiffers hG (by omega) hK (fun μ y2 σ' => mS Z σ0 σ' ∧ μ = (100, (Z.1 1 3 - y2).toNat, 0) ∧ (0 ≤ y2 ∧ y2 ≤ Z.1 1 3) ∧ ∀ l : Int, 0 ≤ l → l < y2 → σ' 96 0 l.toNat = 0) (fun μ y2 σ' => mS Z σ0 σ' ∧ μ = ((Z.1 1 4 - y2).toNat, 1000, 0) ∧ (0 ≤ y2 ∧ y2 ≤ Z.1 1 4) ∧ isF 96 (Z.1 1 3) (abR1 x1 y2 0) (abNow Z.1 (abC Z.1 Z.2.1.1) (Z.2.1.1 0) (Z.2.1.1 1)) σ') (fun μ y2 y3 σ' => mS Z σ0 σ' ∧ μ = ((Z.1 1 4 - y2).toNat, (24 * x1 + 24 - y3).toNat, 50) ∧ (0 ≤ y2 ∧ y2 < Z.1 1 4) ∧ (24 * x1 ≤ y3 ∧ y3 ≤ 24 * x1 + 24) ∧ isF 96 (Z.1 1 3) (abR1 x1 y2 y3) (abNow Z.1 (abC Z.1 Z.2.1.1) (Z.2.1.1 0) (Z.2.1.1 1)) σ') (fun μ y2 y3 y4 y5 σ' => mS Z σ0 σ' ∧ μ = ((Z.1 1 4 - y2).toNat, (24 * x1 + 24 - y3).toNat, (Z.1 1 3 - y5).toNat) ∧ (0 ≤ y2 ∧ y2 < Z.1 1 4) ∧ (24 * x1 ≤ y3 ∧ y3 < 24 * x1 + 24) ∧ y4 = abNow Z.1 (abC Z.1 Z.2.1.1) (Z.2.1.1 0) (Z.2.1.1 1) y2 y3 ∧ (0 ≤ y5 ∧ y5 ≤ Z.1 1 3) ∧ (∀ l : Int, y5 ≤ l → l < Z.1 1 3 → σ' 96 0 l.toNat = abMask (abAd (abR1 x1 y2 y3) (abNow Z.1 (abC Z.1 Z.2.1.1) (Z.2.1.1 0) (Z.2.1.1 1)) l) 5) ∧ ∀ l : Int, 0 ≤ l → l < y5 → σ' 96 0 l.toNat = abMask (abAd (abR1 x1 y2 (y3 + 1)) (abNow Z.1 (abC Z.1 Z.2.1.1) (Z.2.1.1 0) (Z.2.1.1 1)) l) 5) ?_ ?_ ?_ ?_ ?_
  · have a3 := hZ.c.2.2.2.1
    exact ⟨_, m, rfl, ⟨by omega, by omega⟩, fun l a b => by omega⟩
  · have a3 := hZ.c.2.2.2.1
    have a4 := hZ.c.2.2.2.2.1
    rintro μ y2 σ' ⟨m, rfl, hy, c1⟩
    rw [m.2.1.1.1.2.2.2.1]
    refine ⟨⟨⟨by omega, by omega⟩, by omega, by omega⟩, fun q => ⟨((Z.1 1 4 - 0).toNat, 1000, 0), Or.inl (by show (Z.1 1 4 - 0).toNat < 100; omega), m, rfl, ⟨by omega, by omega⟩, fun l a b => ?_⟩, fun q => ⟨⟨by omega, by omega⟩, (100, (Z.1 1 3 - (y2 + 1)).toNat, 0), Or.inr ⟨rfl, Or.inl (by show (Z.1 1 3 - (y2 + 1)).toNat < (Z.1 1 3 - y2).toNat; omega)⟩, m.up (by decide) (by decide) (by decide) (by decide), rfl, ⟨by omega, by omega⟩, fun l a b => ?_⟩⟩
    · rw [c1 l a (by omega)]
      symm
      refine abMask_0.mpr (fun k _ _ z => ?_)
      obtain ⟨ne, s, x, p1, -⟩ := z
      unfold abR1 at p1
      omega
    · by_cases e : l = y2
      · rw [e, slU_same]
      · rw [slU_ne (by omega)]; exact c1 l a (by omega)
  · have a3 := hZ.c.2.2.2.1
    have a4 := hZ.c.2.2.2.2.1
    rintro μ y2 σ' ⟨m, rfl, hy, c1⟩
    rw [m.2.1.1.1.2.2.2.2.1]
    refine ⟨⟨⟨by omega, by omega⟩, by omega, by omega⟩, fun q => ?_, fun q => ⟨((Z.1 1 4 - y2).toNat, (24 * x1 + 24 - 24 * x1).toNat, 50), Or.inr ⟨rfl, Or.inl (by show (24 * x1 + 24 - 24 * x1).toNat < 1000; omega)⟩, m, rfl, ⟨by omega, by omega⟩, ⟨by omega, by omega⟩, c1.c rfl (fun s x => ?_)⟩⟩
    · rw [show y2 = Z.1 1 4 by omega] at c1
      exact h σ' m c1
    · unfold abR1
      exact ⟨fun z => ⟨z.1, z.2.1, z.2.2.1, by omega⟩, fun z => Or.inl ⟨z.1, z.2.1, z.2.2.1, by omega⟩⟩
  · have a3 := hZ.c.2.2.2.1
    have a4 := hZ.c.2.2.2.2.1
    rintro μ y2 y3 σ' ⟨m, rfl, hy, hy3, c1⟩
    refine ⟨⟨⟨by omega, by omega⟩, by omega, by omega⟩, fun q => ⟨((Z.1 1 4 - (y2 + 1)).toNat, 1000, 0), Or.inl (by show (Z.1 1 4 - (y2 + 1)).toNat < (Z.1 1 4 - y2).toNat; omega), m, rfl, ⟨by omega, by omega⟩, c1.c rfl (fun s x => ?_)⟩, fun q => ?_⟩
    · unfold abR1
      exact ⟨fun z => ⟨z.1, z.2.1, z.2.2.1, by omega⟩, fun z => Or.inl ⟨z.1, z.2.1, z.2.2.1, by omega⟩⟩
    · have Y := m.2.1
      refine sp_X12_seenNow hG (by omega) (by omega) Y.1 hZ.c m.2.2.2 hZ.v.k Y.mo hZ.v.2.2.1 hy ⟨by omega, by omega⟩ (slKt.ok ⟨((Z.1 1 4 - y2).toNat, (24 * x1 + 24 - y3).toNat, (Z.1 1 3 - 0).toNat), Or.inr ⟨rfl, Or.inr ⟨rfl, by show (Z.1 1 3 - 0).toNat < 50; omega⟩⟩, m, rfl, hy, ⟨by omega, by omega⟩, rfl, ⟨by omega, by omega⟩, c1, fun l a b => by omega⟩)
  · have a3 := hZ.c.2.2.2.1
    have a4 := hZ.c.2.2.2.2.1
    rintro μ y2 y3 y4 y5 σ' ⟨m, rfl, hy, hy3, rfl, hy5, c1, c2⟩
    have v := abNow_r (C := abC Z.1 Z.2.1.1) (oil := Z.2.1.1 0) (mo := Z.2.1.1 1) (s := y2) (h := y3) hZ.c
    have lt : ¬ Z.1 1 3 ≤ y5 → slLt ((Z.1 1 4 - y2).toNat, (24 * x1 + 24 - y3).toNat, (Z.1 1 3 - (y5 + 1)).toNat) ((Z.1 1 4 - y2).toNat, (24 * x1 + 24 - y3).toNat, (Z.1 1 3 - y5).toNat) := fun q => Or.inr ⟨rfl, Or.inr ⟨rfl, by show (Z.1 1 3 - (y5 + 1)).toNat < (Z.1 1 3 - y5).toNat; omega⟩⟩
    rw [m.2.1.1.1.2.2.2.1]
    refine ⟨⟨⟨by omega, by omega⟩, by omega, by omega⟩, fun q => ⟨((Z.1 1 4 - y2).toNat, (24 * x1 + 24 - (y3 + 1)).toNat, 50), Or.inr ⟨rfl, Or.inl (by show (24 * x1 + 24 - (y3 + 1)).toNat < (24 * x1 + 24 - y3).toNat; omega)⟩, m, rfl, hy, ⟨by omega, by omega⟩, fun l a b => c2 l a (by omega)⟩, fun q => ?_⟩
    rw [sBit v.1 (by omega) hy5.1 (by omega)]
    have b01 := abBit01 (abNow Z.1 (abC Z.1 Z.2.1.1) (Z.2.1.1 0) (Z.2.1.1 1) y2 y3) y5
    refine ⟨⟨by omega, by omega⟩, fun z => ⟨_, lt q, m, rfl, hy, hy3, rfl, ⟨by omega, by omega⟩, fun l a b => c1 l (by omega) b, fun l a b => ?_⟩, fun z => ⟨⟨by omega, by omega⟩, ⟨by omega, by omega⟩, _, lt q, m.up (by decide) (by decide) (by decide) (by decide), rfl, hy, hy3, rfl, ⟨by omega, by omega⟩, fun l a b => ?_, fun l a b => ?_⟩⟩
    · by_cases e : l = y5
      · rw [e, c1 y5 (by omega) (by omega)]
        refine abMask_c (fun k _ _ => ?_)
        rw [abR1_s hy.1 hy3.1 hy3.2]
        exact ⟨fun w => Or.inl w, fun w => w.elim id (fun u => absurd u.1 z)⟩
      · exact c2 l a (by omega)
    · rw [slU_ne (by omega)]; exact c1 l (by omega) b
    · by_cases e : l = y5
      · rw [e, slU_same, c1 y5 (by omega) (by omega), ab_gt v ⟨by omega, by omega⟩]
        refine abMask_c (fun k _ _ => ?_)
        rw [abR1_s hy.1 hy3.1 hy3.2]
        exact ⟨fun w => w.elim Or.inl (fun u => Or.inr ⟨z, u⟩), fun w => w.elim Or.inl (fun u => Or.inr u.2)⟩
      · rw [slU_ne (by omega)]; exact c2 l a (by omega)
/-! digits of x by n -/
def abDv (n x : Int) : Nat → Int
  | 0 => x
  | k + 1 => abDv n x k / n
theorem abDv_s {n x y : Int} (h : 0 ≤ y) : abDv n x (y + 1).toNat = abDv n x y.toNat / n := by
  rw [show (y + 1).toNat = y.toNat + 1 by omega]
  rfl
theorem abDv_in {n x : Int} : ∀ k : Nat, abDv n x (k + 1) = abDv n (x / n) k
  | 0 => rfl
  | k + 1 => by
    show abDv n x (k + 1) / n = abDv n (x / n) k / n
    rw [abDv_in k]
theorem abDv_r {n x : Int} (h : 0 ≤ x) (hn : 1 ≤ n) : ∀ {k : Nat}, 0 ≤ abDv n x k ∧ abDv n x k ≤ x
  | 0 => ⟨h, Int.le_refl _⟩
  | k + 1 => by
    have a := abDv_r h hn (k := k)
    show 0 ≤ abDv n x k / n ∧ abDv n x k / n ≤ x
    have b := Int.ediv_nonneg a.1 (show 0 ≤ n by omega)
    have c := Int.ediv_le_self n a.1
    exact ⟨b, by omega⟩
theorem abDg_ex {n : Int} (hn : 1 ≤ n) : ∀ (L : Nat) (f : Nat → Int), (∀ l, l < L → 0 ≤ f l ∧ f l < n) → ∃ x : Int, (0 ≤ x ∧ x < n ^ L) ∧ ∀ l, l < L → abDv n x l % n = f l
  | 0, f, _ => ⟨0, ⟨Int.le_refl _, by rw [Int.pow_zero]; decide⟩, fun l h => absurd h (by omega)⟩
  | L + 1, f, hf => by
    obtain ⟨x, hx, hd⟩ := abDg_ex hn L (fun l => f (l + 1)) (fun l h => hf (l + 1) (by omega))
    have f0 := hf 0 (by omega)
    have e1 : (f 0 + n * x) / n = x := by
      rw [Int.add_mul_ediv_left _ _ (by omega), Int.ediv_eq_zero_of_lt f0.1 f0.2, Int.zero_add]
    have e2 : (f 0 + n * x) % n = f 0 := by
      rw [Int.add_mul_emod_self_left]
      exact Int.emod_eq_of_lt f0.1 f0.2
    have nx : 0 ≤ n * x := Int.mul_nonneg (by omega) hx.1
    have up : n * (x + 1) ≤ n * n ^ L := Int.mul_le_mul_of_nonneg_left (by omega) (by omega)
    rw [Int.mul_add, Int.mul_one] at up
    refine ⟨f 0 + n * x, ⟨by omega, by rw [Int.pow_succ, Int.mul_comm (n ^ L) n]; omega⟩, fun l hl => ?_⟩
    match l, hl with
    | 0, _ => exact e2
    | l + 1, hl =>
      rw [abDv_in, e1]
      exact hd l (by omega)
/-- the colours that x spells fit -/
def abCx (A : Int → Int → Prop) (n x : Int) (L : Int) : Prop := ∀ l k : Int, 0 ≤ l → l < L → 0 ≤ k → k < l → A l k → abDv n x k.toNat % n ≠ abDv n x l.toNat % n
theorem abCx_cl {A : Int → Int → Prop} {n L : Int} (hn : 1 ≤ n) (hL : 0 ≤ L ∧ L ≤ 5) (hA : ∀ l k, A l k → A k l) (hI : ∀ l, ¬ A l l) : (∃ x : Int, 0 ≤ x ∧ x < n ^ L.toNat ∧ abCx A n x L) ↔ abCl A (2 ^ L.toNat - 1) n := by
  have bt : ∀ l : Int, 0 ≤ l → l < 5 → (abBit (2 ^ L.toNat - 1) l = 1 ↔ l < L) := fun l l0 l5 => by
    obtain ⟨l, h1, rfl⟩ := ab_nat (n := 5) ⟨l0, l5⟩
    obtain ⟨m, h2, rfl⟩ := ab_nat (n := 6) (a := L) ⟨hL.1, by omega⟩
    exact (by decide : ∀ m, m < 6 → ∀ l, l < 5 → (abBit (2 ^ ((m : Nat) : Int).toNat - 1) ((l : Nat) : Int) = 1 ↔ (l : Int) < (m : Int))) m h2 l h1
  constructor
  · rintro ⟨x, x0, x1, ok⟩
    refine ⟨fun l => abDv n x l.toNat % n, fun l _ _ _ => ab_mod (by omega), fun l k l0 l5 k0 k5 wl wk al => ?_⟩
    have l2 := (bt l l0 l5).mp wl
    have k2 := (bt k k0 k5).mp wk
    by_cases z : k < l
    · exact fun e => ok l k l0 l2 k0 z al e.symm
    · by_cases y : k = l
      · rw [y] at al; exact absurd al (hI l)
      · exact fun e => ok k l k0 k2 l0 (by omega) (hA l k al) e
  · rintro ⟨f, f1, f2⟩
    obtain ⟨x, ⟨x0, x1⟩, hd⟩ := abDg_ex hn L.toNat (fun l => f (l : Int)) (fun l h => f1 (l : Int) (by omega) (by omega) ((bt (l : Int) (by omega) (by omega)).mpr (by omega)))
    refine ⟨x, x0, x1, fun l k l0 l1 k0 k1 al => ?_⟩
    rw [hd k.toNat (by omega), hd l.toNat (by omega), show ((k.toNat : Nat) : Int) = k by omega, show ((l.toNat : Nat) : Int) = l by omega]
    exact (f2 l k l0 (by omega) k0 (by omega) ((bt l l0 (by omega)).mpr l1) ((bt k k0 (by omega)).mpr (by omega)) al).symm
theorem ab_pow5 {n : Int} (h : 1 ≤ n ∧ n ≤ 5) {k : Nat} (hk : k ≤ 5) : 1 ≤ n ^ k ∧ n ^ k ≤ 3125 := by
  obtain ⟨m, h1, rfl⟩ := ab_nat (n := 6) (a := n) ⟨by omega, by omega⟩
  exact (by decide : ∀ m, m < 6 → 1 ≤ m → ∀ k, k ≤ 5 → 1 ≤ ((m : Nat) : Int) ^ k ∧ ((m : Nat) : Int) ^ k ≤ 3125) m h1 (by omega) k hk
def enI (Z : abZ) (σ0 : slM) (A : Int → Int → Prop) (n : Int) (y3 y6 : Int) (σ' : slM) : Prop :=
  mS Z σ0 σ' ∧ (∀ l : Int, 0 ≤ l → l < Z.1 1 3 → σ' 96 0 l.toNat = abMask (A l) 5) ∧ ∀ l : Int, 0 ≤ l → l < y6 → σ' 97 0 l.toNat = abDv n y3 l.toNat % n
set_option maxHeartbeats 8000000 in
set_option maxRecDepth 4000 in
theorem sp_X12_isEnough {G : slG} (hG : slGood G) {d K : Nat} (hd : 10 ≤ d) (hK : 0 ≤ K) {Φ : slPost} {σ : slM} {x1 : Int} {N : Nat} {Z : abZ} {σ0 : slM} {A : Int → Int → Prop} (m : mS Z σ0 σ) (hZ : gdZ N Z) (h1 : 1 ≤ x1 ∧ x1 ≤ 5) (hf : ∀ l : Int, 0 ≤ l → l < Z.1 1 3 → σ 96 0 l.toNat = abMask (A l) 5) (h : ∀ τ, mS Z σ0 τ → (∀ l : Int, 0 ≤ l → l < Z.1 1 3 → τ 96 0 l.toNat = abMask (A l) 5) → Φ (0, abIf (∃ x : Int, 0 ≤ x ∧ x < x1 ^ (Z.1 1 3).toNat ∧ abCx A x1 x (Z.1 1 3)) 1 0) τ) :
    slCall G mX12_isEnough d K [sR 12 0, sI x1] σ Φ := by
  refine vc_X12_isEnough hG (by omega) hK (fun μ y2 y3 σ' => enI Z σ0 A x1 0 0 σ' ∧ μ = (5000, (Z.1 1 3 - y3).toNat, 0) ∧ (0 ≤ y3 ∧ y3 ≤ Z.1 1 3) ∧ y2 = x1 ^ y3.toNat) (fun μ y2 y3 σ' => enI Z σ0 A x1 0 0 σ' ∧ y2 = x1 ^ (Z.1 1 3).toNat ∧ μ = ((y2 - y3).toNat, 100, 0) ∧ (0 ≤ y3 ∧ y3 ≤ y2) ∧ ∀ x : Int, 0 ≤ x → x < y3 → ¬ abCx A x1 x (Z.1 1 3)) (fun μ y2 y3 y4 y5 y6 σ' => enI Z σ0 A x1 y3 y6 σ' ∧ y2 = x1 ^ (Z.1 1 3).toNat ∧ μ = ((y2 - y3).toNat, (Z.1 1 3 - y6).toNat, 50) ∧ (0 ≤ y3 ∧ y3 < y2) ∧ (∀ x : Int, 0 ≤ x → x < y3 → ¬ abCx A x1 x (Z.1 1 3)) ∧ y4 = abDv x1 y3 y6.toNat ∧ (0 ≤ y6 ∧ y6 ≤ Z.1 1 3) ∧ y5 = abIf (abCx A x1 y3 y6) 1 0) (fun μ y2 y3 y4 y5 y6 y7 σ' => enI Z σ0 A x1 y3 (y6 + 1) σ' ∧ y2 = x1 ^ (Z.1 1 3).toNat ∧ μ = ((y2 - y3).toNat, (Z.1 1 3 - y6).toNat, (y6 - y7).toNat) ∧ (0 ≤ y3 ∧ y3 < y2) ∧ (∀ x : Int, 0 ≤ x → x < y3 → ¬ abCx A x1 x (Z.1 1 3)) ∧ y4 = abDv x1 y3 (y6 + 1).toNat ∧ (0 ≤ y6 ∧ y6 < Z.1 1 3) ∧ (0 ≤ y7 ∧ y7 ≤ y6) ∧ y5 = abIf (abCx A x1 y3 y6 ∧ ∀ k : Int, 0 ≤ k → k < y7 → A y6 k → abDv x1 y3 k.toNat % x1 ≠ abDv x1 y3 y6.toNat % x1) 1 0) ?_ ?_ ?_ ?_ ?_
  · have a3 := hZ.c.2.2.2.1
    refine ⟨_, ⟨m, hf, fun l a b => by omega⟩, rfl, ⟨by omega, by omega⟩, ?_⟩
    exact (Int.pow_zero x1).symm
  · have a3 := hZ.c.2.2.2.1
    rintro μ y2 y3 σ' ⟨e, rfl, hy, rfl⟩
    have pw := ab_pow5 h1 (k := (Z.1 1 3).toNat) (by omega)
    rw [e.1.2.1.1.1.2.2.2.1]
    refine ⟨⟨⟨by omega, by omega⟩, by omega, by omega⟩, fun q => ⟨((x1 ^ (Z.1 1 3).toNat - 0).toNat, 100, 0), Or.inl (by show (x1 ^ (Z.1 1 3).toNat - 0).toNat < 5000; omega), e, ?_, ?_, ⟨by omega, ?_⟩, fun x a b => by omega⟩, fun q => ⟨(5000, (Z.1 1 3 - (y3 + 1)).toNat, 0), Or.inr ⟨rfl, Or.inl (by show (Z.1 1 3 - (y3 + 1)).toNat < (Z.1 1 3 - y3).toNat; omega)⟩, e, rfl, ⟨by omega, by omega⟩, ?_⟩⟩
    · rw [show y3 = Z.1 1 3 by omega]
    · rw [show y3 = Z.1 1 3 by omega]
    · rw [show y3 = Z.1 1 3 by omega]; omega
    · rw [show (y3 + 1).toNat = y3.toNat + 1 by omega, Int.pow_succ]
  · have a3 := hZ.c.2.2.2.1
    rintro μ y2 y3 σ' ⟨e, rfl, rfl, hy, al⟩
    have pw := ab_pow5 h1 (k := (Z.1 1 3).toNat) (by omega)
    refine ⟨⟨⟨by omega, by omega⟩, by omega, by omega⟩, fun q => ?_, fun q => ⟨((x1 ^ (Z.1 1 3).toNat - y3).toNat, (Z.1 1 3 - 0).toNat, 50), Or.inr ⟨rfl, Or.inl (by show (Z.1 1 3 - 0).toNat < 100; omega)⟩, ⟨e.1, e.2.1, fun l a b => by omega⟩, rfl, rfl, ⟨by omega, by omega⟩, al, rfl, ⟨by omega, by omega⟩, ?_⟩⟩
    · have k := h σ' e.1 e.2.1
      rw [abIf_f (fun z => by obtain ⟨x, a, b, c⟩ := z; exact al x a (by omega) c)] at k
      exact k
    · rw [abIf_t (show abCx A x1 y3 0 from fun l k a b => by omega)]
  · have a3 := hZ.c.2.2.2.1
    rintro μ y2 y3 y4 y5 y6 σ' ⟨e, rfl, rfl, hy, al, rfl, hy6, e5⟩
    have pw := ab_pow5 h1 (k := (Z.1 1 3).toNat) (by omega)
    have rr := abDv_r (n := x1) (x := y3) hy.1 h1.1 (k := y6.toNat)
    have r5 : y5 = 0 ∨ y5 = 1 := by rw [e5]; exact abIf_01
    rw [e.1.2.1.1.1.2.2.2.1]
    refine ⟨⟨⟨by omega, by omega⟩, by omega, by omega⟩, fun q => ⟨⟨by omega, by omega⟩, fun z => ⟨((x1 ^ (Z.1 1 3).toNat - (y3 + 1)).toNat, 100, 0), Or.inl (by show (x1 ^ (Z.1 1 3).toNat - (y3 + 1)).toNat < (x1 ^ (Z.1 1 3).toNat - y3).toNat; omega), ⟨e.1, e.2.1, fun l a b => by omega⟩, rfl, rfl, ⟨by omega, by omega⟩, fun x a b => ?_⟩, fun z => ?_⟩, fun q => ⟨⟨⟨by omega, by omega⟩, by omega⟩, ⟨by omega, by omega⟩, ⟨⟨by omega, by omega⟩, by omega⟩, ((x1 ^ (Z.1 1 3).toNat - y3).toNat, (Z.1 1 3 - y6).toNat, (y6 - 0).toNat), Or.inr ⟨rfl, Or.inr ⟨rfl, by show (y6 - 0).toNat < 50; omega⟩⟩, ⟨e.1.up (by decide) (by decide) (by decide) (by decide), fun l a b => ?_, fun l a b => ?_⟩, rfl, rfl, hy, al, ?_, ⟨by omega, by omega⟩, ⟨by omega, by omega⟩, ?_⟩⟩
    · by_cases w : x = y3
      · rw [w, show Z.1 1 3 = y6 by omega]
        rw [e5] at z
        exact abIf_z z
      · exact al x a (by omega)
    · have k := h σ' e.1 e.2.1
      rw [e5] at z
      rw [abIf_t ⟨y3, hy.1, hy.2, by rw [show Z.1 1 3 = y6 by omega]; exact abIf_nz z⟩] at k
      exact k
    · rw [slU_else (by decide)]; exact e.2.1 l a b
    · by_cases w : l = y6
      · rw [w, slU_same, sRem_eq rr.1 (by omega) (by omega) (by omega)]
      · rw [slU_ne (by omega)]; exact e.2.2 l a (by omega)
    · rw [sDiv_eq rr.1 (by omega) (by omega) (by omega), abDv_s hy6.1]
    · rw [e5]
      exact abIf_c ⟨fun w => ⟨w, fun k a b => by omega⟩, fun w => w.1⟩
  · have a3 := hZ.c.2.2.2.1
    rintro μ y2 y3 y4 y5 y6 y7 σ' ⟨e, rfl, rfl, hy, al, rfl, hy6, hy7, e5⟩
    have pw := ab_pow5 h1 (k := (Z.1 1 3).toNat) (by omega)
    have r5 : y5 = 0 ∨ y5 = 1 := by rw [e5]; exact abIf_01
    have lt : ¬ y6 ≤ y7 → slLt ((x1 ^ (Z.1 1 3).toNat - y3).toNat, (Z.1 1 3 - y6).toNat, (y6 - (y7 + 1)).toNat) ((x1 ^ (Z.1 1 3).toNat - y3).toNat, (Z.1 1 3 - y6).toNat, (y6 - y7).toNat) := fun q => Or.inr ⟨rfl, Or.inr ⟨rfl, by show (y6 - (y7 + 1)).toNat < (y6 - y7).toNat; omega⟩⟩
    refine ⟨⟨⟨by omega, by omega⟩, by omega, by omega⟩, fun q => ⟨((x1 ^ (Z.1 1 3).toNat - y3).toNat, (Z.1 1 3 - (y6 + 1)).toNat, 50), Or.inr ⟨rfl, Or.inl (by show (Z.1 1 3 - (y6 + 1)).toNat < (Z.1 1 3 - y6).toNat; omega)⟩, e, rfl, rfl, hy, al, rfl, ⟨by omega, by omega⟩, ?_⟩, fun q => ⟨⟨by omega, by omega⟩, fun z => ⟨_, lt q, e, rfl, rfl, hy, al, rfl, hy6, ⟨by omega, by omega⟩, ?_⟩, fun z => ⟨⟨by omega, by omega⟩, ?_⟩⟩⟩
    · rw [e5]
      refine abIf_c ⟨fun w l k l0 l1 k0 k1 a => ?_, fun w => ⟨fun l k l0 l1 k0 k1 a => w l k l0 (by omega) k0 k1 a, fun k k0 k1 a => w y6 k hy6.1 (by omega) k0 (by omega) a⟩⟩
      by_cases u : l = y6
      · rw [u] at a k1 ⊢; exact w.2 k k0 (by omega) a
      · exact w.1 l k l0 (by omega) k0 k1 a
    · rw [e5] at z
      rw [abIf_f (fun w => abIf_z z ⟨w.1, fun k a b => w.2 k a (by omega)⟩)]
    · rw [e5] at z
      have ok := abIf_nz z
      have b6 := ab_mod (a := abDv x1 y3 y6.toNat) (b := x1) (by omega)
      have b7 := ab_mod (a := abDv x1 y3 y7.toNat) (b := x1) (by omega)
      rw [e.2.1 y6 hy6.1 hy6.2, abMask_tst (by decide) hy7.1 (show y7 < ((5 : Nat) : Int) by omega), e.2.2 y7 hy7.1 (by omega), e.2.2 y6 hy6.1 (by omega)]
      have nx : (A y6 y7 → abDv x1 y3 y7.toNat % x1 ≠ abDv x1 y3 y6.toNat % x1) → ∀ k : Int, 0 ≤ k → k < y7 + 1 → A y6 k → abDv x1 y3 k.toNat % x1 ≠ abDv x1 y3 y6.toNat % x1 := fun w k a b c => by
        by_cases u : k = y7
        · rw [u] at c ⊢; exact w c
        · exact ok.2 k a (by omega) c
      refine ⟨in01, fun w => ⟨_, lt q, e, rfl, rfl, hy, al, rfl, hy6, ⟨by omega, by omega⟩, ?_⟩, fun w => ⟨⟨by omega, by omega⟩, ⟨by omega, by omega⟩, ⟨⟨by omega, by omega⟩, by omega, by omega⟩, _, lt q, e, rfl, rfl, hy, al, rfl, hy6, ⟨by omega, by omega⟩, ?_⟩⟩
      · rw [abIf_t ⟨ok.1, nx (fun a => absurd a (abIf_z w))⟩]
      · by_cases u : abDv x1 y3 y7.toNat % x1 = abDv x1 y3 y6.toNat % x1
        · rw [if_pos u, abIf_f (fun t => t.2 y7 hy7.1 (by omega) (abIf_nz w) u)]
        · rw [if_neg u, abIf_t ⟨ok.1, nx (fun _ => u)⟩]
theorem ab_ext6 {n : Nat} {a b : Int} (hn : n ≤ 6) (ha : 0 ≤ a ∧ a < 2 ^ n) (hb : 0 ≤ b ∧ b < 2 ^ n) (h : ∀ k : Int, 0 ≤ k → k < n → abBit a k = abBit b k) : a = b := by
  have key : ∀ a : Int, 0 ≤ a → a < 64 → a = abBit a 0 + 2 * abBit a 1 + 4 * abBit a 2 + 8 * abBit a 3 + 16 * abBit a 4 + 32 * abBit a 5 := fun a h0 h1 => by
    show a = a / 1 % 2 + 2 * (a / 2 % 2) + 4 * (a / 4 % 2) + 8 * (a / 8 % 2) + 16 * (a / 16 % 2) + 32 * (a / 32 % 2)
    omega
  have le : (2 : Int) ^ n ≤ 64 := (by decide : ∀ n, n ≤ 6 → (2 : Int) ^ n ≤ 64) n hn
  have hi : ∀ x : Int, 0 ≤ x → x < 2 ^ n → ∀ k : Int, (n : Int) ≤ k → abBit x k = 0 := fun x x0 x1 k hk => by
    have e : x / 2 ^ k.toNat = 0 := by
      refine Int.ediv_eq_zero_of_lt x0 (Int.lt_of_lt_of_le x1 ?_)
      have e1 := Nat.pow_le_pow_right (n := 2) (by decide) (show n ≤ k.toNat by omega)
      exact_mod_cast e1
    unfold abBit
    rw [e]
    rfl
  have e : ∀ k : Int, 0 ≤ k → abBit a k = abBit b k := fun k k0 => by
    by_cases z : k < n
    · exact h k k0 z
    · rw [hi a ha.1 ha.2 k (by omega), hi b hb.1 hb.2 k (by omega)]
  rw [key a ha.1 (by omega), key b hb.1 (by omega), e 0 (by omega), e 1 (by omega), e 2 (by omega), e 3 (by omega), e 4 (by omega), e 5 (by omega)]
set_option maxHeartbeats 1000000 in
set_option maxRecDepth 4000 in
theorem sp_X12_areAlike {G : slG} (hG : slGood G) {d K : Nat} (hd : 0 ≤ d) (hK : 0 ≤ K) {Φ : slPost} {σ : slM} {x1 : Int} {x2 : Int} {P : abP} (hM : isM P σ) (hC : gdC P) (h1 : 0 ≤ x1 ∧ x1 < P 1 3) (h2 : 0 ≤ x2 ∧ x2 < P 1 3) (h : Φ (0, abIf (P 31 x1.toNat = P 31 x2.toNat ∧ P 30 x1.toNat = P 30 x2.toNat) 1 0) σ) :
    slCall G mX12_areAlike d K [sR 12 0, sI x1, sI x2] σ Φ := by
  refine vc_X12_areAlike hG (by omega) hK (fun μ y3 σ' => σ' = σ ∧ P 30 x1.toNat = P 30 x2.toNat ∧ μ = ((P 30 x1.toNat - y3).toNat, 0, 0) ∧ (0 ≤ y3 ∧ y3 ≤ P 30 x1.toNat) ∧ ∀ k : Int, 0 ≤ k → k < y3 → abBit (P 31 x1.toNat) k = abBit (P 31 x2.toNat) k) ?_ ?_
  · have a3 := hC.2.2.2.1
    have g1 := hC.sg h1
    have g2 := hC.sg h2
    have e1 := hM.2.2.1 x1 h1.1 h1.2
    have e2 := hM.2.2.1 x2 h2.1 h2.2
    rw [e1.2.2.2.1, e2.2.2.2.1]
    refine ⟨⟨by omega, by omega⟩, ⟨by omega, by omega⟩, ⟨⟨by omega, by omega⟩, by omega, by omega⟩, fun q => ⟨_, rfl, q, rfl, ⟨by omega, by omega⟩, fun k a b => by omega⟩, fun q => ?_⟩
    rwa [abIf_f (fun z => q z.2)] at h
  · have a3 := hC.2.2.2.1
    have g1 := hC.sg h1
    have g2 := hC.sg h2
    have e1 := hM.2.2.1 x1 h1.1 h1.2
    have e2 := hM.2.2.1 x2 h2.1 h2.2
    rintro μ y3 σ' ⟨rfl, eq, rfl, hy, al⟩
    rw [e1.2.2.2.1]
    refine ⟨⟨by omega, by omega⟩, ⟨⟨by omega, by omega⟩, by omega, by omega⟩, fun q => ?_, fun q => ⟨⟨by omega, by omega⟩, ⟨by omega, by omega⟩, ?_⟩⟩
    · have e : P 31 x1.toNat = P 31 x2.toNat := ab_ext6 (n := (P 30 x1.toNat).toNat) (by omega) ⟨g1.2.1.1, g1.2.2⟩ ⟨g2.2.1.1, by rw [eq]; exact g2.2.2⟩ (fun k a b => al k a (by omega))
      rwa [abIf_t ⟨e, eq⟩] at h
    · rw [e1.2.2.2.2.2 y3 hy.1 (by omega), e2.2.2.2.2.2 y3 hy.1 (by omega)]
      have b1 := abBit01 (P 31 x1.toNat) y3
      have b2 := abBit01 (P 31 x2.toNat) y3
      refine ⟨⟨⟨by omega, by omega⟩, by omega, by omega⟩, fun z => ⟨_, Or.inl (by show (P 30 x1.toNat - (y3 + 1)).toNat < (P 30 x1.toNat - y3).toNat; omega), rfl, eq, rfl, ⟨by omega, by omega⟩, fun k a b => ?_⟩, fun z => ?_⟩
      · by_cases w : k = y3
        · rw [w]; exact z
        · exact al k a (by omega)
      · rwa [abIf_f (fun w => z (by rw [w.1]))] at h
def sgI (Z : abZ) (σ : slM) (x1 x2 : Int) (σ' : slM) : Prop := ((0 ≤ x1 ∧ x1 < 10) ∧ 0 ≤ x2 ∧ x2 < 2) ∧ mS Z σ σ' ∧ ∀ l : Int, 0 ≤ l → l < Z.1 1 3 → σ' 96 0 l.toNat = abMask (abAdN Z x1 l) 5
set_option maxHeartbeats 4000000 in
set_option maxRecDepth 4000 in
theorem sp_X12_signs {G : slG} (hG : slGood G) {d K : Nat} (hd : 50 ≤ d) (hK : 0 ≤ K) {Φ : slPost} {σ : slM} {x1 : Int} {x2 : Int} {N : Nat} {Z : abZ} (hY : isY Z σ) (hZ : gdZ N Z) (i1 : InR x1) (i2 : InR x2) (h : mA Z σ Φ (abOk ((0 ≤ x1 ∧ x1 < 10) ∧ 0 ≤ x2 ∧ x2 < 2) (abSgn Z x1 x2))) :
    slCall G mX12_signs d K [sR 12 0, sI x1, sI x2] σ Φ := by
  refine vc_X12_signs hG (by omega) hK (fun μ y3 y4 σ' => sgI Z σ x1 x2 σ' ∧ x2 = 1 ∧ μ = ((Z.1 1 3 - y4).toNat, 100, 0) ∧ (0 ≤ y4 ∧ y4 ≤ Z.1 1 3) ∧ y3 = abTk Z.1 (abAdN Z x1) y4.toNat) (fun μ y3 y4 y5 σ' => sgI Z σ x1 x2 σ' ∧ x2 = 1 ∧ μ = ((Z.1 1 3 - y4).toNat, (Z.1 1 3 - y5).toNat, 0) ∧ (0 ≤ y4 ∧ y4 < Z.1 1 3) ∧ (y4 < y5 ∧ y5 ≤ Z.1 1 3) ∧ y3 = abTk Z.1 (abAdN Z x1) y4.toNat + abTk1 Z.1 (abAdN Z x1) y4 y5.toNat) (fun μ y3 σ' => sgI Z σ x1 x2 σ' ∧ ¬ x2 = 1 ∧ μ = ((6 - y3).toNat, 0, 0) ∧ (0 ≤ y3 ∧ y3 ≤ 5) ∧ (Z.1 1 3 = 0 → y3 = 0) ∧ ∀ n : Int, 1 ≤ n → n < y3 → ¬ abCl (abAdN Z x1) (2 ^ (Z.1 1 3).toNat - 1) n) ?_ ?_ ?_ ?_
  · have a3 := hZ.c.2.2.2.1
    have y0 := hY.z
    refine sp_X12_isNight hG (by omega) (by omega) i1 (slU_same _ _ _ _ _) (fun q1 => slKt.ok ⟨in1, fun z => absurd z (by decide), fun _ => ?_⟩) (fun q => slKt.ok ⟨in0, fun _ => h.no (fun z => q z.1) mQ.id.t0 y0, fun z => absurd rfl z⟩)
    refine sp_X12_isWhat hG (by omega) (by omega) i2 ⟨by decide, by decide⟩ (slU_same _ _ _ _ _) (fun q2 => slKt.ok ⟨in1, fun _ => ?_, fun z => absurd z (by decide)⟩) (fun q => slKt.ok ⟨in0, fun z => absurd rfl z, fun _ => h.no (fun z => q z.2) mQ.id.t0 y0⟩)
    refine ms_now hG (by omega) y0 hZ mQ.id.t0 (slU_same _ _ _ _ _) (fun τ m => slKt.ok ?_)
    refine sp_X12_findsDiffers hG (by omega) (by omega) m hZ q1 (fun τ1 m1 F => slKt.ok ⟨i2, fun z => ⟨_, ⟨⟨q1, q2⟩, m1, F⟩, z, rfl, ⟨by omega, by omega⟩, fun _ => rfl, fun n a b => by omega⟩, fun z => ⟨_, ⟨⟨q1, q2⟩, m1, F⟩, z, rfl, ⟨by omega, by omega⟩, rfl⟩⟩)
  · have a3 := hZ.c.2.2.2.1
    rintro μ y3 y4 σ' ⟨g, e2, rfl, hy, rfl⟩
    rw [g.2.1.2.1.1.1.2.2.2.1]
    refine ⟨⟨⟨by omega, by omega⟩, by omega, by omega⟩, fun q => ?_, fun q => ⟨((Z.1 1 3 - y4).toNat, (Z.1 1 3 - (y4 + 1)).toNat, 0), Or.inr ⟨rfl, Or.inl (by show (Z.1 1 3 - (y4 + 1)).toNat < 100; omega)⟩, g, e2, rfl, ⟨by omega, by omega⟩, ⟨by omega, by omega⟩, ?_⟩⟩
    · have k := h.yes g.1 g.2.1.1 g.2.1.2.1 g.2.1.2.2.1
      unfold abSgn at k
      rw [if_neg (by omega)] at k
      rw [show y4 = Z.1 1 3 by omega]
      exact k
    · rw [abTk1_0 (by omega), Int.add_zero]
  · have a3 := hZ.c.2.2.2.1
    rintro μ y3 y4 y5 σ' ⟨g, e2, rfl, hy, hy5, rfl⟩
    have lt : ¬ Z.1 1 3 ≤ y5 → slLt ((Z.1 1 3 - y4).toNat, (Z.1 1 3 - (y5 + 1)).toNat, 0) ((Z.1 1 3 - y4).toNat, (Z.1 1 3 - y5).toNat, 0) := fun q => Or.inr ⟨rfl, Or.inl (by show (Z.1 1 3 - (y5 + 1)).toNat < (Z.1 1 3 - y5).toNat; omega)⟩
    rw [g.2.1.2.1.1.1.2.2.2.1, g.2.2 y4 hy.1 hy.2]
    refine ⟨⟨⟨by omega, by omega⟩, by omega, by omega⟩, fun q => ⟨((Z.1 1 3 - (y4 + 1)).toNat, 100, 0), Or.inl (by show (Z.1 1 3 - (y4 + 1)).toNat < (Z.1 1 3 - y4).toNat; omega), g, e2, rfl, ⟨by omega, by omega⟩, ?_⟩, fun q => ⟨⟨by omega, by omega⟩, ?_⟩⟩
    · rw [show y5 = Z.1 1 3 by omega]
      exact (abSum_s hy.1).symm
    · rw [abMask_tst (by decide) (show 0 ≤ y5 by omega) (show y5 < ((5 : Nat) : Int) by omega)]
      refine ⟨in01, fun z => ⟨_, lt q, g, e2, rfl, hy, ⟨by omega, by omega⟩, ?_⟩, fun z => ?_⟩
      · rw [abTk1_s (by omega), abIf_f (fun w => z (abIf_t w.2.1))]
        omega
      · refine sp_X12_areAlike hG (by omega) (by omega) g.2.1.2.1.1 hZ.c hy ⟨by omega, by omega⟩ (slKt.ok ⟨in01, _, lt q, g, e2, rfl, hy, ⟨by omega, by omega⟩, ?_⟩)
        rw [abTk1_s (by omega)]
        by_cases w : Z.1 31 y4.toNat = Z.1 31 y5.toNat ∧ Z.1 30 y4.toNat = Z.1 30 y5.toNat
        · rw [abIf_t w, if_neg (by decide), abIf_t ⟨hy5.1, abIf_nz (by omega), w⟩]
          omega
        · rw [abIf_f w, if_pos rfl, abIf_f (fun u => w u.2.2)]
          omega
  · have a3 := hZ.c.2.2.2.1
    rintro μ y3 σ' ⟨g, e2, rfl, hy, e0, al⟩
    have sm := sShl_m (n := Z.1 1 3) (by omega) (by omega)
    have sy : ∀ l k, abAdN Z x1 l k → abAdN Z x1 k l := fun l k z => abAd_sy z
    have irr : ∀ l, ¬ abAdN Z x1 l l := fun l z => z.1 rfl
    have fin : ∀ τ, sgI Z σ x1 x2 τ → isChr (abAdN Z x1) (2 ^ (Z.1 1 3).toNat - 1) y3 → Φ (0, y3) τ := fun τ g c => by
      have k := h.yes g.1 g.2.1.1 g.2.1.2.1 g.2.1.2.2.1
      unfold abSgn at k
      rw [if_pos (by have := g.1.2; omega), c.eq] at k
      exact k
    rw [g.2.1.2.1.1.1.2.2.2.1]
    refine ⟨⟨by omega, by omega⟩, fun q => fin σ' g ?_, fun q => ⟨⟨by omega, by omega⟩, fun z => ⟨_, Or.inl (by show (6 - (y3 + 1)).toNat < (6 - y3).toNat; omega), g, e2, rfl, ⟨by omega, by omega⟩, fun z => by omega, fun n a b => by omega⟩, fun z => ?_⟩⟩
    · rw [e0 (by omega), show Z.1 1 3 = 0 by omega]
      exact isChr_0
    · have cx := abCx_cl (A := abAdN Z x1) (n := y3) (L := Z.1 1 3) (by omega) ⟨by omega, by omega⟩ sy irr
      refine sp_X12_isEnough hG (by omega) (by omega) (A := abAdN Z x1) g.2.1 hZ ⟨by omega, by omega⟩ g.2.2 (fun τ m1 F1 => slKt.ok ⟨in01, fun w => fin τ ⟨g.1, m1, F1⟩ ⟨hy, cx.mp (abIf_nz w), fun n n0 cn => ?_⟩, fun w => ⟨_, Or.inl (by show (6 - (y3 + 1)).toNat < (6 - y3).toNat; omega), ⟨g.1, m1, F1⟩, e2, rfl, ⟨by omega, ?_⟩, fun z => by omega, fun n a b => ?_⟩⟩)
      · by_cases u : y3 ≤ n
        · exact u
        · have p1 : (2 : Int) ^ 1 ≤ 2 ^ (Z.1 1 3).toNat := by
            have e1 := Nat.pow_le_pow_right (n := 2) (by decide) (show 1 ≤ (Z.1 1 3).toNat by omega)
            exact_mod_cast e1
          have p1 : (2 : Int) ≤ 2 ^ (Z.1 1 3).toNat := p1
          have := (abCl_sub ⟨sm.2.1, sm.2.2⟩ (by omega) irr cn).1
          exact absurd cn (al n (by omega) (by omega))
      · by_cases u : y3 = 5
        · refine absurd (cx.mpr ?_) (abIf_z w)
          rw [u]
          exact abCl_5 (fun l k z e => irr l (by rw [e] at z; exact z))
        · omega
      · by_cases u : n = y3
        · rw [u]
          exact fun c => abIf_z w (cx.mpr c)
        · exact al n a (by omega)
