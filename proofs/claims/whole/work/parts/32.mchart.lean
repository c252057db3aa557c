/-! ===== the same chart in the model ===== -/
def mFr (L S : List Nat) (σ τ : slM) : Prop := (∀ r i, r ≠ 12 → r ∉ L → τ r i = σ r i) ∧ ∀ k, k ∉ S → τ 12 0 k = σ 12 0 k
theorem mFr.id {L S : List Nat} {σ : slM} : mFr L S σ σ := ⟨fun _ _ _ _ => rfl, fun _ _ => rfl⟩
theorem mFr.tr {L S : List Nat} {σ τ υ : slM} (h1 : mFr L S σ τ) (h2 : mFr L S τ υ) : mFr L S σ υ := ⟨fun r i a b => (h2.1 r i a b).trans (h1.1 r i a b), fun k a => (h2.2 k a).trans (h1.2 k a)⟩
theorem mFr.mono {L S L' S' : List Nat} {σ τ : slM} (h : mFr L S σ τ) (hL : ∀ r ∈ L, r ∈ L') (hS : ∀ r ∈ S, r ∈ S') : mFr L' S' σ τ := ⟨fun r i a b => h.1 r i a (fun z => b (hL _ z)), fun k a => h.2 k (fun z => a (hS _ z))⟩
theorem mFr.up {L S : List Nat} {σ τ : slM} {r i k : Nat} {v : Int} (h : mFr L S σ τ) (hr : r ∈ L) (h12 : r ≠ 12) : mFr L S σ (slU τ r i k v) := ⟨fun r' i' a b => by
    rw [slU_else (fun z => b (by rw [z.1]; exact hr))]
    exact h.1 r' i' a b, fun k' a => by
    rw [slU_else (fun z => h12 z.1.symm)]
    exact h.2 k' a⟩
theorem mFr.up12 {L S : List Nat} {σ τ : slM} {k : Nat} {v : Int} (h : mFr L S σ τ) (hr : k ∈ S) : mFr L S σ (slU τ 12 0 k v) := ⟨fun r' i' a b => by
    rw [slU_else (fun z => a z.1)]
    exact h.1 r' i' a b, fun k' a => by
    rw [slU_ne (fun z => a (by rw [z]; exact hr))]
    exact h.2 k' a⟩
def abOp (o : Int) : Int := if o = -8 then 5 else if o = -9 then 4 else -4 - o
/-- the code at place a of f spells these orders and the stop -/
def abCode (f : Nat → Int) : Nat → List Int → Prop
  | a, [] => a < 2100 ∧ f a = 0
  | a, o :: os => a + 1 < 2100 ∧ if 0 ≤ o then f a = 1 ∧ f (a + 1) = o ∧ abCode f (a + 2) os else if -6 ≤ o then f a = 2 ∧ f (a + 1) = -1 - o ∧ abCode f (a + 2) os else f a = abOp o ∧ abCode f (a + 1) os
def isM (P : abP) (σ : slM) : Prop :=
  (σ 12 0 1 = P 1 0 ∧ σ 12 0 2 = P 1 1 ∧ σ 12 0 3 = P 1 2 ∧ σ 12 0 4 = P 1 3 ∧ σ 12 0 5 = P 1 4 ∧ σ 12 0 6 = P 1 5 ∧ σ 12 0 7 = P 4 4)
  ∧ (∀ i : Int, 0 ≤ i → i < P 1 2 → σ 61 0 i.toNat = P 1 0 * P 25 i.toNat + P 24 i.toNat)
  ∧ (∀ l : Int, 0 ≤ l → l < P 1 3 → σ 62 0 l.toNat = P 26 l.toNat ∧ σ 63 0 l.toNat = P 27 l.toNat ∧ σ 64 0 l.toNat = P 28 l.toNat ∧ σ 66 0 l.toNat = P 30 l.toNat
      ∧ (∀ k : Int, 0 ≤ k → k < P 28 l.toNat → σ 65 0 (12 * l + k).toNat = P 29 (l * 12 + k).toNat)
      ∧ (∀ k : Int, 0 ≤ k → k < P 30 l.toNat → σ 67 0 (6 * l + k).toNat = abBit (P 31 l.toNat) k))
  ∧ (∀ k : Int, 0 ≤ k → k < P 1 5 → σ 68 0 k.toNat = P 32 k.toNat)
  ∧ (∀ c : Int, 0 ≤ c → c < 144 → σ 71 0 c.toNat = P 23 c.toNat)
  ∧ (∀ k : Int, 0 ≤ k → k < P 4 4 → 0 ≤ σ 69 0 k.toNat ∧ abCode (σ 70 0) (σ 69 0 k.toNat).toNat (abLaw P k))
theorem isM.fr {P : abP} {σ τ : slM} {L S : List Nat} (h : isM P σ) (f : mFr L S σ τ) (hL : ∀ r ∈ L, r ≠ 61 ∧ r ≠ 62 ∧ r ≠ 63 ∧ r ≠ 64 ∧ r ≠ 65 ∧ r ≠ 66 ∧ r ≠ 67 ∧ r ≠ 68 ∧ r ≠ 69 ∧ r ≠ 70 ∧ r ≠ 71) (hS : ∀ k ∈ S, k = 0 ∨ 7 < k) : isM P τ := by
  have q : ∀ r, 61 ≤ r → r ≤ 71 → τ r 0 = σ r 0 := fun r a b => f.1 r 0 (by omega) (fun z => by have := hL r z; omega)
  have s : ∀ k, 1 ≤ k → k ≤ 7 → τ 12 0 k = σ 12 0 k := fun k a b => f.2 k (fun z => by have := hS k z; omega)
  unfold isM
  rw [q 61 (by omega) (by omega), q 62 (by omega) (by omega), q 63 (by omega) (by omega), q 64 (by omega) (by omega), q 65 (by omega) (by omega), q 66 (by omega) (by omega), q 67 (by omega) (by omega), q 68 (by omega) (by omega), q 69 (by omega) (by omega), q 70 (by omega) (by omega), q 71 (by omega) (by omega)]
  rw [s 1 (by omega) (by omega), s 2 (by omega) (by omega), s 3 (by omega) (by omega), s 4 (by omega) (by omega), s 5 (by omega) (by omega), s 6 (by omega) (by omega), s 7 (by omega) (by omega)]
  exact h
theorem in01 {p : Prop} : InR (abIf p 1 0) := by
  have := abIf_01 (p := p)
  exact ⟨by omega, by omega⟩
theorem abIf_nz {p : Prop} (h : ¬ abIf p 1 0 = 0) : p := by
  by_cases z : p
  · exact z
  · exact absurd (abIf_f z) h
theorem abIf_z {p : Prop} (h : abIf p 1 0 = 0) : ¬ p := fun z => by rw [abIf_t z] at h; omega
set_option maxHeartbeats 1000000 in
set_option maxRecDepth 4000 in
theorem sp_X12_off {G : slG} (hG : slGood G) {d K : Nat} (hd : 0 ≤ d) (hK : 0 ≤ K) {Φ : slPost} {σ : slM} {x0 : Int} {x1 : Int} (h0 : InR x0) (h1 : InR x1) (h : Φ (0, abAbs (x0 - x1)) σ) :
    slCall G mX12_off d K [sI x0, sI x1] σ Φ := by
  refine vc_X12_off hG (by omega) hK  ?_
  unfold abAbs at h
  refine ⟨⟨h0, h1⟩, fun q => ?_, fun q => ?_⟩
  · rwa [if_pos (by omega)] at h
  · rw [if_neg (by omega), show 0 - (x0 - x1) = x1 - x0 by omega] at h
    exact h
set_option maxHeartbeats 1000000 in
set_option maxRecDepth 4000 in
theorem sp_X12_within {G : slG} (hG : slGood G) {d K : Nat} (hd : 0 ≤ d) (hK : 0 ≤ K) {Φ : slPost} {σ : slM} {x0 : Int} {x1 : Int} {x2 : Int} (h0 : InR x0) (h1 : InR x1) (h2 : InR x2) (h : Φ (0, abIf (x1 ≤ x0 ∧ x0 ≤ x2) 1 0) σ) :
    slCall G mX12_within d K [sI x0, sI x1, sI x2] σ Φ := by
  refine vc_X12_within hG (by omega) hK  ?_
  refine ⟨⟨h0, h1⟩, fun q => ?_, fun q => ⟨⟨h0, h2⟩, fun q2 => ?_, fun q2 => ?_⟩⟩
  · rwa [abIf_f (by omega)] at h
  · rwa [abIf_f (by omega)] at h
  · rwa [abIf_t (by omega)] at h
set_option maxHeartbeats 1000000 in
set_option maxRecDepth 4000 in
theorem sp_X12_cells {G : slG} (hG : slGood G) {d K : Nat} (hd : 0 ≤ d) (hK : 0 ≤ K) {Φ : slPost} {σ : slM}  (h : Φ (0, σ 12 0 1 * σ 12 0 2) σ) :
    slCall G mX12_cells d K [sR 12 0] σ Φ := by
  refine vc_X12_cells hG (by omega) hK  ?_
  exact h
set_option maxHeartbeats 1000000 in
set_option maxRecDepth 4000 in
theorem sp_X12_farOf {G : slG} (hG : slGood G) {d K : Nat} (hd : 1 ≤ d) (hK : 0 ≤ K) {Φ : slPost} {σ : slM} {x1 : Int} {x2 : Int} {P : abP} (hM : isM P σ) (hC : gdC P) (h1 : gc P x1) (h2 : gc P x2) (h : Φ (0, abFar (P 1 0) x1 x2) σ) :
    slCall G mX12_farOf d K [sR 12 0, sI x1, sI x2] σ Φ := by
  refine vc_X12_farOf hG (by omega) hK  ?_
  obtain ⟨⟨p1, -⟩, -⟩ := hM
  have g1 := h1.dv hC
  have g2 := h2.dv hC
  rw [p1, sRem_eq (by omega) (by omega) (by omega) (by omega), sRem_eq (by omega) (by omega) (by omega) (by omega)]
  refine ⟨⟨⟨by omega, by omega⟩, by omega⟩, ⟨⟨by omega, by omega⟩, by omega⟩, ?_⟩
  refine sp_X12_off hG (by omega) (by omega) ⟨by omega, by omega⟩ ⟨by omega, by omega⟩ (slKt.ok ?_)
  rw [p1, sDiv_eq (by omega) (by omega) (by omega) (by omega), sDiv_eq (by omega) (by omega) (by omega) (by omega)]
  refine ⟨⟨⟨by omega, by omega⟩, by omega⟩, ⟨⟨by omega, by omega⟩, by omega⟩, ?_⟩
  refine sp_X12_off hG (by omega) (by omega) ⟨by omega, by omega⟩ ⟨by omega, by omega⟩ (slKt.ok ?_)
  unfold abFar abMax at h
  have e1 : 0 ≤ abAbs (x1 % P 1 0 - x2 % P 1 0) ∧ abAbs (x1 % P 1 0 - x2 % P 1 0) ≤ 12 := by unfold abAbs; omega
  have e2 : 0 ≤ abAbs (x1 / P 1 0 - x2 / P 1 0) ∧ abAbs (x1 / P 1 0 - x2 / P 1 0) ≤ 12 := by unfold abAbs; omega
  refine ⟨⟨⟨by omega, by omega⟩, by omega, by omega⟩, fun q => ?_, fun q => ?_⟩
  · by_cases z : abAbs (x1 % P 1 0 - x2 % P 1 0) < abAbs (x1 / P 1 0 - x2 / P 1 0)
    · rwa [if_pos z] at h
    · rw [if_neg z, show abAbs (x1 % P 1 0 - x2 % P 1 0) = abAbs (x1 / P 1 0 - x2 / P 1 0) by omega] at h
      exact h
  · rwa [if_neg (by omega)] at h
set_option maxHeartbeats 1000000 in
set_option maxRecDepth 4000 in
theorem sp_X12_fogIn {G : slG} (hG : slGood G) {d K : Nat} (hd : 0 ≤ d) (hK : 0 ≤ K) {Φ : slPost} {σ : slM} {x1 : Int} {P : abP} (hM : isM P σ) (hC : gdC P) (h1 : 0 ≤ x1 ∧ x1 < 2147483648) (h : Φ (0, abFog P x1) σ) :
    slCall G mX12_fogIn d K [sR 12 0, sI x1] σ Φ := by
  refine vc_X12_fogIn hG (by omega) hK  ?_
  obtain ⟨⟨-, -, -, -, -, p6, -⟩, -, -, p68, -⟩ := hM
  have a := hC.2.2.2.2.2.1
  unfold abFog at h
  rw [p6]
  refine ⟨⟨by omega, by omega⟩, fun q => ?_, fun q => ?_⟩
  · have m := ab_mod (a := x1) (b := P 1 5) (by omega)
    rw [sRem_eq h1.1 h1.2 (by omega) (by omega)]
    refine ⟨⟨⟨by omega, by omega⟩, by omega⟩, ⟨by omega, by omega⟩, ?_⟩
    rw [p68 _ m.1 m.2]
    rwa [if_pos (by omega)] at h
  · rwa [if_neg (by omega)] at h
set_option maxHeartbeats 1000000 in
set_option maxRecDepth 4000 in
theorem sp_X12_isLitIn {G : slG} (hG : slGood G) {d K : Nat} (hd : 0 ≤ d) (hK : 0 ≤ K) {Φ : slPost} {σ : slM} {x1 : Int} {x2 : Int} {o : Int} (h1 : 0 ≤ x1 ∧ x1 < 5) (h2 : 0 ≤ x2 ∧ x2 < 240) (h0 : 0 ≤ o ∧ o ≤ 200) (ho : σ 93 0 (240 * x1 + x2).toNat = abOil o x2) (h : Φ (0, abIf (abLit o x2) 1 0) σ) :
    slCall G mX12_isLitIn d K [sR 12 0, sI x1, sI x2] σ Φ := by
  refine vc_X12_isLitIn hG (by omega) hK  ?_
  have r := abOil_r h0 h2
  rw [sRem_eq h2.1 (by omega) (by omega) (by omega), ho]
  refine ⟨⟨by omega, by omega⟩, fun q => ?_, fun q => ⟨⟨by omega, by omega⟩, ⟨by omega, by omega⟩, fun q2 => ?_, fun q2 => ?_⟩⟩
  · rwa [abIf_f (fun z => by have := z.1; omega)] at h
  · rwa [abIf_f (fun z => by have := z.2; omega)] at h
  · rwa [abIf_t ⟨by omega, by omega⟩] at h
theorem ab_wi {x w : Int} : (¬ x * w < 0 ∧ abAbs x ≤ abAbs w) ↔ abWithin x w := by
  unfold abWithin abAbs
  rcases Int.lt_trichotomy w 0 with h | h | h
  · constructor
    · rintro ⟨a, b⟩
      have : x ≤ 0 := by
        rcases Int.lt_or_le 0 x with z | z
        · exact absurd (Int.mul_neg_of_pos_of_neg z h) a
        · exact z
      omega
    · intro a
      have : 0 ≤ x * w := Int.mul_nonneg_of_nonpos_of_nonpos (by omega) (by omega)
      omega
  · subst h
    rw [Int.mul_zero]
    omega
  · constructor
    · rintro ⟨a, b⟩
      have : 0 ≤ x := by
        rcases Int.lt_or_le x 0 with z | z
        · exact absurd (Int.mul_neg_of_neg_of_pos z h) a
        · exact z
      omega
    · intro a
      have : 0 ≤ x * w := Int.mul_nonneg (by omega) (by omega)
      omega
theorem ab_cell {w x y : Int} (hw : 0 < w) (hx : 0 ≤ x) (hx' : x < w) : (w * y + x) % w = x ∧ (w * y + x) / w = y := by
  rw [Int.add_comm]
  exact ⟨by rw [Int.add_mul_emod_self_left, Int.emod_eq_of_lt hx hx'], by rw [Int.add_mul_ediv_left _ _ (by omega), Int.ediv_eq_zero_of_lt hx hx', Int.zero_add]⟩
theorem ab_wh {w h x y : Int} (hx : 0 ≤ x) (hx' : x < w) (hy : 0 ≤ y) (hy' : y < h) : 0 ≤ w * y + x ∧ w * y + x < w * h := by
  have a : 0 ≤ w * y := Int.mul_nonneg (by omega) hy
  have b : w * (y + 1) ≤ w * h := Int.mul_le_mul_of_nonneg_left (by omega) (by omega)
  rw [Int.mul_add, Int.mul_one] at b
  omega
set_option maxHeartbeats 1000000 in
set_option maxRecDepth 4000 in
theorem sp_X12_isHidden {G : slG} (hG : slGood G) {d K : Nat} (hd : 1 ≤ d) (hK : 0 ≤ K) {Φ : slPost} {σ : slM} {x1 : Int} {x2 : Int} {P : abP} (hM : isM P σ) (hC : gdC P) (h1 : gc P x1) (h2 : gc P x2) (n1 : P 23 x1.toNat = 0) (n2 : P 23 x2.toNat = 0) (h : Φ (0, abIf (abHid P x1 x2) 1 0) σ) :
    slCall G mX12_isHidden d K [sR 12 0, sI x1, sI x2] σ Φ := by
  refine vc_X12_isHidden hG (by omega) hK (fun μ y3 y4 y5 σ' => σ' = σ ∧ μ = ((P 1 2 - y5).toNat, 0, 0) ∧ (0 ≤ y5 ∧ y5 ≤ P 1 2) ∧ y3 = x2 % P 1 0 - x1 % P 1 0 ∧ y4 = x2 / P 1 0 - x1 / P 1 0 ∧ ∀ i : Int, 0 ≤ i → i < y5 → ¬ abBetween (P 24 i.toNat - x1 % P 1 0) (P 25 i.toNat - x1 / P 1 0) (x2 % P 1 0 - x1 % P 1 0) (x2 / P 1 0 - x1 / P 1 0)) ?_ ?_
  · obtain ⟨⟨p1, -⟩, -⟩ := hM
    have g1 := h1.dv hC
    have g2 := h2.dv hC
    have n := hC.2.2.1
    rw [p1, sRem_eq (by omega) (by omega) (by omega) (by omega), sRem_eq (by omega) (by omega) (by omega) (by omega), sDiv_eq (by omega) (by omega) (by omega) (by omega), sDiv_eq (by omega) (by omega) (by omega) (by omega)]
    have z : InR (P 1 0) ∧ P 1 0 ≠ 0 := ⟨⟨by omega, by omega⟩, by omega⟩
    exact ⟨z, z, z, z, _, rfl, rfl, ⟨by omega, by omega⟩, rfl, rfl, fun i a b => by omega⟩
  · obtain ⟨⟨p1, p2, p3, -⟩, p61, -⟩ := hM
    have g1 := h1.dv hC
    have g2 := h2.dv hC
    have n := hC.2.2.1
    have z : InR (P 1 0) ∧ P 1 0 ≠ 0 := ⟨⟨by omega, by omega⟩, by omega⟩
    rintro μ y3 y4 y5 σ' ⟨rfl, rfl, hy, rfl, rfl, hb⟩
    rw [p1, p3]
    refine ⟨⟨⟨by omega, by omega⟩, by omega, by omega⟩, fun q => ?_, fun q => ?_⟩
    · rw [abIf_f (fun z => by obtain ⟨i, a, b, c⟩ := z; exact hb i a (by omega) c)] at h
      exact h
    have c := hC.2.2.2.2.2.2.2.1 y5 hy.1 (by omega)
    have e := ab_cell (w := P 1 0) (x := P 24 y5.toNat) (y := P 25 y5.toNat) (by omega) c.1.1 c.1.2
    have wh := ab_wh c.1.1 c.1.2 c.2.1.1 c.2.1.2
    have wh2 := hC.wh
    rw [p61 y5 hy.1 (by omega)]
    rw [sRem_eq (a := x1) (by omega) (by omega) (by omega) (by omega), sRem_eq (a := P 1 0 * _ + _) (by omega) (by omega) (by omega) (by omega), sDiv_eq (a := x1) (by omega) (by omega) (by omega) (by omega), sDiv_eq (a := P 1 0 * _ + _) (by omega) (by omega) (by omega) (by omega), e.1, e.2]
    have nx : ¬ abBetween (P 24 y5.toNat - x1 % P 1 0) (P 25 y5.toNat - x1 / P 1 0) (x2 % P 1 0 - x1 % P 1 0) (x2 / P 1 0 - x1 / P 1 0) → ∃ μ2, slLt μ2 ((P 1 2 - y5).toNat, 0, 0) ∧ (σ' = σ' ∧ μ2 = ((P 1 2 - (y5 + 1)).toNat, 0, 0) ∧ (0 ≤ y5 + 1 ∧ y5 + 1 ≤ P 1 2) ∧ x2 % P 1 0 - x1 % P 1 0 = x2 % P 1 0 - x1 % P 1 0 ∧ x2 / P 1 0 - x1 / P 1 0 = x2 / P 1 0 - x1 / P 1 0 ∧ ∀ i : Int, 0 ≤ i → i < y5 + 1 → ¬ abBetween (P 24 i.toNat - x1 % P 1 0) (P 25 i.toNat - x1 / P 1 0) (x2 % P 1 0 - x1 % P 1 0) (x2 / P 1 0 - x1 / P 1 0)) := fun nb =>
      ⟨_, Or.inl (by show (P 1 2 - (y5 + 1)).toNat < (P 1 2 - y5).toNat; omega), rfl, rfl, ⟨by omega, by omega⟩, rfl, rfl, fun i a b => by
        by_cases k : i = y5
        · rw [k]; exact nb
        · exact hb i a (by omega)⟩
    have m1 := ab_mul (a := P 24 y5.toNat - x1 % P 1 0) (b := x2 % P 1 0 - x1 % P 1 0) (by omega) (by omega) (by omega) (by omega)
    have m2 := ab_mul (a := P 25 y5.toNat - x1 / P 1 0) (b := x2 / P 1 0 - x1 / P 1 0) (by omega) (by omega) (by omega) (by omega)
    have m3 := ab_mul (a := P 24 y5.toNat - x1 % P 1 0) (b := x2 / P 1 0 - x1 / P 1 0) (by omega) (by omega) (by omega) (by omega)
    have m4 := ab_mul (a := P 25 y5.toNat - x1 / P 1 0) (b := x2 % P 1 0 - x1 % P 1 0) (by omega) (by omega) (by omega) (by omega)
    have b1 : ∀ x : Int, -200 ≤ x → x ≤ 200 → 0 ≤ abAbs (x - 0) ∧ abAbs (x - 0) ≤ 200 := fun x a b => by unfold abAbs; omega
    have b2 : ∀ x : Int, abAbs (x - 0) = abAbs x := fun x => by rw [Int.sub_zero]
    have r1 := b1 (P 24 y5.toNat - x1 % P 1 0) (by omega) (by omega)
    have r2 := b1 (P 25 y5.toNat - x1 / P 1 0) (by omega) (by omega)
    have r3 := b1 (x2 % P 1 0 - x1 % P 1 0) (by omega) (by omega)
    have r4 := b1 (x2 / P 1 0 - x1 / P 1 0) (by omega) (by omega)
    refine ⟨⟨by omega, by omega⟩, z, z, ⟨by omega, by omega⟩, z, z, ⟨by omega, by omega⟩, fun k => nx (fun b => (ab_wi.mpr b.2.1).1 k), fun k1 => ⟨⟨by omega, by omega⟩, fun k => nx (fun b => (ab_wi.mpr b.2.2.1).1 k), fun k2 => ?_⟩⟩
    refine sp_X12_off hG (by omega) (by omega) ⟨by omega, by omega⟩ ⟨by omega, by omega⟩ (slKt.ok ?_)
    refine sp_X12_off hG (by omega) (by omega) ⟨by omega, by omega⟩ ⟨by omega, by omega⟩ (slKt.ok ⟨⟨⟨by omega, by omega⟩, by omega, by omega⟩, fun k => nx (fun b => ?_), fun k3 => ?_⟩)
    · have := (ab_wi.mpr b.2.1).2
      rw [b2, b2] at k
      omega
    refine sp_X12_off hG (by omega) (by omega) ⟨by omega, by omega⟩ ⟨by omega, by omega⟩ (slKt.ok ?_)
    refine sp_X12_off hG (by omega) (by omega) ⟨by omega, by omega⟩ ⟨by omega, by omega⟩ (slKt.ok ⟨⟨⟨by omega, by omega⟩, by omega, by omega⟩, ⟨by omega, by omega⟩, fun k => nx (fun b => ?_), fun k4 => ⟨⟨⟨by omega, by omega⟩, by omega, by omega⟩, fun k => nx (fun b => k b.1), fun k5 => ?_⟩⟩)
    · have := (ab_wi.mpr b.2.2.1).2
      rw [b2, b2] at k
      omega
    · rw [b2, b2] at k3 k4
      rw [abIf_t] at h
      · exact h
      · refine ⟨y5, hy.1, by omega, k5, ab_wi.mp ⟨k1, by omega⟩, ab_wi.mp ⟨k2, by omega⟩, ?_, ?_⟩
        · rcases Int.lt_trichotomy (P 24 y5.toNat - x1 % P 1 0) 0 with t | t | t
          · exact Or.inl (by omega)
          · refine Or.inr (fun t2 => ?_)
            have e2 := Int.mul_ediv_add_emod x1 (P 1 0)
            rw [show P 25 y5.toNat = x1 / P 1 0 by omega, show P 24 y5.toNat = x1 % P 1 0 by omega, e2] at c
            omega
          · exact Or.inl (by omega)
        · rcases Int.lt_trichotomy (P 24 y5.toNat - x2 % P 1 0) 0 with t | t | t
          · exact Or.inl (by omega)
          · refine Or.inr (fun t2 => ?_)
            have e2 := Int.mul_ediv_add_emod x2 (P 1 0)
            rw [show P 25 y5.toNat = x2 / P 1 0 by omega, show P 24 y5.toNat = x2 % P 1 0 by omega, e2] at c
            omega
          · exact Or.inl (by omega)
set_option maxHeartbeats 1000000 in
set_option maxRecDepth 4000 in
theorem sp_X12_leads {G : slG} (hG : slGood G) {d K : Nat} (hd : 0 ≤ d) (hK : 0 ≤ K) {Φ : slPost} {σ : slM} {x1 : Int} {x2 : Int} {P : abP} (hM : isM P σ) (hC : gdC P) (h1 : gc P x1) (h2 : 0 ≤ x2 ∧ x2 ≤ 4) (h : Φ (0, abBehind P x1 x2) σ) :
    slCall G mX12_leads d K [sR 12 0, sI x1, sI x2] σ Φ := by
  refine vc_X12_leads hG (by omega) hK  ?_
  obtain ⟨⟨p1, p2, -⟩, -⟩ := hM
  have g1 := h1.dv hC
  have e2 := Int.mul_ediv_add_emod x1 (P 1 0)
  rw [p1, p2, sRem_eq (by omega) (by omega) (by omega) (by omega), sDiv_eq (by omega) (by omega) (by omega) (by omega)]
  have key : ∀ v, v = abBehind P x1 x2 → Φ (0, v) σ := fun v e => by rw [e]; exact h
  clear h
  unfold abBehind at key
  have f1 : P 1 0 * (x1 / P 1 0 + 0) = P 1 0 * (x1 / P 1 0) := by rw [Int.add_zero]
  have f2 : P 1 0 * (x1 / P 1 0 + 1) = P 1 0 * (x1 / P 1 0) + P 1 0 := by rw [Int.mul_add, Int.mul_one]
  have f3 : P 1 0 * (x1 / P 1 0 + -1) = P 1 0 * (x1 / P 1 0) - P 1 0 := by rw [Int.mul_add, Int.mul_neg, Int.mul_one]; rfl
  have hs : x2 = 0 ∨ x2 = 1 ∨ x2 = 2 ∨ x2 = 3 ∨ x2 = 4 := by omega
  rcases hs with rfl | rfl | rfl | rfl | rfl
  all_goals simp only [Int.reduceEq, not_true_eq_false, not_false_eq_true, if_true, if_false, f1, f2, f3, ite_true, ite_false] at key ⊢
  all_goals repeat' first | apply And.intro | intro _
  all_goals first | contradiction | omega | (apply key; omega)
