/-! ===== a chart as a picture P (region, place), and what is asked of it ===== -/
abbrev abP : Type := Nat → Nat → Int
def isC (c : Nat) (P : abP) (σ : slM) : Prop := σ 1 c = P 1 ∧ σ 23 c = P 23 ∧ σ 24 c = P 24 ∧ σ 25 c = P 25 ∧ σ 26 c = P 26 ∧ σ 27 c = P 27 ∧ σ 28 c = P 28 ∧ σ 29 c = P 29 ∧ σ 30 c = P 30 ∧ σ 31 c = P 31 ∧ σ 32 c = P 32 ∧ σ 4 c = P 4 ∧ σ 37 c = P 37 ∧ σ 38 c = P 38
def chR : List Nat := [1, 23, 24, 25, 26, 27, 28, 29, 30, 31, 32, 4, 37, 38]
theorem isC.fr {c : Nat} {P : abP} {σ τ : slM} {L : List (Nat × Nat)} (h : isC c P σ) (f : slFr L σ τ) (hL : ∀ p ∈ L, p.1 ∉ chR) : isC c P τ := by
  have q : ∀ r, r ∈ chR → τ r c = σ r c := fun r hr => f r c (fun z => hL _ z hr)
  obtain ⟨h1, h2, h3, h4, h5, h6, h7, h8, h9, h10, h11, h12, h13, h14⟩ := h
  exact ⟨(q 1 (by decide)).trans h1, (q 23 (by decide)).trans h2, (q 24 (by decide)).trans h3, (q 25 (by decide)).trans h4, (q 26 (by decide)).trans h5, (q 27 (by decide)).trans h6, (q 28 (by decide)).trans h7, (q 29 (by decide)).trans h8, (q 30 (by decide)).trans h9, (q 31 (by decide)).trans h10, (q 32 (by decide)).trans h11, (q 4 (by decide)).trans h12, (q 37 (by decide)).trans h13, (q 38 (by decide)).trans h14⟩
def abFrom (P : abP) (law : Int) : Int := if law = 0 then 0 else P 38 (law - 1).toNat
def abSeg (f : Nat → Int) : Nat → Nat → List Int
  | _, 0 => []
  | a, n + 1 => f a :: abSeg f (a + 1) n
def abLaw (P : abP) (law : Int) : List Int := abSeg (P 37) (abFrom P law).toNat (P 38 law.toNat - abFrom P law).toNat
def abWf : List Int → Nat → Prop
  | [], d => d = 1
  | o :: os, d => -15 ≤ o ∧ o < 10000 ∧ if -6 ≤ o then d < 40 ∧ abWf os (d + 1) else if o = -7 then 1 ≤ d ∧ abWf os d else 2 ≤ d ∧ abWf os (d - 1)
def gdC (P : abP) : Prop :=
  (1 ≤ P 1 0 ∧ P 1 0 ≤ 12) ∧ (1 ≤ P 1 1 ∧ P 1 1 ≤ 12) ∧ (0 ≤ P 1 2 ∧ P 1 2 ≤ 12) ∧ (0 ≤ P 1 3 ∧ P 1 3 ≤ 5) ∧ (0 ≤ P 1 4 ∧ P 1 4 ≤ 8) ∧ (0 ≤ P 1 5 ∧ P 1 5 ≤ 8)
  ∧ (∀ k : Nat, k < 144 → P 23 k = 0 ∨ P 23 k = 1)
  ∧ (∀ i : Int, 0 ≤ i → i < P 1 2 → (0 ≤ P 24 i.toNat ∧ P 24 i.toNat < P 1 0) ∧ (0 ≤ P 25 i.toNat ∧ P 25 i.toNat < P 1 1) ∧ P 23 (P 1 0 * P 25 i.toNat + P 24 i.toNat).toNat = 1)
  ∧ (∀ l : Int, 0 ≤ l → l < P 1 3 → (1 ≤ P 26 l.toNat ∧ P 26 l.toNat ≤ 12) ∧ (0 ≤ P 27 l.toNat ∧ P 27 l.toNat ≤ 9) ∧ (1 ≤ P 28 l.toNat ∧ P 28 l.toNat ≤ 12) ∧ (1 ≤ P 30 l.toNat ∧ P 30 l.toNat ≤ 6) ∧ (0 ≤ P 31 l.toNat ∧ P 31 l.toNat < 2 ^ (P 30 l.toNat).toNat) ∧ ∀ k : Int, 0 ≤ k → k < P 28 l.toNat → 0 ≤ P 29 (l * 12 + k).toNat ∧ P 29 (l * 12 + k).toNat ≤ 4)
  ∧ (∀ k : Int, 0 ≤ k → k < P 1 5 → 0 ≤ P 32 k.toNat ∧ P 32 k.toNat ≤ 9)
  ∧ (0 ≤ P 4 4 ∧ P 4 4 ≤ 3) ∧ ∀ k : Int, 0 ≤ k → k < P 4 4 → (0 ≤ abFrom P k ∧ abFrom P k ≤ P 38 k.toNat ∧ P 38 k.toNat ≤ 700) ∧ abWf (abLaw P k) 0
/-- a cell of the sea -/
def gc (P : abP) (a : Int) : Prop := 0 ≤ a ∧ a < P 1 0 * P 1 1
theorem ab_div {a w h : Int} (hw : 0 < w) (ha : 0 ≤ a) (hh : a < w * h) : 0 ≤ a / w ∧ a / w < h := ⟨Int.ediv_nonneg ha (by omega), Int.ediv_lt_of_lt_mul hw (by rw [Int.mul_comm]; exact hh)⟩
theorem gdC.wh {P : abP} (h : gdC P) : 1 ≤ P 1 0 * P 1 1 ∧ P 1 0 * P 1 1 ≤ 144 := by
  obtain ⟨⟨a1, a2⟩, ⟨b1, b2⟩, -⟩ := h
  have q1 : 1 * 1 ≤ P 1 0 * P 1 1 := Int.mul_le_mul a1 b1 (by omega) (by omega)
  have q2 : P 1 0 * P 1 1 ≤ 12 * 12 := Int.mul_le_mul a2 b2 (by omega) (by omega)
  omega
theorem gc.dv {P : abP} {a : Int} (h : gdC P) (g : gc P a) : (0 ≤ a ∧ a < 144) ∧ (0 ≤ a % P 1 0 ∧ a % P 1 0 < P 1 0) ∧ (0 ≤ a / P 1 0 ∧ a / P 1 0 < P 1 1) ∧ (1 ≤ P 1 0 ∧ P 1 0 ≤ 12) ∧ (1 ≤ P 1 1 ∧ P 1 1 ≤ 12) := by
  have w := h.wh
  obtain ⟨⟨a1, a2⟩, ⟨b1, b2⟩, -⟩ := h
  obtain ⟨g1, g2⟩ := g
  exact ⟨⟨g1, by omega⟩, ab_mod (by omega), ab_div (by omega) g1 g2, ⟨a1, a2⟩, b1, b2⟩
def abAbs (x : Int) : Int := if 0 ≤ x then x else 0 - x
def abMax (x y : Int) : Int := if x < y then y else x
def abFar (w a b : Int) : Int := abMax (abAbs (a % w - b % w)) (abAbs (a / w - b / w))
def abWithin (p w : Int) : Prop := (0 ≤ w ∧ 0 ≤ p ∧ p ≤ w) ∨ (w < 0 ∧ p ≤ 0 ∧ w ≤ p)
def abBetween (x y ax ay : Int) : Prop := x * ay = y * ax ∧ abWithin x ax ∧ abWithin y ay ∧ (x ≠ 0 ∨ y ≠ 0) ∧ (x ≠ ax ∨ y ≠ ay)
def abHid (P : abP) (a b : Int) : Prop := ∃ i : Int, 0 ≤ i ∧ i < P 1 2 ∧ abBetween (P 24 i.toNat - a % P 1 0) (P 25 i.toNat - a / P 1 0) (b % P 1 0 - a % P 1 0) (b / P 1 0 - a / P 1 0)
noncomputable def abSight (P : abP) (a b : Int) : Int := abIf (abHid P a b) 99 (abFar (P 1 0) a b)
def abBehind (P : abP) (c s : Int) : Int :=
  if s = 0 then (if c / P 1 0 ≤ 0 then -1 else c - P 1 0) else if s = 1 then (if P 1 0 ≤ c % P 1 0 + 1 then -1 else c + 1)
  else if s = 2 then (if P 1 1 ≤ c / P 1 0 + 1 then -1 else c + P 1 0) else if s = 3 then (if c % P 1 0 ≤ 0 then -1 else c - 1) else c
def abOpen (P : abP) (c : Int) : Prop := 0 ≤ c ∧ c < P 1 0 * P 1 1 ∧ P 23 c.toNat = 0
def abFog (P : abP) (n : Int) : Int := if 0 < P 1 5 then P 32 (n % P 1 5).toNat else 0
def abWay (P : abP) (l h : Int) : Int := P 29 (l * 12 + h % P 28 l.toNat).toNat
def abOil (o h : Int) : Int := if 0 < o - (12 * (h / 24) + (if 0 < h % 24 - 12 then h % 24 - 12 else 0)) then o - (12 * (h / 24) + (if 0 < h % 24 - 12 then h % 24 - 12 else 0)) else 0
def abLit (o h : Int) : Prop := 12 ≤ h % 24 ∧ 0 < abOil o h
theorem ab_mul {a b : Int} (h1 : -200 ≤ a) (h2 : a ≤ 200) (h3 : -200 ≤ b) (h4 : b ≤ 200) : -40000 ≤ a * b ∧ a * b ≤ 40000 := by
  have q : (a * b).natAbs ≤ 200 * 200 := by
    rw [Int.natAbs_mul]
    exact Nat.mul_le_mul (by omega) (by omega)
  omega
set_option maxHeartbeats 1000000 in
set_option maxRecDepth 4000 in
theorem sp_X11_remainder {G : slG} (hG : slGood G) {d K : Nat} (hd : 0 ≤ d) (hK : 0 ≤ K) {Φ : slPost} {σ : slM} {x0 : Int} {x1 : Int} (h0 : 0 ≤ x0 ∧ x0 < 2147483648) (h1 : 0 < x1 ∧ x1 < 2147483648) (h : Φ (0, x0 % x1) σ) :
    slCall G mX11_remainder d K [sI x0, sI x1] σ Φ := by
  refine vc_X11_remainder hG (by omega) hK  ?_
  rw [sRem_eq h0.1 h0.2 h1.1 h1.2]
  exact ⟨⟨by omega, by omega⟩, fun _ => ⟨⟨⟨by omega, by omega⟩, by omega⟩, h⟩, fun _ => by omega⟩
set_option maxHeartbeats 1000000 in
set_option maxRecDepth 4000 in
theorem sp_X11_quotient {G : slG} (hG : slGood G) {d K : Nat} (hd : 0 ≤ d) (hK : 0 ≤ K) {Φ : slPost} {σ : slM} {x0 : Int} {x1 : Int} (h0 : 0 ≤ x0 ∧ x0 < 2147483648) (h1 : 0 < x1 ∧ x1 < 2147483648) (h : Φ (0, x0 / x1) σ) :
    slCall G mX11_quotient d K [sI x0, sI x1] σ Φ := by
  refine vc_X11_quotient hG (by omega) hK  ?_
  rw [sDiv_eq h0.1 h0.2 h1.1 h1.2]
  exact ⟨⟨by omega, by omega⟩, fun _ => ⟨⟨⟨by omega, by omega⟩, by omega⟩, h⟩, fun _ => by omega⟩
set_option maxHeartbeats 1000000 in
set_option maxRecDepth 4000 in
theorem sp_X1_columnOf {G : slG} (hG : slGood G) {d K : Nat} (hd : 0 ≤ d) (hK : 0 ≤ K) {Φ : slPost} {σ : slM} {i0 : Nat} {x1 : Int} (h0 : 0 ≤ x1 ∧ x1 < 2147483648) (h1 : 0 < σ 1 i0 0 ∧ σ 1 i0 0 < 2147483648) (h : Φ (0, x1 % σ 1 i0 0) σ) :
    slCall G mX1_columnOf d K [sR 1 i0, sI x1] σ Φ := by
  refine vc_X1_columnOf hG (by omega) hK  ?_
  rw [sRem_eq h0.1 h0.2 h1.1 h1.2]
  exact ⟨⟨by omega, by omega⟩, fun _ => ⟨⟨⟨by omega, by omega⟩, by omega⟩, h⟩, fun _ => by omega⟩
set_option maxHeartbeats 1000000 in
set_option maxRecDepth 4000 in
theorem sp_X1_rowOf {G : slG} (hG : slGood G) {d K : Nat} (hd : 0 ≤ d) (hK : 0 ≤ K) {Φ : slPost} {σ : slM} {i0 : Nat} {x1 : Int} (h0 : 0 ≤ x1 ∧ x1 < 2147483648) (h1 : 0 < σ 1 i0 0 ∧ σ 1 i0 0 < 2147483648) (h : Φ (0, x1 / σ 1 i0 0) σ) :
    slCall G mX1_rowOf d K [sR 1 i0, sI x1] σ Φ := by
  refine vc_X1_rowOf hG (by omega) hK  ?_
  rw [sDiv_eq h0.1 h0.2 h1.1 h1.2]
  exact ⟨⟨by omega, by omega⟩, fun _ => ⟨⟨⟨by omega, by omega⟩, by omega⟩, h⟩, fun _ => by omega⟩
set_option maxHeartbeats 1000000 in
set_option maxRecDepth 4000 in
theorem sp_X1_cells {G : slG} (hG : slGood G) {d K : Nat} (hd : 0 ≤ d) (hK : 0 ≤ K) {Φ : slPost} {σ : slM} {i0 : Nat} (h : Φ (0, σ 1 i0 0 * σ 1 i0 1) σ) :
    slCall G mX1_cells d K [sR 1 i0] σ Φ := by
  refine vc_X1_cells hG (by omega) hK  ?_
  exact h
set_option maxHeartbeats 1000000 in
set_option maxRecDepth 4000 in
theorem sp_X1_isOpen {G : slG} (hG : slGood G) {d K : Nat} (hd : 1 ≤ d) (hK : 0 ≤ K) {Φ : slPost} {σ : slM} {i0 : Nat} {x1 : Int} {P : abP} (hP : isC i0 P σ) (hC : gdC P) (hx : InR x1) (h : Φ (0, abIf (abOpen P x1) 1 0) σ) :
    slCall G mX1_isOpen d K [sR 1 i0, sI x1] σ Φ := by
  refine vc_X1_isOpen hG (by omega) hK  ?_
  have w := hC.wh
  obtain ⟨p1, p23, -⟩ := hP
  refine ⟨hx, fun q => ?_, fun q => ?_⟩
  · rwa [abIf_f (fun z => by have := z.1; omega)] at h
  · refine sp_X1_cells hG (by omega) (by omega) (slKt.ok ?_)
    rw [p1, p23]
    refine ⟨⟨hx, by omega, by omega⟩, fun q2 => ?_, fun q2 => ⟨⟨by omega, by omega⟩, ?_, fun q3 => ?_, fun q3 => ?_⟩⟩
    · rwa [abIf_f (fun z => by have := z.2.1; omega)] at h
    · have := hC.2.2.2.2.2.2.1 x1.toNat (by omega)
      exact ⟨by omega, by omega⟩
    · rwa [abIf_f (fun z => q3 z.2.2)] at h
    · rwa [abIf_t ⟨by omega, by omega, q3⟩] at h
set_option maxHeartbeats 1000000 in
set_option maxRecDepth 4000 in
theorem sp_X1_stepOf {G : slG} (hG : slGood G) {d K : Nat} (hd : 1 ≤ d) (hK : 0 ≤ K) {Φ : slPost} {σ : slM} {i0 : Nat} {x1 : Int} {x2 : Int} {P : abP} (hP : isC i0 P σ) (hC : gdC P) (h0 : 0 ≤ x1 ∧ x1 < P 1 3) (h2 : 0 ≤ x2 ∧ x2 < 2147483648) (h : Φ (0, abWay P x1 x2) σ) :
    slCall G mX1_stepOf d K [sR 1 i0, sI x1, sI x2] σ Φ := by
  refine vc_X1_stepOf hG (by omega) hK  ?_
  obtain ⟨p1, p23, p24, p25, p26, p27, p28, p29, -⟩ := hP
  have a := hC.2.2.2.1
  obtain ⟨-, -, b, -⟩ := hC.2.2.2.2.2.2.2.2.1 x1 h0.1 h0.2
  have m := ab_mod (a := x2) (b := P 28 x1.toNat) (by omega)
  refine ⟨⟨by omega, by omega⟩, ?_⟩
  rw [p28]
  refine sp_X11_remainder hG (by omega) (by omega) h2 ⟨by omega, by omega⟩ (slKn.ok ⟨⟨by omega, by omega⟩, ?_⟩)
  rw [p29]
  exact h
set_option maxHeartbeats 1000000 in
set_option maxRecDepth 4000 in
theorem sp_X1_cellBehind {G : slG} (hG : slGood G) {d K : Nat} (hd : 1 ≤ d) (hK : 0 ≤ K) {Φ : slPost} {σ : slM} {i0 : Nat} {x1 : Int} {x2 : Int} {P : abP} (hP : isC i0 P σ) (hC : gdC P) (h0 : gc P x1) (h2 : InR x2) (h : Φ (0, abBehind P x1 x2) σ) :
    slCall G mX1_cellBehind d K [sR 1 i0, sI x1, sI x2] σ Φ := by
  refine vc_X1_cellBehind hG (by omega) hK  ?_
  obtain ⟨p1, -⟩ := hP
  have g := h0.dv hC
  refine sp_X1_columnOf hG (by omega) (by omega) ⟨by omega, by omega⟩ (by rw [p1]; exact ⟨by omega, by omega⟩) (slKt.ok ?_)
  refine sp_X1_rowOf hG (by omega) (by omega) ⟨by omega, by omega⟩ (by rw [p1]; exact ⟨by omega, by omega⟩) (slKt.ok ?_)
  rw [p1]
  unfold abBehind at h
  refine ⟨h2, fun e => ⟨⟨by omega, by omega⟩, fun q => ?_, fun q => ?_⟩, fun e => ⟨⟨⟨by omega, by omega⟩, by omega, by omega⟩, fun q => ?_, fun q => ?_⟩, fun e => ⟨⟨⟨by omega, by omega⟩, by omega, by omega⟩, fun q => ?_, fun q => ?_⟩, fun e => ⟨⟨by omega, by omega⟩, fun q => ?_, fun q => ?_⟩, fun e => ?_⟩
  · rw [if_pos e, if_pos q] at h; exact h
  · rw [if_pos e, if_neg q] at h; exact h
  · rw [if_neg (by omega), if_pos e, if_pos q] at h; exact h
  · rw [if_neg (by omega), if_pos e, if_neg q] at h; exact h
  · rw [if_neg (by omega), if_neg (by omega), if_pos e, if_pos q] at h; exact h
  · rw [if_neg (by omega), if_neg (by omega), if_pos e, if_neg q] at h; exact h
  · rw [if_neg (by omega), if_neg (by omega), if_neg (by omega), if_pos e, if_pos q] at h; exact h
  · rw [if_neg (by omega), if_neg (by omega), if_neg (by omega), if_pos e, if_neg q] at h; exact h
  · rw [if_neg (by omega), if_neg (by omega), if_neg (by omega), if_neg (by omega)] at h; exact h
set_option maxHeartbeats 1000000 in
set_option maxRecDepth 4000 in
theorem sp_X1_farBetween {G : slG} (hG : slGood G) {d K : Nat} (hd : 1 ≤ d) (hK : 0 ≤ K) {Φ : slPost} {σ : slM} {i0 : Nat} {x1 : Int} {x2 : Int} {P : abP} (hP : isC i0 P σ) (hC : gdC P) (h1 : gc P x1) (h2 : gc P x2) (h : Φ (0, abFar (P 1 0) x1 x2) σ) :
    slCall G mX1_farBetween d K [sR 1 i0, sI x1, sI x2] σ Φ := by
  refine vc_X1_farBetween hG (by omega) hK  ?_
  obtain ⟨p1, -⟩ := hP
  have g1 := h1.dv hC
  have g2 := h2.dv hC
  have hw : 0 < σ 1 i0 0 ∧ σ 1 i0 0 < 2147483648 := by rw [p1]; exact ⟨by omega, by omega⟩
  refine sp_X1_columnOf hG (by omega) (by omega) ⟨by omega, by omega⟩ hw (slKt.ok ?_)
  refine sp_X1_columnOf hG (by omega) (by omega) ⟨by omega, by omega⟩ hw (slKt.ok ⟨by rw [p1]; exact ⟨by omega, by omega⟩, ?_⟩)
  refine sp_X1_rowOf hG (by omega) (by omega) ⟨by omega, by omega⟩ hw (slKt.ok ?_)
  refine sp_X1_rowOf hG (by omega) (by omega) ⟨by omega, by omega⟩ hw (slKt.ok ⟨by rw [p1]; exact ⟨by omega, by omega⟩, ?_⟩)
  rw [p1]
  exact ⟨⟨⟨by omega, by omega⟩, by omega, by omega⟩, h⟩
set_option maxHeartbeats 1000000 in
set_option maxRecDepth 4000 in
theorem sp_X1_isWithin {G : slG} (hG : slGood G) {d K : Nat} (hd : 0 ≤ d) (hK : 0 ≤ K) {Φ : slPost} {σ : slM} {x0 : Int} {x1 : Int} (h0 : InR x0) (h1 : InR x1) (h : Φ (0, abIf (abWithin x0 x1) 1 0) σ) :
    slCall G mX1_isWithin d K [sI x0, sI x1] σ Φ := by
  refine vc_X1_isWithin hG (by omega) hK  ?_
  unfold abWithin at h
  refine ⟨h1, fun q => ⟨h0, fun q2 => ?_, fun q2 => ⟨⟨h0, h1⟩, fun q3 => ?_, fun q3 => ?_⟩⟩, fun q => ⟨h0, fun q2 => ?_, fun q2 => ⟨⟨h0, h1⟩, fun q3 => ?_, fun q3 => ?_⟩⟩⟩
  · rwa [abIf_f (by omega)] at h
  · rwa [abIf_f (by omega)] at h
  · rwa [abIf_t (by omega)] at h
  · rwa [abIf_f (by omega)] at h
  · rwa [abIf_f (by omega)] at h
  · rwa [abIf_t (by omega)] at h
set_option maxHeartbeats 1000000 in
set_option maxRecDepth 4000 in
theorem sp_X1_isBetween {G : slG} (hG : slGood G) {d K : Nat} (hd : 1 ≤ d) (hK : 0 ≤ K) {Φ : slPost} {σ : slM} {x0 : Int} {x1 : Int} {x2 : Int} {x3 : Int} (h0 : -200 ≤ x0 ∧ x0 ≤ 200) (h1 : -200 ≤ x1 ∧ x1 ≤ 200) (h2 : -200 ≤ x2 ∧ x2 ≤ 200) (h3 : -200 ≤ x3 ∧ x3 ≤ 200) (h : Φ (0, abIf (abBetween x0 x1 x2 x3) 1 0) σ) :
    slCall G mX1_isBetween d K [sI x0, sI x1, sI x2, sI x3] σ Φ := by
  refine vc_X1_isBetween hG (by omega) hK  ?_
  have m1 := ab_mul h0.1 h0.2 h3.1 h3.2
  have m2 := ab_mul h1.1 h1.2 h2.1 h2.2
  have z01 : ∀ {p : Prop}, InR (abIf p 1 0) := fun {p} => by
    have := abIf_01 (p := p)
    exact ⟨by omega, by omega⟩
  have i0 : InR x0 := ⟨by omega, by omega⟩
  have i1 : InR x1 := ⟨by omega, by omega⟩
  have i2 : InR x2 := ⟨by omega, by omega⟩
  have i3 : InR x3 := ⟨by omega, by omega⟩
  refine ⟨⟨⟨by omega, by omega⟩, by omega, by omega⟩, fun q => ?_, fun q => ?_⟩
  · rwa [abIf_f (fun z => q z.1)] at h
  refine sp_X1_isWithin hG (by omega) (by omega) i0 i2 (slKt.ok ⟨z01, fun q2 => ?_, fun q2 => ?_⟩)
  · rw [abIf_f (fun z => by rw [abIf_t z.2.1] at q2; omega)] at h; exact h
  have w1 : abWithin x0 x2 := by
    by_cases z : abWithin x0 x2
    · exact z
    · exact absurd (abIf_f z) q2
  refine sp_X1_isWithin hG (by omega) (by omega) i1 i3 (slKt.ok ⟨z01, fun q3 => ?_, fun q3 => ?_⟩)
  · rw [abIf_f (fun z => by rw [abIf_t z.2.2.1] at q3; omega)] at h; exact h
  have w2 : abWithin x1 x3 := by
    by_cases z : abWithin x1 x3
    · exact z
    · exact absurd (abIf_f z) q3
  have A : (x0 ≠ 0 ∨ x1 ≠ 0) → (x0 ≠ x2 ∨ x1 ≠ x3) → Φ (0, 1) σ := fun a b => by rwa [abIf_t ⟨q, w1, w2, a, b⟩] at h
  have B : ¬ (x0 ≠ 0 ∨ x1 ≠ 0) → Φ (0, 0) σ := fun a => by rwa [abIf_f (fun z => a z.2.2.2.1)] at h
  have C : ¬ (x0 ≠ x2 ∨ x1 ≠ x3) → Φ (0, 0) σ := fun a => by rwa [abIf_f (fun z => a z.2.2.2.2)] at h
  exact ⟨i0, fun e => ⟨⟨i0, i2⟩, fun f => A (by omega) (by omega), fun f => ⟨⟨i1, i3⟩, fun g => C (by omega), fun g => A (by omega) (by omega)⟩⟩, fun e => ⟨i1, fun f => B (by omega), fun f => ⟨⟨i0, i2⟩, fun g => A (by omega) (by omega), fun g => ⟨⟨i1, i3⟩, fun k => C (by omega), fun k => A (by omega) (by omega)⟩⟩⟩⟩
set_option maxHeartbeats 1000000 in
set_option maxRecDepth 4000 in
theorem sp_X1_sight {G : slG} (hG : slGood G) {d K : Nat} (hd : 2 ≤ d) (hK : 0 ≤ K) {Φ : slPost} {σ : slM} {i0 : Nat} {x1 : Int} {x2 : Int} {P : abP} (hP : isC i0 P σ) (hC : gdC P) (h1 : gc P x1) (h2 : gc P x2) (h : Φ (0, abSight P x1 x2) σ) :
    slCall G mX1_sight d K [sR 1 i0, sI x1, sI x2] σ Φ := by
  refine vc_X1_sight hG (by omega) hK (fun μ y3 y4 y5 y6 y7 σ' => σ' = σ ∧ μ = ((P 1 2 - y7).toNat, 0, 0) ∧ (0 ≤ y7 ∧ y7 ≤ P 1 2) ∧ y3 = x1 % P 1 0 ∧ y4 = x1 / P 1 0 ∧ y5 = x2 % P 1 0 - x1 % P 1 0 ∧ y6 = x2 / P 1 0 - x1 / P 1 0 ∧ ∀ i : Int, 0 ≤ i → i < y7 → ¬ abBetween (P 24 i.toNat - x1 % P 1 0) (P 25 i.toNat - x1 / P 1 0) (x2 % P 1 0 - x1 % P 1 0) (x2 / P 1 0 - x1 / P 1 0)) ?_ ?_
  · obtain ⟨p1, -⟩ := hP
    have g1 := h1.dv hC
    have g2 := h2.dv hC
    have n := hC.2.2.1
    have hw : 0 < σ 1 i0 0 ∧ σ 1 i0 0 < 2147483648 := by rw [p1]; exact ⟨by omega, by omega⟩
    refine sp_X1_columnOf hG (by omega) (by omega) ⟨by omega, by omega⟩ hw (slKt.ok ?_)
    refine sp_X1_rowOf hG (by omega) (by omega) ⟨by omega, by omega⟩ hw (slKt.ok ?_)
    refine sp_X1_columnOf hG (by omega) (by omega) ⟨by omega, by omega⟩ hw (slKt.ok ?_)
    refine sp_X1_rowOf hG (by omega) (by omega) ⟨by omega, by omega⟩ hw (slKt.ok ?_)
    rw [p1]
    exact ⟨_, rfl, rfl, ⟨by omega, by omega⟩, rfl, rfl, rfl, rfl, fun i a b => by omega⟩
  · obtain ⟨p1, p23, p24, p25, -⟩ := hP
    have g1 := h1.dv hC
    have g2 := h2.dv hC
    have n := hC.2.2.1
    rintro μ y3 y4 y5 y6 y7 σ' ⟨rfl, rfl, hy, rfl, rfl, rfl, rfl, hb⟩
    rw [p1, p24, p25]
    refine ⟨⟨⟨by omega, by omega⟩, by omega, by omega⟩, fun q => ⟨⟨by omega, by omega⟩, ⟨by omega, by omega⟩, ⟨⟨by omega, by omega⟩, by omega, by omega⟩, ?_⟩, fun q => ⟨⟨by omega, by omega⟩, ⟨by omega, by omega⟩, ?_⟩⟩
    · unfold abSight at h
      rw [abIf_f (fun z => by obtain ⟨i, a, b, c⟩ := z; exact hb i a (by omega) c)] at h
      unfold abFar abMax abAbs at h
      have e1 : ∀ a b : Int, (if 0 ≤ b - a then b - a else 0 - (b - a)) = (if 0 ≤ a - b then a - b else 0 - (a - b)) := fun a b => by omega
      rw [e1 (x1 % P 1 0) (x2 % P 1 0), e1 (x1 / P 1 0) (x2 / P 1 0)]
      exact h
    · have c := hC.2.2.2.2.2.2.2.1 y7 hy.1 (by omega)
      refine sp_X1_isBetween hG (by omega) (by omega) ⟨by omega, by omega⟩ ⟨by omega, by omega⟩ ⟨by omega, by omega⟩ ⟨by omega, by omega⟩ (slKt.ok ⟨?_, fun e => ?_, fun e => ?_⟩)
      · rcases abIf_01 (p := abBetween (P 24 y7.toNat - x1 % P 1 0) (P 25 y7.toNat - x1 / P 1 0) (x2 % P 1 0 - x1 % P 1 0) (x2 / P 1 0 - x1 / P 1 0)) with z | z <;> rw [z] <;> exact ⟨by omega, by omega⟩
      · refine ⟨((P 1 2 - (y7 + 1)).toNat, 0, 0), Or.inl (by show (P 1 2 - (y7 + 1)).toNat < (P 1 2 - y7).toNat; omega), rfl, rfl, ⟨by omega, by omega⟩, rfl, rfl, rfl, rfl, fun i a b => ?_⟩
        by_cases k : i = y7
        · subst k
          intro z
          rw [abIf_t z] at e
          omega
        · exact hb i a (by omega)
      · unfold abSight at h
        rw [abIf_t] at h
        · exact h
        · by_cases z : abBetween (P 24 y7.toNat - x1 % P 1 0) (P 25 y7.toNat - x1 / P 1 0) (x2 % P 1 0 - x1 % P 1 0) (x2 / P 1 0 - x1 / P 1 0)
          · exact ⟨y7, hy.1, by omega, z⟩
          · exact absurd (abIf_f z) e
set_option maxHeartbeats 1000000 in
set_option maxRecDepth 4000 in
theorem sp_X1_fogIn {G : slG} (hG : slGood G) {d K : Nat} (hd : 1 ≤ d) (hK : 0 ≤ K) {Φ : slPost} {σ : slM} {i0 : Nat} {x1 : Int} {P : abP} (hP : isC i0 P σ) (hC : gdC P) (h1 : 0 ≤ x1 ∧ x1 < 2147483648) (h : Φ (0, abFog P x1) σ) :
    slCall G mX1_fogIn d K [sR 1 i0, sI x1] σ Φ := by
  refine vc_X1_fogIn hG (by omega) hK  ?_
  obtain ⟨p1, p23, p24, p25, p26, p27, p28, p29, p30, p31, p32, -⟩ := hP
  have a := hC.2.2.2.2.2.1
  unfold abFog at h
  rw [p1]
  refine ⟨⟨by omega, by omega⟩, fun q => ?_, fun q => ?_⟩
  · have m := ab_mod (a := x1) (b := P 1 5) q
    refine sp_X11_remainder hG (by omega) (by omega) h1 ⟨by omega, by omega⟩ (slKn.ok ⟨⟨by omega, by omega⟩, ?_⟩)
    rw [p32]
    rwa [if_pos q] at h
  · rwa [if_neg q] at h
set_option maxHeartbeats 1000000 in
set_option maxRecDepth 4000 in
theorem sp_X11_oilIn {G : slG} (hG : slGood G) {d K : Nat} (hd : 1 ≤ d) (hK : 0 ≤ K) {Φ : slPost} {σ : slM} {x0 : Int} {x1 : Int} (h0 : 0 ≤ x0 ∧ x0 ≤ 200) (h1 : 0 ≤ x1 ∧ x1 < 240) (h : Φ (0, abOil x0 x1) σ) :
    slCall G mX11_oilIn d K [sI x0, sI x1] σ Φ := by
  refine vc_X11_oilIn hG (by omega) hK  ?_
  rw [sRem_eq h1.1 (by omega) (by omega) (by omega), sDiv_eq h1.1 (by omega) (by omega) (by omega)]
  exact ⟨⟨by omega, by omega⟩, ⟨by omega, by omega⟩, h⟩
theorem abOil_r {o h : Int} (h0 : 0 ≤ o ∧ o ≤ 200) (h1 : 0 ≤ h ∧ h < 240) : 0 ≤ abOil o h ∧ abOil o h ≤ 200 := by unfold abOil; omega
set_option maxHeartbeats 1000000 in
set_option maxRecDepth 4000 in
theorem sp_X11_isLit {G : slG} (hG : slGood G) {d K : Nat} (hd : 2 ≤ d) (hK : 0 ≤ K) {Φ : slPost} {σ : slM} {x0 : Int} {x1 : Int} (h0 : 0 ≤ x0 ∧ x0 ≤ 200) (h1 : 0 ≤ x1 ∧ x1 < 240) (h : Φ (0, abIf (abLit x0 x1) 1 0) σ) :
    slCall G mX11_isLit d K [sI x0, sI x1] σ Φ := by
  refine vc_X11_isLit hG (by omega) hK  ?_
  have r := abOil_r h0 h1
  rw [sRem_eq h1.1 (by omega) (by omega) (by omega)]
  refine ⟨⟨by omega, by omega⟩, fun q => ?_, fun q => ?_⟩
  · rwa [abIf_f (fun z => by have := z.1; omega)] at h
  · refine sp_X11_oilIn hG (by omega) (by omega) h0 h1 (slKt.ok ⟨⟨by omega, by omega⟩, fun q2 => ?_, fun q2 => ?_⟩)
    · rwa [abIf_f (fun z => by have := z.2; omega)] at h
    · rwa [abIf_t ⟨by omega, by omega⟩] at h
