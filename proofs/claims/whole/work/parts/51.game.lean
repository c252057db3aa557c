/-! ===== games of lamps ===== -/
def abSi (Z : abZ) (n s l h : Int) : Prop := abSight Z.1 (Z.2.1.1 1 s) (abC Z.1 Z.2.1.1 h l) ≤ Z.1 26 l.toNat - abFog Z.1 n
def abRs (a b : Int) : Int := sAnd (sAnd 31 (sXor (sShl 1 a) (-1))) (sXor (sShl 1 b) (-1))
def abAlP (Z : abZ) (a b y n s h : Int) : Prop := abSi Z n s a h ∧ sAnd (abNow Z.1 (abC Z.1 Z.2.1.1) (Z.2.1.1 0) (Z.2.1.1 1) s h) (abRs a b) = 0 ∧ ¬ (¬ y = 0 ∧ abSi Z n s b h)
def abAny (Z : abZ) (a b y n s : Int) : Prop := ∃ h : Int, 24 * n + 12 ≤ h ∧ h < 24 * n + 24 ∧ abAlP Z a b y n s h
noncomputable def abCnA (Z : abZ) (a b y n : Int) (k : Nat) : Int := abSum (fun s => abIf (abAny Z a b y n s) 1 0) k
noncomputable def abGain (Z : abZ) (a x b y n : Int) : Int := if x = 0 then 0 else 5 * abCnA Z a b y n (Z.1 1 4).toNat
theorem abGain_r {Z : abZ} {a x b y n : Int} (hC : gdC Z.1) : 0 ≤ abGain Z a x b y n ∧ abGain Z a x b y n ≤ 40 := by
  have a4 := hC.2.2.2.2.1
  have q := abSum_le (f := fun s => abIf (abAny Z a b y n s) 1 0) (B := 1) (n := (Z.1 1 4).toNat) (fun k _ _ => by
    rcases abIf_01 (p := abAny Z a b y n k) with z | z <;> (show 0 ≤ abIf _ 1 0 ∧ abIf _ 1 0 ≤ 1) <;> rw [z] <;> omega)
  unfold abGain abCnA
  split
  · omega
  · omega
set_option maxHeartbeats 1000000 in
set_option maxRecDepth 4000 in
theorem sp_X11_isInSight {G : slG} (hG : slGood G) {d K : Nat} (hd : 20 ≤ d) (hK : 0 ≤ K) {Φ : slPost} {σ : slM} {x1 : Int} {x2 : Int} {x3 : Int} {x4 : Int} {c s N : Nat} {Z : abZ} {n : Int} (hX : isX c s Z σ) (hZ : gdZ N Z) (t : isStl Z.1 Z.2.1.1 σ) (h1 : 0 ≤ x1 ∧ x1 < Z.1 1 4) (h2 : 0 ≤ x2 ∧ x2 < Z.1 1 3) (h3 : 0 ≤ x3 ∧ x3 < 240) (hn : 0 ≤ n) (h4 : x4 = abFog Z.1 n) (h : Φ (0, abIf (abSi Z n x1 x2 x3) 1 0) σ) :
    slCall G mX11_isInSight d K [sR 11 0, sI x1, sI x2, sI x3, sI x4] σ Φ := by
  refine vc_X11_isInSight hG (by omega) hK  ?_
  have a3 := hZ.c.2.2.2.1
  have a4 := hZ.c.2.2.2.2.1
  have g := abC_cell hZ.v (h := x3) h2.1 h2.2
  have gd := g.dv hZ.c
  have sr := abSight_r hZ.c (hZ.v.2.2.1 x1 h1.1 h1.2).1 g
  have rc := (hZ.c.2.2.2.2.2.2.2.2.1 x2 h2.1 h2.2).1
  have fg := abFog_r (n := n) hZ.c hn
  obtain ⟨p1, p23, p24, p25, p26, -⟩ := hX.cc
  refine sp_X3_cellOf hG (by omega) (by omega) ⟨by omega, by omega⟩ h3 (slKt.ok ?_)
  rw [t.2.2.1 x3 x2 h3.1 h3.2 h2.1 h2.2, hX.e4, p26, t.1 x1 _ h1.1 h1.2 g, h4]
  refine ⟨⟨by omega, by omega⟩, ⟨by omega, by omega⟩, ⟨⟨by omega, by omega⟩, by omega, by omega⟩, fun q => ?_, fun q => ?_⟩
  · rwa [abIf_f (fun z => by unfold abSi at z; omega)] at h
  · rwa [abIf_t (by unfold abSi; omega)] at h
set_option maxHeartbeats 1000000 in
set_option maxRecDepth 4000 in
theorem sp_X11_isOnceAlone {G : slG} (hG : slGood G) {d K : Nat} (hd : 30 ≤ d) (hK : 0 ≤ K) {Φ : slPost} {σ : slM} {x1 : Int} {x2 : Int} {x3 : Int} {x4 : Int} {x5 : Int} {c s N : Nat} {Z : abZ} (hX : isX c s Z σ) (hZ : gdZ N Z) (t : isStl Z.1 Z.2.1.1 σ) (h1 : 0 ≤ x1 ∧ x1 < Z.1 1 4) (h2 : 0 ≤ x2 ∧ x2 < Z.1 1 3) (h3 : 0 ≤ x3 ∧ x3 < Z.1 1 3) (i4 : InR x4) (h5 : 0 ≤ x5 ∧ x5 < 10) (h : Φ (0, abIf (abAny Z x2 x3 x4 x5 x1) 1 0) σ) :
    slCall G mX11_isOnceAlone d K [sR 11 0, sI x1, sI x2, sI x3, sI x4, sI x5] σ Φ := by
  refine vc_X11_isOnceAlone hG (by omega) hK (fun μ y6 y7 y8 σ' => σ' = σ ∧ y6 = abFog Z.1 x5 ∧ y7 = abRs x2 x3 ∧ μ = ((24 * x5 + 24 - y8).toNat, 0, 0) ∧ (24 * x5 + 12 ≤ y8 ∧ y8 ≤ 24 * x5 + 24) ∧ ∀ k : Int, 24 * x5 + 12 ≤ k → k < y8 → ¬ abAlP Z x2 x3 x4 x5 x1 k) ?_ ?_
  · rw [hX.e4]
    refine sp_X1_fogIn hG (by omega) (by omega) hX.cc hZ.c ⟨by omega, by omega⟩ (slKt.ok ⟨_, rfl, rfl, rfl, rfl, ⟨by omega, by omega⟩, fun k a b => by omega⟩)
  · have a4 := hZ.c.2.2.2.2.1
    rintro μ y6 y7 y8 σ' ⟨rfl, rfl, rfl, rfl, hy, al⟩
    have lt : ¬ x5 * 24 + 24 ≤ y8 → slLt ((24 * x5 + 24 - (y8 + 1)).toNat, 0, 0) ((24 * x5 + 24 - y8).toNat, 0, 0) := fun q => Or.inl (by show (24 * x5 + 24 - (y8 + 1)).toNat < (24 * x5 + 24 - y8).toNat; omega)
    have nx : ¬ abAlP Z x2 x3 x4 x5 x1 y8 → ∀ k : Int, 24 * x5 + 12 ≤ k → k < y8 + 1 → ¬ abAlP Z x2 x3 x4 x5 x1 k := fun e k a b => by
      by_cases z : k = y8
      · rw [z]; exact e
      · exact al k a (by omega)
    have yes : ¬ x5 * 24 + 24 ≤ y8 → abAlP Z x2 x3 x4 x5 x1 y8 → Φ (0, 1) σ' := fun q e => by rwa [abIf_t ⟨y8, hy.1, by omega, e⟩] at h
    refine ⟨⟨⟨by omega, by omega⟩, by omega, by omega⟩, fun q => ?_, fun q => ?_⟩
    · rw [abIf_f (fun z => by obtain ⟨k, a, b, c⟩ := z; exact al k a (by omega) c)] at h
      exact h
    · refine sp_X11_isInSight hG (by omega) (by omega) (n := x5) hX hZ t h1 h2 ⟨by omega, by omega⟩ h5.1 rfl (slKt.ok ⟨in01, fun z => ⟨_, lt q, rfl, rfl, rfl, rfl, ⟨by omega, by omega⟩, nx (fun e => abIf_z z e.1)⟩, fun z => ?_⟩)
      have z1 := abIf_nz z
      refine sp_X3_sightsOf hG (by omega) (by omega) ⟨by omega, by omega⟩ ⟨by omega, by omega⟩ (slKt.ok ?_)
      rw [t.2.2.2 x1 y8 h1.1 h1.2 (by omega) (by omega)]
      refine ⟨inAnd, fun w => ⟨_, lt q, rfl, rfl, rfl, rfl, ⟨by omega, by omega⟩, nx (fun e => w e.2.1)⟩, fun w => ⟨i4, fun u => yes q ⟨z1, w, fun v => v.1 u⟩, fun u => ?_⟩⟩
      refine sp_X11_isInSight hG (by omega) (by omega) (n := x5) hX hZ t h1 h3 ⟨by omega, by omega⟩ h5.1 rfl (slKt.ok ⟨in01, fun v => ⟨_, lt q, rfl, rfl, rfl, rfl, ⟨by omega, by omega⟩, nx (fun e => e.2.2 ⟨u, abIf_nz v⟩)⟩, fun v => yes q ⟨z1, w, fun e => abIf_z v e.2⟩⟩)
set_option maxHeartbeats 1000000 in
set_option maxRecDepth 4000 in
theorem sp_X11_gain {G : slG} (hG : slGood G) {d K : Nat} (hd : 35 ≤ d) (hK : 0 ≤ K) {Φ : slPost} {σ : slM} {x1 : Int} {x2 : Int} {x3 : Int} {x4 : Int} {x5 : Int} {c s N : Nat} {Z : abZ} (hX : isX c s Z σ) (hZ : gdZ N Z) (t : isStl Z.1 Z.2.1.1 σ) (h1 : 0 ≤ x1 ∧ x1 < Z.1 1 3) (i2 : InR x2) (h3 : 0 ≤ x3 ∧ x3 < Z.1 1 3) (i4 : InR x4) (h5 : 0 ≤ x5 ∧ x5 < 10) (h : Φ (0, abGain Z x1 x2 x3 x4 x5) σ) :
    slCall G mX11_gain d K [sR 11 0, sI x1, sI x2, sI x3, sI x4, sI x5] σ Φ := by
  refine vc_X11_gain hG (by omega) hK (fun μ y6 y7 σ' => σ' = σ ∧ ¬ x2 = 0 ∧ μ = ((Z.1 1 4 - y7).toNat, 0, 0) ∧ (0 ≤ y7 ∧ y7 ≤ Z.1 1 4) ∧ y6 = abCnA Z x1 x3 x4 x5 y7.toNat) ?_ ?_
  · have a4 := hZ.c.2.2.2.2.1
    refine ⟨i2, fun q => ⟨_, rfl, q, rfl, ⟨by omega, by omega⟩, rfl⟩, fun q => ?_⟩
    unfold abGain at h
    rwa [if_pos q] at h
  · have a4 := hZ.c.2.2.2.2.1
    rintro μ y6 y7 σ' ⟨rfl, n0, rfl, hy, rfl⟩
    rw [hX.e4, hX.cc.1]
    refine ⟨⟨⟨by omega, by omega⟩, by omega, by omega⟩, fun q => ?_, fun q => ?_⟩
    · unfold abGain at h
      rw [if_neg n0, show Z.1 1 4 = y7 by omega] at h
      exact h
    · have lt : slLt ((Z.1 1 4 - (y7 + 1)).toNat, 0, 0) ((Z.1 1 4 - y7).toNat, 0, 0) := Or.inl (by show (Z.1 1 4 - (y7 + 1)).toNat < (Z.1 1 4 - y7).toNat; omega)
      refine sp_X11_isOnceAlone hG (by omega) (by omega) hX hZ t ⟨by omega, by omega⟩ h1 h3 i4 h5 (slKt.ok ⟨in01, fun z => ⟨_, lt, rfl, n0, rfl, ⟨by omega, by omega⟩, ?_⟩, fun z => ⟨_, lt, rfl, n0, rfl, ⟨by omega, by omega⟩, ?_⟩⟩)
      · unfold abCnA
        rw [abSum_s hy.1, abIf_f (abIf_z z), Int.add_zero]
      · unfold abCnA
        rw [abSum_s hy.1, abIf_t (abIf_nz z)]
def abKeep (Z : abZ) (a x b y n u : Int) : Prop := ¬ (abGain Z a x b y n - (if x = 0 then 0 else u) < abGain Z a (1 - x) b y n - (if x = 0 then u else 0))
set_option maxHeartbeats 1000000 in
set_option maxRecDepth 4000 in
theorem sp_X11_wouldKeepChoice {G : slG} (hG : slGood G) {d K : Nat} (hd : 40 ≤ d) (hK : 0 ≤ K) {Φ : slPost} {σ : slM} {x1 : Int} {x2 : Int} {x3 : Int} {x4 : Int} {x5 : Int} {x6 : Int} {c s N : Nat} {Z : abZ} (hX : isX c s Z σ) (hZ : gdZ N Z) (t : isStl Z.1 Z.2.1.1 σ) (h1 : 0 ≤ x1 ∧ x1 < Z.1 1 3) (h2 : x2 = 0 ∨ x2 = 1) (h3 : 0 ≤ x3 ∧ x3 < Z.1 1 3) (h4 : x4 = 0 ∨ x4 = 1) (h5 : 0 ≤ x5 ∧ x5 < 10) (h6 : 0 ≤ x6 ∧ x6 ≤ 99) (h : Φ (0, abIf (abKeep Z x1 x2 x3 x4 x5 x6) 1 0) σ) :
    slCall G mX11_wouldKeepChoice d K [sR 11 0, sI x1, sI x2, sI x3, sI x4, sI x5, sI x6] σ Φ := by
  refine vc_X11_wouldKeepChoice hG (by omega) hK  ?_
  have e : (if ¬ x2 = 0 then (0 : Int) else 1) = 1 - x2 := by omega
  have r1 := abGain_r (Z := Z) (a := x1) (x := x2) (b := x3) (y := x4) (n := x5) hZ.c
  have r2 := abGain_r (Z := Z) (a := x1) (x := 1 - x2) (b := x3) (y := x4) (n := x5) hZ.c
  rw [e]
  refine sp_X11_gain hG (by omega) (by omega) hX hZ t h1 ⟨by omega, by omega⟩ h3 ⟨by omega, by omega⟩ h5 (slKt.ok ⟨⟨by omega, by omega⟩, ⟨by omega, by omega⟩, ?_⟩)
  refine sp_X11_gain hG (by omega) (by omega) hX hZ t h1 ⟨by omega, by omega⟩ h3 ⟨by omega, by omega⟩ h5 (slKt.ok ⟨⟨by omega, by omega⟩, ⟨⟨by omega, by omega⟩, by omega, by omega⟩, fun q => ?_, fun q => ?_⟩)
  · rwa [abIf_f (fun z => z q)] at h
  · rwa [abIf_t (show abKeep Z x1 x2 x3 x4 x5 x6 from q)] at h
def abK4 (Z : abZ) (a b n u k : Int) : Prop := abKeep Z a (k / 2) b (k % 2) n u ∧ abKeep Z b (k % 2) a (k / 2) n u
noncomputable def abGmP (Z : abZ) (a b n u : Int) : Nat → Int × Int
  | 0 => (0, -1)
  | k + 1 => abIte (abK4 Z a b n u k) ((abGmP Z a b n u k).1 + 1, abIf ((abGmP Z a b n u k).2 = -1) (10 * ((k : Int) / 2) + (k : Int) % 2) (abGmP Z a b n u k).2) (abGmP Z a b n u k)
theorem abGmP_s {Z : abZ} {a b n u y : Int} (h : 0 ≤ y) : abGmP Z a b n u (y + 1).toNat = abIte (abK4 Z a b n u y) ((abGmP Z a b n u y.toNat).1 + 1, abIf ((abGmP Z a b n u y.toNat).2 = -1) (10 * (y / 2) + y % 2) (abGmP Z a b n u y.toNat).2) (abGmP Z a b n u y.toNat) := by
  obtain ⟨k, rfl⟩ := Int.eq_ofNat_of_zero_le h
  rw [show ((k : Int) + 1).toNat = k + 1 by omega, Int.toNat_natCast]
  rfl
noncomputable def abGame (Z : abZ) (a b n u w : Int) : Int := if w = 0 then (abGmP Z a b n u 4).1 else (abGmP Z a b n u 4).2
theorem sAnd1 {y : Int} (h : 0 ≤ y) (h' : y < 4) : sAnd y 1 = y % 2 := by
  obtain ⟨k, rfl⟩ := Int.eq_ofNat_of_zero_le h
  exact (by decide +kernel : ∀ k, k < 4 → sAnd ((k : Nat) : Int) 1 = (k : Int) % 2) k (by omega)
def gmP (Z : abZ) (a b n w : Int) : Prop := (0 ≤ a ∧ a < Z.1 1 3) ∧ (0 ≤ b ∧ b < Z.1 1 3) ∧ (0 ≤ n ∧ n < 10) ∧ 0 ≤ w ∧ w < 2
def gmQ (a b u : Int) : Prop := ¬ a = b ∧ 0 ≤ u ∧ u ≤ 99
set_option maxHeartbeats 1000000 in
set_option maxRecDepth 4000 in
theorem sp_X11_game {G : slG} (hG : slGood G) {d K : Nat} (hd : 50 ≤ d) (hK : 6 ≤ K) {Φ : slPost} {σ : slM} {x1 : Int} {x2 : Int} {x3 : Int} {x4 : Int} {x5 : Int} {c s N : Nat} {Z : abZ} (hX : isX c s Z σ) (hZ : gdZ N Z) (i1 : InR x1) (i2 : InR x2) (i3 : InR x3) (i4 : InR x4) (i5 : InR x5) (h : cA c s Z σ Φ (abOk2 (gmP Z x1 x2 x3 x5) (gmQ x1 x2 x4) (abGame Z x1 x2 x3 x4 x5))) :
    slCall G mX11_game d K [sR 11 0, sI x1, sI x2, sI x3, sI x4, sI x5] σ Φ := by
  refine vc_X11_game hG (by omega) hK (fun μ y6 y7 y8 σ' => gmP Z x1 x2 x3 x5 ∧ gmQ x1 x2 x4 ∧ cS c s Z σ σ' ∧ μ = ((4 - y8).toNat, 0, 0) ∧ (0 ≤ y8 ∧ y8 ≤ 4) ∧ (-1 ≤ y7 ∧ y7 ≤ 11) ∧ (y6, y7) = abGmP Z x1 x2 x3 x4 y8.toNat) ?_ ?_
  · refine sp_X11_needLight hG (by omega) (by omega) hX hZ.c i1 (fun q1 => slKt.ok ?_) (fun q => slKt.ex (Or.inl rfl) (h.no1 (fun z => q z.1) cQ.id hX))
    refine sp_X11_needLight hG (by omega) (by omega) hX hZ.c i2 (fun q2 => slKt.ok ?_) (fun q => slKt.ex (Or.inl rfl) (h.no1 (fun z => q z.2.1) cQ.id hX))
    refine sp_X11_needNight hG (by omega) (by omega) i3 (fun q3 => slKt.ok ?_) (fun q => slKt.ex (Or.inl rfl) (h.no1 (fun z => q z.2.2.1) cQ.id hX))
    refine sp_X11_needWhat hG (by omega) (by omega) i5 ⟨by decide, by decide⟩ (fun q5 => slKt.ok ?_) (fun q => slKt.ex (Or.inl rfl) (h.no1 (fun z => q z.2.2.2) cQ.id hX))
    have p : gmP Z x1 x2 x3 x5 := ⟨q1, q2, q3, q5⟩
    refine sp_X11_needTwo hG (by omega) (by omega) i1 i2 (fun q6 => slKt.ok ?_) (fun q => slKt.ex (Or.inr rfl) (h.no2 p (fun z => z.1 q) cQ.id hX))
    refine ⟨i4, fun q => h.no2 p (fun z => by have := z.2; omega) cQ.id hX, fun q => ⟨i4, fun q7 => ?_, fun q7 => h.no2 p (fun z => by have := z.2; omega) cQ.id hX⟩⟩
    refine sp_X11_settle hG (by omega) (by omega) hX hZ (fun τ f x t => slKt.ok ⟨_, p, ⟨q6, by omega, by omega⟩, ⟨f, x, t⟩, rfl, ⟨by omega, by omega⟩, ⟨by omega, by omega⟩, rfl⟩)
  · rintro μ y6 y7 y8 σ' ⟨p, g, m, rfl, hy, hy7, e⟩
    have s0 := abGmP_s (Z := Z) (a := x1) (b := x2) (n := x3) (u := x4) hy.1
    rw [← e] at s0
    refine ⟨⟨by omega, by omega⟩, fun q => ?_, fun q => ⟨⟨by omega, by omega⟩, ?_⟩⟩
    · have k := h.yes2 p g m.1 m.2.1
      unfold abGame at k
      rw [show (4 : Nat) = y8.toNat by omega, ← e] at k
      refine ⟨i5, fun z => ?_, fun z => ?_⟩
      · rwa [if_neg z] at k
      · rwa [if_pos z] at k
    · rw [sAnd1 hy.1 (by omega)]
      have ex : (if y8 < 2 then (0 : Int) else 1) = y8 / 2 := by omega
      have ey : (if ¬ y8 % 2 = 1 then (0 : Int) else 1) = y8 % 2 := by omega
      rw [ex, ey]
      have lt : slLt ((4 - (y8 + 1)).toNat, 0, 0) ((4 - y8).toNat, 0, 0) := Or.inl (by show (4 - (y8 + 1)).toNat < (4 - y8).toNat; omega)
      refine ⟨⟨by omega, by omega⟩, ?_⟩
      refine sp_X11_wouldKeepChoice hG (by omega) (by omega) m.2.1 hZ m.2.2 p.1 (by omega) p.2.1 (by omega) p.2.2.1 g.2 (slKt.ok ⟨in01, fun z => ⟨_, lt, p, g, m, rfl, ⟨by omega, by omega⟩, hy7, ?_⟩, fun z => ?_⟩)
      · rw [s0, abIte_f (fun w => abIf_z z w.1)]
      · refine sp_X11_wouldKeepChoice hG (by omega) (by omega) m.2.1 hZ m.2.2 p.2.1 (by omega) p.1 (by omega) p.2.2.1 g.2 (slKt.ok ⟨in01, fun w => ⟨_, lt, p, g, m, rfl, ⟨by omega, by omega⟩, hy7, ?_⟩, fun w => ⟨⟨by omega, by omega⟩, fun u => ⟨_, lt, p, g, m, rfl, ⟨by omega, by omega⟩, hy7, ?_⟩, fun u => ⟨⟨by omega, by omega⟩, ⟨by omega, by omega⟩, _, lt, p, g, m, rfl, ⟨by omega, by omega⟩, ⟨by omega, by omega⟩, ?_⟩⟩⟩)
        · rw [s0, abIte_f (fun u => abIf_z w u.2)]
        · rw [s0, abIte_t ⟨abIf_nz z, abIf_nz w⟩]
          show (y6 + 1, y7) = (y6 + 1, abIf (y7 = -1) (10 * (y8 / 2) + y8 % 2) y7)
          rw [abIf_f u]
        · rw [s0, abIte_t ⟨abIf_nz z, abIf_nz w⟩]
          show (y6 + 1, _) = (y6 + 1, abIf (y7 = -1) (10 * (y8 / 2) + y8 % 2) y7)
          rw [abIf_t u]
          congr 1
          omega
/-! the model's gains -/
def gmB (v a b X Y : Nat) : Bool := a == b || (decide (sOr (sOr (sAnd (sAnd ((v : Nat) : Int) (sXor (sShl 1 ((a : Nat) : Int)) (-1))) (sXor (sShl 1 ((b : Nat) : Int)) (-1))) (if X = 0 then 0 else sShl 1 (a : Int))) (if Y = 0 then 0 else sShl 1 (b : Int)) = sShl 1 (a : Int)) == (X == 1 && decide (sAnd (v : Int) (abRs (a : Int) (b : Int)) = 0) && Y == 0))
theorem gmB_t : ∀ v, v < 32 → ∀ a, a < 5 → ∀ b, b < 5 → ∀ X, X < 2 → ∀ Y, Y < 2 → gmB v a b X Y = true := by decide +kernel
theorem gmBits (v : Nat) (hv : v < 32) (a : Nat) (ha : a < 5) (b : Nat) (hb : b < 5) (ne : a ≠ b) (X : Nat) (hX : X < 2) (Y : Nat) (hY : Y < 2) : (sOr (sOr (sAnd (sAnd ((v : Nat) : Int) (sXor (sShl 1 ((a : Nat) : Int)) (-1))) (sXor (sShl 1 ((b : Nat) : Int)) (-1))) (if X = 0 then 0 else sShl 1 (a : Int))) (if Y = 0 then 0 else sShl 1 (b : Int)) = sShl 1 (a : Int) ↔ X = 1 ∧ sAnd (v : Int) (abRs (a : Int) (b : Int)) = 0 ∧ Y = 0) := by
  have t := gmB_t v hv a ha b hb X hX Y hY
  unfold gmB at t
  rw [show (a == b) = false by simp [ne], Bool.false_or, beq_iff_eq] at t
  constructor
  · intro hp
    rw [decide_eq_true hp] at t
    have t := t.symm
    rw [Bool.and_eq_true, Bool.and_eq_true, beq_iff_eq, beq_iff_eq, decide_eq_true_eq] at t
    exact ⟨t.1.1, t.1.2, t.2⟩
  · rintro ⟨rfl, hr, rfl⟩
    rw [decide_eq_true hr] at t
    exact of_decide_eq_true t
def gmI (Z : abZ) (σ : slM) (x1 x2 x3 x4 x5 : Int) (μ : slMu) (y7 y8 y9 y10 : Int) (σ' : slM) : Prop :=
  σ' = σ ∧ μ = ((Z.1 1 4 - y8).toNat, (24 * x5 + 24 - y10).toNat, 0) ∧ (0 ≤ y8 ∧ y8 < Z.1 1 4) ∧ (24 * x5 + 12 ≤ y10 ∧ y10 ≤ 24 * x5 + 24) ∧ y7 = (if x2 = 0 then 0 else 5 * abCnA Z x1 x3 x4 x5 y8.toNat) ∧ y9 = abIf (¬ x2 = 0 ∧ ∃ h : Int, 24 * x5 + 12 ≤ h ∧ h < y10 ∧ abAlP Z x1 x3 x4 x5 y8 h) 1 0
set_option maxHeartbeats 8000000 in
set_option maxRecDepth 4000 in
theorem sp_X12_gains {G : slG} (hG : slGood G) {d K : Nat} (hd : 40 ≤ d) (hK : 0 ≤ K) {Φ : slPost} {σ : slM} {x1 : Int} {x2 : Int} {x3 : Int} {x4 : Int} {x5 : Int} {x6 : Int} {N : Nat} {Z : abZ} {σ0 : slM} (m : mS Z σ0 σ) (hZ : gdZ N Z) (h1 : 0 ≤ x1 ∧ x1 < Z.1 1 3) (h2 : x2 = 0 ∨ x2 = 1) (h3 : 0 ≤ x3 ∧ x3 < Z.1 1 3) (ne : ¬ x1 = x3) (h4 : x4 = 0 ∨ x4 = 1) (h5 : 0 ≤ x5 ∧ x5 < 10) (h : Φ (0, abGain Z x1 x2 x3 x4 x5 - x2 * x6) σ) :
    slCall G mX12_gains d K [sR 12 0, sI x1, sI x2, sI x3, sI x4, sI x5, sI x6] σ Φ := by
  refine vc_X12_gains hG (by omega) hK (fun μ y7 y8 σ' => σ' = σ ∧ μ = ((Z.1 1 4 - y8).toNat, 100, 0) ∧ (0 ≤ y8 ∧ y8 ≤ Z.1 1 4) ∧ y7 = (if x2 = 0 then 0 else 5 * abCnA Z x1 x3 x4 x5 y8.toNat)) (fun μ y7 y8 y9 y10 σ' => gmI Z σ x1 x2 x3 x4 x5 μ y7 y8 y9 y10 σ') ?_ ?_ ?_
  · have a4 := hZ.c.2.2.2.2.1
    refine ⟨_, rfl, rfl, ⟨by omega, by omega⟩, ?_⟩
    show (0 : Int) = if x2 = 0 then 0 else 5 * 0
    omega
  · have a4 := hZ.c.2.2.2.2.1
    rintro μ y7 y8 σ' ⟨rfl, rfl, hy, rfl⟩
    rw [m.2.1.1.1.2.2.2.2.1]
    refine ⟨⟨⟨by omega, by omega⟩, by omega, by omega⟩, fun q => ?_, fun q => ⟨((Z.1 1 4 - y8).toNat, (24 * x5 + 24 - (24 * x5 + 12)).toNat, 0), Or.inr ⟨rfl, Or.inl (by show (24 * x5 + 24 - (24 * x5 + 12)).toNat < 100; omega)⟩, rfl, rfl, ⟨by omega, by omega⟩, ⟨by omega, by omega⟩, rfl, ?_⟩⟩
    · unfold abGain at h
      rw [show Z.1 1 4 = y8 by omega] at h
      exact h
    · rw [abIf_f (fun z => by obtain ⟨-, k, a, b, c⟩ := z; omega)]
  · have a3 := hZ.c.2.2.2.1
    have a4 := hZ.c.2.2.2.2.1
    rintro μ y7 y8 y9 y10 σ' ⟨rfl, rfl, hy, hy10, rfl, e9⟩
    have r9 : y9 = 0 ∨ y9 = 1 := by rw [e9]; exact abIf_01
    have v := abNow_r (C := abC Z.1 Z.2.1.1) (oil := Z.2.1.1 0) (mo := Z.2.1.1 1) (s := y8) (h := y10) hZ.c
    have lt : ¬ 24 * x5 + 24 ≤ y10 → slLt ((Z.1 1 4 - y8).toNat, (24 * x5 + 24 - (y10 + 1)).toNat, 0) ((Z.1 1 4 - y8).toNat, (24 * x5 + 24 - y10).toNat, 0) := fun q => Or.inr ⟨rfl, Or.inl (by show (24 * x5 + 24 - (y10 + 1)).toNat < (24 * x5 + 24 - y10).toNat; omega)⟩
    have bits : ∀ X Y : Nat, X < 2 → Y < 2 → (sOr (sOr (sAnd (sAnd (abNow Z.1 (abC Z.1 Z.2.1.1) (Z.2.1.1 0) (Z.2.1.1 1) y8 y10) (sXor (sShl 1 x1) (-1))) (sXor (sShl 1 x3) (-1))) (if X = 0 then 0 else sShl 1 x1)) (if Y = 0 then 0 else sShl 1 x3) = sShl 1 x1 ↔ X = 1 ∧ sAnd (abNow Z.1 (abC Z.1 Z.2.1.1) (Z.2.1.1 0) (Z.2.1.1 1) y8 y10) (abRs x1 x3) = 0 ∧ Y = 0) := fun X Y hx hy' => by
      obtain ⟨k, ek⟩ := Int.eq_ofNat_of_zero_le v.1
      obtain ⟨a, ea⟩ := Int.eq_ofNat_of_zero_le h1.1
      obtain ⟨b, eb⟩ := Int.eq_ofNat_of_zero_le h3.1
      rw [ek, ea, eb]
      exact gmBits k (by omega) a (by omega) b (by omega) (by omega) X hx Y hy'
    have key : ¬ 24 * x5 + 24 ≤ y10 → ∀ E : Int, InR E → (E = sShl 1 x1 ↔ (¬ x2 = 0 ∧ abAlP Z x1 x3 x4 x5 y8 y10)) → (InR y9) ∧ (¬ y9 = 0 → ∃ μ2, slLt μ2 ((Z.1 1 4 - y8).toNat, (24 * x5 + 24 - y10).toNat, 0) ∧ gmI Z σ' x1 x2 x3 x4 x5 μ2 (if x2 = 0 then 0 else 5 * abCnA Z x1 x3 x4 x5 y8.toNat) y8 1 (y10 + 1) σ') ∧ (y9 = 0 → ((InR E) ∧ (InR (sShl 1 x1))) ∧ ∃ μ2, slLt μ2 ((Z.1 1 4 - y8).toNat, (24 * x5 + 24 - y10).toNat, 0) ∧ gmI Z σ' x1 x2 x3 x4 x5 μ2 (if x2 = 0 then 0 else 5 * abCnA Z x1 x3 x4 x5 y8.toNat) y8 (if ¬ E = sShl 1 x1 then (0 : Int) else 1) (y10 + 1) σ') := fun q E iE ie => by
      refine ⟨⟨by omega, by omega⟩, fun z => ⟨_, lt q, rfl, rfl, hy, ⟨by omega, by omega⟩, rfl, ?_⟩, fun z => ⟨⟨iE, Int32.le_toInt _, Int32.toInt_lt _⟩, _, lt q, rfl, rfl, hy, ⟨by omega, by omega⟩, rfl, ?_⟩⟩
      · rw [e9] at z
        obtain ⟨n0, k, a, b, c⟩ := abIf_nz z
        rw [abIf_t ⟨n0, k, a, by omega, c⟩]
      · rw [e9] at z
        have no := abIf_z z
        by_cases w : E = sShl 1 x1
        · have w2 := ie.mp w
          rw [if_neg (fun u => u w), abIf_t ⟨w2.1, y10, hy10.1, by omega, w2.2⟩]
        · rw [if_pos w, abIf_f]
          rintro ⟨n0, k, a, b, c⟩
          by_cases u : k = y10
          · rw [u] at c; exact w (ie.mpr ⟨n0, c⟩)
          · exact no ⟨n0, k, a, by omega, c⟩
    refine ⟨⟨⟨by omega, by omega⟩, by omega, by omega⟩, fun q => ⟨⟨by omega, by omega⟩, ((Z.1 1 4 - (y8 + 1)).toNat, 100, 0), Or.inl (by show (Z.1 1 4 - (y8 + 1)).toNat < (Z.1 1 4 - y8).toNat; omega), rfl, rfl, ⟨by omega, by omega⟩, ?_⟩, fun q => ?_⟩
    · rw [e9, show y10 = 24 * x5 + 24 by omega]
      unfold abCnA
      rw [abSum_s hy.1]
      by_cases z : x2 = 0
      · rw [if_pos z, if_pos z, abIf_f (fun w => w.1 z)]; rfl
      · rw [if_neg z, if_neg z]
        by_cases w : abAny Z x1 x3 x4 x5 y8
        · rw [abIf_t (p := abAny Z x1 x3 x4 x5 y8) w, abIf_t ⟨z, w⟩, if_neg (by decide)]; omega
        · rw [abIf_f (p := abAny Z x1 x3 x4 x5 y8) w, abIf_f (fun u => w u.2), if_pos rfl]; omega
    · have K := key q
      have Y := m.2.1
      have g := hZ.v.2.2.1 y8 hy.1 hy.2
      have fg := abFog_r (n := x5) hZ.c h5.1
      refine sp_X12_fogIn hG (by omega) (by omega) Y.1 hZ.c ⟨by omega, by omega⟩ (slKt.ok ?_)
      refine sp_X12_seenNow hG (by omega) (by omega) Y.1 hZ.c m.2.2.2 hZ.v.k Y.mo hZ.v.2.2.1 hy ⟨by omega, by omega⟩ (slKt.ok ?_)
      have b00 : True → (sOr (sOr (sAnd (sAnd (abNow Z.1 (abC Z.1 Z.2.1.1) (Z.2.1.1 0) (Z.2.1.1 1) y8 y10) (sXor (sShl 1 x1) (-1))) (sXor (sShl 1 x3) (-1))) 0) 0 = sShl 1 x1 ↔ 0 = 1 ∧ sAnd (abNow Z.1 (abC Z.1 Z.2.1.1) (Z.2.1.1 0) (Z.2.1.1 1) y8 y10) (abRs x1 x3) = 0 ∧ 0 = 0) := fun _ => bits 0 0 (by decide) (by decide)
      have b01 : True → (sOr (sOr (sAnd (sAnd (abNow Z.1 (abC Z.1 Z.2.1.1) (Z.2.1.1 0) (Z.2.1.1 1) y8 y10) (sXor (sShl 1 x1) (-1))) (sXor (sShl 1 x3) (-1))) 0) (sShl 1 x3) = sShl 1 x1 ↔ 0 = 1 ∧ sAnd (abNow Z.1 (abC Z.1 Z.2.1.1) (Z.2.1.1 0) (Z.2.1.1 1) y8 y10) (abRs x1 x3) = 0 ∧ 1 = 0) := fun _ => bits 0 1 (by decide) (by decide)
      have b10 : True → (sOr (sOr (sAnd (sAnd (abNow Z.1 (abC Z.1 Z.2.1.1) (Z.2.1.1 0) (Z.2.1.1 1) y8 y10) (sXor (sShl 1 x1) (-1))) (sXor (sShl 1 x3) (-1))) (sShl 1 x1)) 0 = sShl 1 x1 ↔ 1 = 1 ∧ sAnd (abNow Z.1 (abC Z.1 Z.2.1.1) (Z.2.1.1 0) (Z.2.1.1 1) y8 y10) (abRs x1 x3) = 0 ∧ 0 = 0) := fun _ => bits 1 0 (by decide) (by decide)
      have b11 : True → (sOr (sOr (sAnd (sAnd (abNow Z.1 (abC Z.1 Z.2.1.1) (Z.2.1.1 0) (Z.2.1.1 1) y8 y10) (sXor (sShl 1 x1) (-1))) (sXor (sShl 1 x3) (-1))) (sShl 1 x1)) (sShl 1 x3) = sShl 1 x1 ↔ 1 = 1 ∧ sAnd (abNow Z.1 (abC Z.1 Z.2.1.1) (Z.2.1.1 0) (Z.2.1.1 1) y8 y10) (abRs x1 x3) = 0 ∧ 1 = 0) := fun _ => bits 1 1 (by decide) (by decide)
      have j2 : InR x2 := ⟨by omega, by omega⟩
      have j4 : InR x4 := ⟨by omega, by omega⟩
      have j8 : (0 ≤ 5 + y8) ∧ (5 + y8 < 27) := ⟨by omega, by omega⟩
      have j10 : 0 ≤ y10 ∧ y10 < 240 := ⟨by omega, by omega⟩
      clear key bits lt
      rw [Y.mo y8 hy.1 hy.2]
      refine ⟨j2, fun z => ⟨j4, fun w => K _ inOr ?_, fun w => ⟨j8, ?_⟩⟩, fun z => ⟨j8, ?_⟩⟩
      · rw [b00 trivial]
        exact ⟨fun u => absurd u.1 (by decide), fun u => absurd (show x2 = 0 by omega) u.1⟩
      · refine sp_X12_isInSight hG (by omega) (by omega) Y.1 hZ.c m.2.2.2 hZ.v.k (by decide) h3 j10 g.1 g.2 fg (slKt.ok ⟨in01, fun u => K _ inOr ?_, fun u => K _ inOr ?_⟩)
        · rw [b00 trivial]
          exact ⟨fun u => absurd u.1 (by decide), fun u => absurd (show x2 = 0 by omega) u.1⟩
        · rw [b01 trivial]
          exact ⟨fun u => absurd u.1 (by decide), fun u => absurd (show x2 = 0 by omega) u.1⟩
      · refine sp_X12_isInSight hG (by omega) (by omega) Y.1 hZ.c m.2.2.2 hZ.v.k (by decide) h1 j10 g.1 g.2 fg (slKt.ok ?_)
        rw [Y.mo y8 hy.1 hy.2]
        refine ⟨in01, fun u => ⟨j4, fun w => K _ inOr ?_, fun w => ⟨j8, ?_⟩⟩, fun u => ⟨j4, fun w => K _ inOr ?_, fun w => ⟨j8, ?_⟩⟩⟩
        · rw [b00 trivial]
          exact ⟨fun t => absurd t.1 (by decide), fun t => absurd t.2.1 (abIf_z u)⟩
        · refine sp_X12_isInSight hG (by omega) (by omega) Y.1 hZ.c m.2.2.2 hZ.v.k (by decide) h3 j10 g.1 g.2 fg (slKt.ok ⟨in01, fun t => K _ inOr ?_, fun t => K _ inOr ?_⟩)
          · rw [b00 trivial]
            exact ⟨fun t => absurd t.1 (by decide), fun t => absurd t.2.1 (abIf_z u)⟩
          · rw [b01 trivial]
            exact ⟨fun t => absurd t.1 (by decide), fun t => absurd t.2.1 (abIf_z u)⟩
        · rw [b10 trivial]
          exact ⟨fun t => ⟨by omega, abIf_nz u, t.2.1, fun r => r.1 (by omega)⟩, fun t => ⟨rfl, t.2.2.1, rfl⟩⟩
        · refine sp_X12_isInSight hG (by omega) (by omega) Y.1 hZ.c m.2.2.2 hZ.v.k (by decide) h3 j10 g.1 g.2 fg (slKt.ok ⟨in01, fun t => K _ inOr ?_, fun t => K _ inOr ?_⟩)
          · rw [b10 trivial]
            exact ⟨fun r => ⟨by omega, abIf_nz u, r.2.1, fun r => abIf_z t r.2⟩, fun r => ⟨rfl, r.2.2.1, rfl⟩⟩
          · rw [b11 trivial]
            exact ⟨fun r => absurd r.2.2 (by decide), fun r => absurd (show ¬ x4 = 0 ∧ abSi Z x5 y8 x3 y10 from ⟨by omega, abIf_nz t⟩) r.2.2.2⟩
