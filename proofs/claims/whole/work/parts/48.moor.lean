/-! ===== better moorings, starts, sparing ===== -/
def abSmS (P : abP) (C : Int → Int → Int) (oil : Int → Int) (fog m h : Int) : Prop := ∃ l : Int, 0 ≤ l ∧ l < P 1 3 ∧ abSees P C oil fog m h l
set_option maxHeartbeats 1000000 in
set_option maxRecDepth 4000 in
theorem sp_X11_isSomeSeenFrom {G : slG} (hG : slGood G) {d K : Nat} (hd : 30 ≤ d) (hK : 0 ≤ K) {Φ : slPost} {σ : slM} {x1 : Int} {x2 : Int} {x3 : Int} {c s N : Nat} {Z : abZ} (hX : isX c s Z σ) (hZ : gdZ N Z) (t : isStl Z.1 Z.2.1.1 σ) (h1 : gc Z.1 x1) (h2 : 0 ≤ x2 ∧ x2 < 240) (h3 : 0 ≤ x3 ∧ x3 ≤ 9) (h : Φ (0, abIf (abSmS Z.1 (abC Z.1 Z.2.1.1) (Z.2.1.1 0) x3 x1 x2) 1 0) σ) :
    slCall G mX11_isSomeSeenFrom d K [sR 11 0, sI x1, sI x2, sI x3] σ Φ := by
  refine vc_X11_isSomeSeenFrom hG (by omega) hK (fun μ y4 σ' => σ' = σ ∧ μ = ((Z.1 1 3 - y4).toNat, 0, 0) ∧ (0 ≤ y4 ∧ y4 ≤ Z.1 1 3) ∧ ∀ l : Int, 0 ≤ l → l < y4 → ¬ abSees Z.1 (abC Z.1 Z.2.1.1) (Z.2.1.1 0) x3 x1 x2 l) ?_ ?_
  · have a3 := hZ.c.2.2.2.1
    exact ⟨_, rfl, rfl, ⟨by omega, by omega⟩, fun l a b => by omega⟩
  · have a3 := hZ.c.2.2.2.1
    rintro μ y4 σ' ⟨rfl, rfl, hy, al⟩
    have lt : ¬ Z.1 1 3 ≤ y4 → slLt ((Z.1 1 3 - (y4 + 1)).toNat, 0, 0) ((Z.1 1 3 - y4).toNat, 0, 0) := fun q => Or.inl (by show (Z.1 1 3 - (y4 + 1)).toNat < (Z.1 1 3 - y4).toNat; omega)
    have nx : ¬ abSees Z.1 (abC Z.1 Z.2.1.1) (Z.2.1.1 0) x3 x1 x2 y4 → ∀ l : Int, 0 ≤ l → l < y4 + 1 → ¬ abSees Z.1 (abC Z.1 Z.2.1.1) (Z.2.1.1 0) x3 x1 x2 l := fun e l a b => by
      by_cases z : l = y4
      · rw [z]; exact e
      · exact al l a (by omega)
    rw [hX.e4, hX.e5, hX.cc.1]
    refine ⟨⟨⟨by omega, by omega⟩, by omega, by omega⟩, fun q => ?_, fun q => ⟨⟨by omega, by omega⟩, ?_⟩⟩
    · rw [abIf_f (fun z => by obtain ⟨l, a, b, c⟩ := z; exact al l a (by omega) c)] at h
      exact h
    · rw [hX.ss.1 y4 hy.1 (by omega)]
      have o := hZ.v.2.1 y4 hy.1 (by omega)
      refine sp_X11_isLit hG (by omega) (by omega) o h2 (slKt.ok ⟨in01, fun z => ⟨_, lt q, rfl, rfl, ⟨by omega, by omega⟩, nx (fun e => abIf_z z e.1)⟩, fun z => ?_⟩)
      have g := abC_cell hZ.v (h := x2) hy.1 (show y4 < Z.1 1 3 by omega)
      refine sp_X3_cellOf hG (by omega) (by omega) ⟨by omega, by omega⟩ h2 (slKt.ok ?_)
      rw [t.2.2.1 x2 y4 h2.1 h2.2 hy.1 (by omega), hX.e4]
      have sr := abSight_r hZ.c h1 g
      have rc := (hZ.c.2.2.2.2.2.2.2.2.1 y4 hy.1 (by omega)).1
      obtain ⟨p1, p23, p24, p25, p26, -⟩ := hX.cc
      refine sp_X1_sight hG (by omega) (by omega) hX.cc hZ.c h1 g (slKt.ok ?_)
      rw [hX.e4, p26]
      refine ⟨⟨by omega, by omega⟩, ⟨⟨by omega, by omega⟩, by omega, by omega⟩, fun w => ⟨_, lt q, rfl, rfl, ⟨by omega, by omega⟩, nx (fun e => by have := e.2; omega)⟩, fun w => ?_⟩
      rw [abIf_t ⟨y4, hy.1, by omega, abIf_nz z, by omega⟩] at h
      exact h
theorem abSmS_m {P : abP} {C : Int → Int → Int} {oil : Int → Int} {fog m h : Int} (hC : gdC P) : abSmS P C oil fog m h ↔ ¬ sAnd (abSeen P C oil fog m h) 31 = 0 := by
  have a3 := hC.2.2.2.1
  have r := abSeen_r (C := C) (oil := oil) (fog := fog) (m := m) (h := h) hC
  rw [sNz r.1 r.2]
  unfold abSeen
  rw [abMask_0]
  constructor
  · rintro ⟨l, a, b, c⟩ w
    exact w l a (by omega) c
  · intro w
    refine Classical.byContradiction (fun z => w (fun l a b c => z ⟨l, a, by omega, c⟩))
set_option maxHeartbeats 1000000 in
set_option maxRecDepth 4000 in
theorem sp_X11_hoursSeenFrom {G : slG} (hG : slGood G) {d K : Nat} (hd : 35 ≤ d) (hK : 0 ≤ K) {Φ : slPost} {σ : slM} {x1 : Int} {x2 : Int} {c s N : Nat} {Z : abZ} (hX : isX c s Z σ) (hZ : gdZ N Z) (t : isStl Z.1 Z.2.1.1 σ) (h1 : gc Z.1 x1) (h2 : 0 ≤ x2 ∧ x2 < 10) (h : Φ (0, abHrs (abSeen Z.1 (abC Z.1 Z.2.1.1) (Z.2.1.1 0) (abFog Z.1 x2) x1) x2 31) σ) :
    slCall G mX11_hoursSeenFrom d K [sR 11 0, sI x1, sI x2] σ Φ := by
  refine vc_X11_hoursSeenFrom hG (by omega) hK (fun μ y3 y4 y5 σ' => σ' = σ ∧ μ = ((24 * x2 + 24 - y5).toNat, 0, 0) ∧ y3 = abFog Z.1 x2 ∧ (24 * x2 + 12 ≤ y5 ∧ y5 ≤ 24 * x2 + 24) ∧ y4 = abSum (fun k => abIf (¬ sAnd (abSeen Z.1 (abC Z.1 Z.2.1.1) (Z.2.1.1 0) (abFog Z.1 x2) x1 (24 * x2 + k)) 31 = 0) 1 0) (y5 - 24 * x2).toNat) ?_ ?_
  · rw [hX.e4]
    refine sp_X1_fogIn hG (by omega) (by omega) hX.cc hZ.c ⟨by omega, by omega⟩ (slKt.ok ⟨_, rfl, rfl, rfl, ⟨by omega, by omega⟩, ?_⟩)
    refine (abSum_z (fun k a b => ?_)).symm
    rw [abSeen_day (by omega), sAnd_z]
    exact abIf_f (fun z => z rfl)
  · rintro μ y3 y4 y5 σ' ⟨rfl, rfl, rfl, hy, rfl⟩
    refine ⟨⟨⟨by omega, by omega⟩, by omega, by omega⟩, fun q => ?_, fun q => ?_⟩
    · rw [show (y5 - 24 * x2).toNat = 24 by omega]; exact h
    · have lt : slLt ((24 * x2 + 24 - (y5 + 1)).toNat, 0, 0) ((24 * x2 + 24 - y5).toNat, 0, 0) := Or.inl (by show (24 * x2 + 24 - (y5 + 1)).toNat < (24 * x2 + 24 - y5).toNat; omega)
      refine sp_X11_isSomeSeenFrom hG (by omega) (by omega) hX hZ t h1 ⟨by omega, by omega⟩ (abFog_r hZ.c h2.1) (slKt.ok ⟨in01, fun z => ⟨_, lt, rfl, rfl, rfl, ⟨by omega, by omega⟩, ?_⟩, fun z => ⟨_, lt, rfl, rfl, rfl, ⟨by omega, by omega⟩, ?_⟩⟩)
      · rw [show y5 + 1 - 24 * x2 = (y5 - 24 * x2) + 1 by omega, abSum_s (by omega), show 24 * x2 + (y5 - 24 * x2) = y5 by omega, abIf_f (fun w => abIf_z z ((abSmS_m hZ.c).mpr w)), Int.add_zero]
      · rw [show y5 + 1 - 24 * x2 = (y5 - 24 * x2) + 1 by omega, abSum_s (by omega), show 24 * x2 + (y5 - 24 * x2) = y5 by omega, abIf_t ((abSmS_m hZ.c).mp (abIf_nz z))]
noncomputable def abMrP (Z : abZ) (s n : Int) : Int × Int := abBst (abFree Z.1 (Z.2.1.1 1) (Z.1 1 4) s) (fun c => abHrs (abSeen Z.1 (abC Z.1 Z.2.1.1) (Z.2.1.1 0) (abFog Z.1 n) c) n 31) (-1, -1) (Z.1 1 0 * Z.1 1 1).toNat
noncomputable def abMr (Z : abZ) (s n w : Int) : Int := if w = 0 then (abMrP Z s n).1 else (abMrP Z s n).2
set_option maxHeartbeats 1000000 in
set_option maxRecDepth 4000 in
theorem sp_X11_mooring {G : slG} (hG : slGood G) {d K : Nat} (hd : 50 ≤ d) (hK : 3 ≤ K) {Φ : slPost} {σ : slM} {x1 : Int} {x2 : Int} {x3 : Int} {c s N : Nat} {Z : abZ} (hX : isX c s Z σ) (hZ : gdZ N Z) (i1 : InR x1) (i2 : InR x2) (i3 : InR x3) (h : cA c s Z σ Φ (abOk ((0 ≤ x1 ∧ x1 < Z.1 1 4) ∧ (0 ≤ x2 ∧ x2 < 10) ∧ 0 ≤ x3 ∧ x3 < 2) (abMr Z x1 x2 x3))) :
    slCall G mX11_mooring d K [sR 11 0, sI x1, sI x2, sI x3] σ Φ := by
  refine vc_X11_mooring hG (by omega) hK (fun μ y4 y5 y6 y7 σ' => ((0 ≤ x1 ∧ x1 < Z.1 1 4) ∧ (0 ≤ x2 ∧ x2 < 10) ∧ 0 ≤ x3 ∧ x3 < 2) ∧ cS c s Z σ σ' ∧ y6 = Z.1 1 0 * Z.1 1 1 ∧ μ = ((y6 - y7).toNat, 0, 0) ∧ (0 ≤ y7 ∧ y7 ≤ y6) ∧ (y4, y5) = abBst (abFree Z.1 (Z.2.1.1 1) (Z.1 1 4) x1) (fun c => abHrs (abSeen Z.1 (abC Z.1 Z.2.1.1) (Z.2.1.1 0) (abFog Z.1 x2) c) x2 31) (-1, -1) y7.toNat) ?_ ?_
  · have wh := hZ.c.wh
    refine sp_X11_needShip hG (by omega) (by omega) hX hZ.c i1 (fun q1 => slKt.ok ?_) (fun q => slKt.ex (Or.inl rfl) (h.no (fun z => q z.1) cQ.id hX))
    refine sp_X11_needNight hG (by omega) (by omega) i2 (fun q2 => slKt.ok ?_) (fun q => slKt.ex (Or.inl rfl) (h.no (fun z => q z.2.1) cQ.id hX))
    refine sp_X11_needWhat hG (by omega) (by omega) i3 ⟨by decide, by decide⟩ (fun q3 => slKt.ok ?_) (fun q => slKt.ex (Or.inl rfl) (h.no (fun z => q z.2.2) cQ.id hX))
    refine sp_X11_settle hG (by omega) (by omega) hX hZ (fun τ f x t => slKt.ok ?_)
    rw [x.e4]
    refine sp_X1_cells hG (by omega) (by omega) (slKt.ok ?_)
    rw [x.cc.1]
    exact ⟨_, ⟨q1, q2, q3⟩, ⟨f, x, t⟩, rfl, rfl, ⟨by omega, by omega⟩, rfl⟩
  · have wh := hZ.c.wh
    rintro μ y4 y5 y6 y7 σ' ⟨⟨q1, q2, q3⟩, m, rfl, rfl, hy, e⟩
    have r := abBst_r (ok := abFree Z.1 (Z.2.1.1 1) (Z.1 1 4) x1) (v := fun c => abHrs (abSeen Z.1 (abC Z.1 Z.2.1.1) (Z.2.1.1 0) (abFog Z.1 x2) c) x2 31) (r0 := (-1, -1)) (B := 24) ⟨by decide, by decide⟩ (fun k => abHrs_r) (n := y7.toNat)
    have r3 := abHrs_r (W := abSeen Z.1 (abC Z.1 Z.2.1.1) (Z.2.1.1 0) (abFog Z.1 x2) y7) (night := x2) (some := 31)
    rw [← e] at r
    have r : -1 ≤ y5 ∧ y5 ≤ 24 := r
    refine ⟨⟨⟨by omega, by omega⟩, by omega, by omega⟩, fun q => ?_, fun q => ?_⟩
    · have k := h.yes ⟨q1, q2, q3⟩ m.1 m.2.1
      unfold abMr abMrP at k
      rw [show Z.1 1 0 * Z.1 1 1 = y7 by omega, ← e] at k
      refine ⟨i3, fun z => ?_, fun z => ?_⟩
      · rwa [if_neg z] at k
      · rwa [if_pos z] at k
    · have lt : slLt ((Z.1 1 0 * Z.1 1 1 - (y7 + 1)).toNat, 0, 0) ((Z.1 1 0 * Z.1 1 1 - y7).toNat, 0, 0) := Or.inl (by show (Z.1 1 0 * Z.1 1 1 - (y7 + 1)).toNat < (Z.1 1 0 * Z.1 1 1 - y7).toNat; omega)
      refine sp_X11_canMoor hG (by omega) (by omega) m.2.1 hZ i1 ⟨by omega, by omega⟩ (slKt.ok ⟨in01, fun z => ⟨_, lt, ⟨q1, q2, q3⟩, m, rfl, rfl, ⟨by omega, by omega⟩, ?_⟩, fun z => ?_⟩)
      · rw [abBst_s hy.1, ← e, abIte_f (fun w => abIf_z z w.1)]
      · refine sp_X11_hoursSeenFrom hG (by omega) (by omega) m.2.1 hZ m.2.2 ⟨by omega, by omega⟩ q2 (slKt.ok ⟨⟨⟨by omega, by omega⟩, by omega, by omega⟩, fun w => ⟨_, lt, ⟨q1, q2, q3⟩, m, rfl, rfl, ⟨by omega, by omega⟩, ?_⟩, fun w => ⟨_, lt, ⟨q1, q2, q3⟩, m, rfl, rfl, ⟨by omega, by omega⟩, ?_⟩⟩)
        · rw [abBst_s hy.1, ← e, abIte_f (fun u => by have : y5 < abHrs (abSeen Z.1 (abC Z.1 Z.2.1.1) (Z.2.1.1 0) (abFog Z.1 x2) y7) x2 31 := u.2; omega)]
        · rw [abBst_s hy.1, ← e, abIte_t ⟨abIf_nz z, by show y5 < abHrs (abSeen Z.1 (abC Z.1 Z.2.1.1) (Z.2.1.1 0) (abFog Z.1 x2) y7) x2 31; omega⟩]
set_option maxHeartbeats 1000000 in
set_option maxRecDepth 4000 in
theorem sp_X12_mooring {G : slG} (hG : slGood G) {d K : Nat} (hd : 50 ≤ d) (hK : 0 ≤ K) {Φ : slPost} {σ : slM} {x1 : Int} {x2 : Int} {x3 : Int} {N : Nat} {Z : abZ} (hY : isY Z σ) (hZ : gdZ N Z) (i1 : InR x1) (i2 : InR x2) (i3 : InR x3) (h : mA Z σ Φ (abOk ((0 ≤ x1 ∧ x1 < Z.1 1 4) ∧ (0 ≤ x2 ∧ x2 < 10) ∧ 0 ≤ x3 ∧ x3 < 2) (abMr Z x1 x2 x3))) :
    slCall G mX12_mooring d K [sR 12 0, sI x1, sI x2, sI x3] σ Φ := by
  refine vc_X12_mooring hG (by omega) hK (fun μ y4 y5 y7 σ' => ((0 ≤ x1 ∧ x1 < Z.1 1 4) ∧ (0 ≤ x2 ∧ x2 < 10) ∧ 0 ≤ x3 ∧ x3 < 2) ∧ mS Z σ σ' ∧ μ = ((Z.1 1 0 * Z.1 1 1 - y7).toNat, 0, 0) ∧ (0 ≤ y7 ∧ y7 ≤ Z.1 1 0 * Z.1 1 1) ∧ (y4, y5) = abBst (abFree Z.1 (Z.2.1.1 1) (Z.1 1 4) x1) (fun c => abHrs (abSeen Z.1 (abC Z.1 Z.2.1.1) (Z.2.1.1 0) (abFog Z.1 x2) c) x2 31) (-1, -1) y7.toNat) ?_ ?_
  · have wh := hZ.c.wh
    have y0 := hY.z
    refine sp_X12_isShip hG (by omega) (by omega) y0.1 hZ.c i1 (slU_same _ _ _ _ _) (fun q1 => slKt.ok ⟨in1, fun z => absurd z (by decide), fun _ => ?_⟩) (fun q => slKt.ok ⟨in0, fun _ => h.no (fun z => q z.1) mQ.id.t0 y0, fun z => absurd rfl z⟩)
    refine sp_X12_isNight hG (by omega) (by omega) i2 (slU_same _ _ _ _ _) (fun q2 => slKt.ok ⟨in1, fun z => absurd z (by decide), fun _ => ?_⟩) (fun q => slKt.ok ⟨in0, fun _ => h.no (fun z => q z.2.1) mQ.id.t0 y0, fun z => absurd rfl z⟩)
    refine sp_X12_isWhat hG (by omega) (by omega) i3 ⟨by decide, by decide⟩ (slU_same _ _ _ _ _) (fun q3 => slKt.ok ⟨in1, fun _ => ?_, fun z => absurd z (by decide)⟩) (fun q => slKt.ok ⟨in0, fun z => absurd rfl z, fun _ => h.no (fun z => q z.2.2) mQ.id.t0 y0⟩)
    exact ms_now hG (by omega) y0 hZ mQ.id.t0 (slU_same _ _ _ _ _) (fun τ m => slKt.ok ⟨_, ⟨q1, q2, q3⟩, m, rfl, ⟨by omega, by omega⟩, rfl⟩)
  · have wh := hZ.c.wh
    have a4 := hZ.c.2.2.2.2.1
    rintro μ y4 y5 y7 σ' ⟨⟨q1, q2, q3⟩, m, rfl, hy, e⟩
    have r := abBst_r (ok := abFree Z.1 (Z.2.1.1 1) (Z.1 1 4) x1) (v := fun c => abHrs (abSeen Z.1 (abC Z.1 Z.2.1.1) (Z.2.1.1 0) (abFog Z.1 x2) c) x2 31) (r0 := (-1, -1)) (B := 24) ⟨by decide, by decide⟩ (fun k => abHrs_r) (n := y7.toNat)
    have r3 := abHrs_r (W := abSeen Z.1 (abC Z.1 Z.2.1.1) (Z.2.1.1 0) (abFog Z.1 x2) y7) (night := x2) (some := 31)
    rw [← e] at r
    have r : -1 ≤ y5 ∧ y5 ≤ 24 := r
    have Y := m.2.1
    refine sp_X12_cells hG (by omega) (by omega) (slKt.ok ?_)
    rw [Y.1.1.1, Y.1.1.2.1]
    refine ⟨⟨⟨by omega, by omega⟩, by omega, by omega⟩, fun q => ?_, fun q => ?_⟩
    · have k := h.yes ⟨q1, q2, q3⟩ m.1 m.2.1 m.2.2.1
      unfold abMr abMrP at k
      rw [show Z.1 1 0 * Z.1 1 1 = y7 by omega, ← e] at k
      refine ⟨i3, fun z => ?_, fun z => ?_⟩
      · rwa [if_neg z] at k
      · rwa [if_pos z] at k
    · have lt : slLt ((Z.1 1 0 * Z.1 1 1 - (y7 + 1)).toNat, 0, 0) ((Z.1 1 0 * Z.1 1 1 - y7).toNat, 0, 0) := Or.inl (by show (Z.1 1 0 * Z.1 1 1 - (y7 + 1)).toNat < (Z.1 1 0 * Z.1 1 1 - y7).toNat; omega)
      rw [Y.1.1.2.2.2.2.1]
      refine sp_X12_isFree hG (by omega) (by omega) (f := Z.2.1.1 1) Y.1 hZ.c ⟨by omega, by omega⟩ ⟨by omega, by omega⟩ ⟨by omega, by omega⟩ i1 (fun l a b => ⟨Y.mo l a b, (hZ.v.2.2.1 l a b).1⟩) (slKt.ok ⟨in01, fun z => ?_, fun z => ⟨_, lt, ⟨q1, q2, q3⟩, m, rfl, ⟨by omega, by omega⟩, ?_⟩⟩)
      · have fr := abIf_nz z
        refine sp_X12_fogIn hG (by omega) (by omega) Y.1 hZ.c ⟨by omega, by omega⟩ (slKt.ok ?_)
        refine sp_X12_watchFrom hG (by omega) (by omega) Y.1 hZ.c m.2.2.2 hZ.v.k (by decide) ⟨by omega, by omega⟩ fr.1.2.2 ⟨by omega, by omega⟩ (abFog_r hZ.c q2.1) (slKt.ok ⟨⟨⟨by omega, by omega⟩, by omega, by omega⟩, fun w => ⟨_, lt, ⟨q1, q2, q3⟩, m, rfl, ⟨by omega, by omega⟩, ?_⟩, fun w => ⟨_, lt, ⟨q1, q2, q3⟩, m, rfl, ⟨by omega, by omega⟩, ?_⟩⟩)
        · rw [abBst_s hy.1, ← e, abIte_t ⟨fr, w⟩]
        · rw [abBst_s hy.1, ← e, abIte_f (fun u => w u.2)]
      · rw [abBst_s hy.1, ← e, abIte_f (fun w => abIf_z z w.1)]
/-! as the stand is, but for one light's begin -/
theorem gdP.put {P : abP} {b : Int → Int} {l c : Int} (hg : gdP P b) (hf : abFree P b (P 1 3) l c) : gdP P (abPut b l c) := by
  intro m m0 m1
  have p1 : abPut b l c l = c := if_pos rfl
  have p2 : ∀ k, k ≠ l → abPut b l c k = b k := fun k hk => if_neg hk
  by_cases e : m = l
  · rw [e, p1]
    refine ⟨⟨hf.1.1, hf.1.2.1⟩, hf.1.2.2, fun k a b' c' => ?_⟩
    rw [p2 k c']
    exact hf.2 k a b' c'
  · rw [p2 m e]
    have q := hg m m0 m1
    refine ⟨q.1, q.2.1, fun k a b' c' => ?_⟩
    by_cases e2 : k = l
    · rw [e2, p1]; exact fun t => hf.2 m m0 m1 e t.symm
    · rw [p2 k e2]; exact q.2.2 k a b' c'
/-- what is guessed: the stand itself, but for begins b -/
def isG (Z : abZ) (b oil : Int → Int) (σ : slM) : Prop := (∀ l : Int, 0 ≤ l → l < Z.1 1 3 → σ 51 3 l.toNat = b l) ∧ (∀ l : Int, 0 ≤ l → l < Z.1 1 3 → σ 52 3 l.toNat = oil l) ∧ ∀ k : Int, 0 ≤ k → k < Z.1 1 4 → σ 54 3 k.toNat = Z.2.1.1 4 k
theorem isG.c {Z : abZ} {b oil : Int → Int} {σ τ : slM} (h : isG Z b oil σ) (h1 : τ 51 3 = σ 51 3) (h2 : τ 52 3 = σ 52 3) (h3 : τ 54 3 = σ 54 3) : isG Z b oil τ := by
  unfold isG
  rw [h1, h2, h3]
  exact h
theorem isG.b {Z : abZ} {b b' oil : Int → Int} {σ : slM} (h : isG Z b oil σ) (e : ∀ l : Int, 0 ≤ l → l < Z.1 1 3 → b l = b' l) : isG Z b' oil σ := ⟨fun l a c => (h.1 l a c).trans (e l a c), h.2⟩
theorem cS.take {G : slG} (hG : slGood G) {d K : Nat} (hd : 20 ≤ d) {Φ : slPost} {σ τ : slM} {c s N : Nat} {Z : abZ} (hZ : gdZ N Z) (m : cS c s Z σ τ) (h : ∀ υ, cS c s Z σ υ → isG Z (Z.2.1.1 2) (Z.2.1.1 0) υ → slFr [(51, 3), (52, 3), (53, 3), (54, 3), (8, 3), (0, 3), (20, 3), (21, 3), (22, 3), (5, 3), (40, 3), (41, 3), (42, 3), (43, 3)] τ υ → Φ (0, 0) υ) : slCall G mX8_take d K [sR 8 3, sR 8 s] τ Φ := by
  have s1 := m.2.1.s1
  refine sp_X8_take hG (by omega) (by omega) (by omega) hZ.c m.2.1.ss hZ.2.1.2.2 (fun υ f x => ?_)
  exact h υ (m.fr f (by decide) (fun k hk => by rw [f 36 1 (by simp)]; exact m.dz k hk)) ⟨x.2.2.1, x.1, x.2.2.2.2.1⟩ f
set_option maxHeartbeats 1000000 in
set_option maxRecDepth 4000 in
theorem sp_X11_sailFrom {G : slG} (hG : slGood G) {d K : Nat} (hd : 40 ≤ d) (hK : 0 ≤ K) {Φ : slPost} {σ : slM} {x1 : Int} {x2 : Int} {c s N : Nat} {Z : abZ} {σ0 : slM} {b : Int → Int} (hZ : gdZ N Z) (m : cS c s Z σ0 σ) (g : isG Z b (Z.2.1.1 0) σ) (h1 : 0 ≤ x1 ∧ x1 < Z.1 1 3) (hg : gdP Z.1 (abPut b x1 x2)) (h : ∀ τ, cS c s Z σ0 τ → isG Z (abPut b x1 x2) (Z.2.1.1 0) τ → (∀ k h : Int, 0 ≤ k → k < Z.1 1 4 → 0 ≤ h → h < 240 → τ 36 1 (k * 240 + h).toNat = abNow Z.1 (abCL Z.1 (Z.2.1.1 3 0) (Z.2.1.1 0) (abPut b x1 x2)) (Z.2.1.1 0) (Z.2.1.1 1) k h) → Φ (0, 0) τ) :
    slCall G mX11_sailFrom d K [sR 11 0, sI x1, sI x2] σ Φ := by
  refine vc_X11_sailFrom hG (by omega) hK  ?_
  have a3 := hZ.c.2.2.2.1
  have f0 : slFr [(51, 3)] σ (slU σ 51 3 x1.toNat x2) := slFr.id.up (by simp)
  have m0 : cS c s Z σ0 (slU σ 51 3 x1.toNat x2) := m.fr f0 (by decide) (fun k hk => by rw [slU_else (by decide)]; exact m.dz k hk)
  have g0 : isG Z (abPut b x1 x2) (Z.2.1.1 0) (slU σ 51 3 x1.toNat x2) := by
    refine ⟨fun l a c => ?_, fun l a c => ?_, fun l a c => ?_⟩
    · unfold abPut
      by_cases z : l = x1
      · rw [if_pos z, z, slU_same]
      · rw [if_neg z, slU_ne (by omega)]; exact g.1 l a c
    · rw [slU_else (by decide)]; exact g.2.1 l a c
    · rw [slU_else (by decide)]; exact g.2.2 l a c
  rw [m0.2.1.e4]
  refine ⟨⟨by omega, by omega⟩, ct_sail hG (by omega) hZ m0 (b := abPut b x1 x2) (oil := Z.2.1.1 0) (law := Z.2.1.1 3 0) g0.1 hg m0.2.2.2.1 (fun τ1 m1 f1 c1 => slKt.ok ?_)⟩
  have g1 := g0.c (f1 51 3 (by simp)) (f1 52 3 (by simp)) (f1 54 3 (by simp))
  rw [m1.2.1.e4]
  refine ct_look hG (by omega) hZ m1 (fun l a c => ⟨g1.2.1 l a c, hZ.v.2.1 l a c⟩) hg c1 (fun τ2 m2 f2 c2 => slKt.ok ?_)
  exact h τ2 m2 (g1.c (f2 51 3 (by simp)) (f2 52 3 (by simp)) (f2 54 3 (by simp))) c2
noncomputable def abFrB (Z : abZ) (l c : Int) : Int → Int → Int := abCL Z.1 (Z.2.1.1 3 0) (Z.2.1.1 0) (abPut (Z.2.1.1 2) l c)
noncomputable def abStP (Z : abZ) (l : Int) : Int × Int := abBst (abFree Z.1 (Z.2.1.1 2) (Z.1 1 3) l) (fun c => abSW Z.1 (abFrB Z l c) (Z.2.1.1 0) (Z.2.1.1 1)) (-1, -1) (Z.1 1 0 * Z.1 1 1).toNat
noncomputable def abSt (Z : abZ) (l w : Int) : Int := if w = 0 then (abStP Z l).1 else (abStP Z l).2
theorem abPut2 {b : Int → Int} {l v w : Int} : abPut (abPut b l v) l w = abPut b l w := by
  funext k
  unfold abPut
  by_cases z : k = l
  · rw [if_pos z, if_pos z]
  · rw [if_neg z, if_neg z, if_neg z]
theorem abPut_id {b : Int → Int} {l : Int} : abPut b l (b l) = b := by
  funext k
  unfold abPut
  by_cases z : k = l
  · rw [if_pos z, z]
  · rw [if_neg z]
set_option maxHeartbeats 1000000 in
set_option maxRecDepth 4000 in
theorem sp_X11_start {G : slG} (hG : slGood G) {d K : Nat} (hd : 50 ≤ d) (hK : 2 ≤ K) {Φ : slPost} {σ : slM} {x1 : Int} {x2 : Int} {c s N : Nat} {Z : abZ} (hX : isX c s Z σ) (hZ : gdZ N Z) (i1 : InR x1) (i2 : InR x2) (h : cA c s Z σ Φ (abOk ((0 ≤ x1 ∧ x1 < Z.1 1 3) ∧ 0 ≤ x2 ∧ x2 < 2) (abSt Z x1 x2))) :
    slCall G mX11_start d K [sR 11 0, sI x1, sI x2] σ Φ := by
  refine vc_X11_start hG (by omega) hK (fun μ y3 y4 y5 y6 σ' => ((0 ≤ x1 ∧ x1 < Z.1 1 3) ∧ 0 ≤ x2 ∧ x2 < 2) ∧ cS c s Z σ σ' ∧ (∃ v, isG Z (abPut (Z.2.1.1 2) x1 v) (Z.2.1.1 0) σ') ∧ y5 = Z.1 1 0 * Z.1 1 1 ∧ μ = ((y5 - y6).toNat, 0, 0) ∧ (0 ≤ y6 ∧ y6 ≤ y5) ∧ (y3, y4) = abBst (abFree Z.1 (Z.2.1.1 2) (Z.1 1 3) x1) (fun c => abSW Z.1 (abFrB Z x1 c) (Z.2.1.1 0) (Z.2.1.1 1)) (-1, -1) y6.toNat) ?_ ?_
  · have wh := hZ.c.wh
    refine sp_X11_needLight hG (by omega) (by omega) hX hZ.c i1 (fun q1 => slKt.ok ?_) (fun q => slKt.ex (Or.inl rfl) (h.no (fun z => q z.1) cQ.id hX))
    refine sp_X11_needWhat hG (by omega) (by omega) i2 ⟨by decide, by decide⟩ (fun q2 => slKt.ok ?_) (fun q => slKt.ex (Or.inl rfl) (h.no (fun z => q z.2) cQ.id hX))
    refine sp_X11_settle hG (by omega) (by omega) hX hZ (fun τ f x t => slKt.ok ?_)
    rw [x.e5]
    refine cS.take hG (by omega) hZ ⟨f, x, t⟩ (fun τ1 m1 g1 _ => slKt.ok ?_)
    rw [m1.2.1.e4]
    refine sp_X1_cells hG (by omega) (by omega) (slKt.ok ?_)
    rw [m1.2.1.cc.1]
    exact ⟨_, ⟨q1, q2⟩, m1, ⟨Z.2.1.1 2 x1, by rw [abPut_id]; exact g1⟩, rfl, rfl, ⟨by omega, by omega⟩, rfl⟩
  · have wh := hZ.c.wh
    rintro μ y3 y4 y5 y6 σ' ⟨⟨q1, q2⟩, m, ⟨v, g⟩, rfl, rfl, hy, e⟩
    have r := abBst_r (ok := abFree Z.1 (Z.2.1.1 2) (Z.1 1 3) x1) (v := fun c => abSW Z.1 (abFrB Z x1 c) (Z.2.1.1 0) (Z.2.1.1 1)) (r0 := (-1, -1)) (B := 1920) ⟨by decide, by decide⟩ (fun k => abSW_r hZ.c) (n := y6.toNat)
    have r3 := abSW_r (C := abFrB Z x1 y6) (oil := Z.2.1.1 0) (mo := Z.2.1.1 1) hZ.c
    rw [← e] at r
    have r : -1 ≤ y4 ∧ y4 ≤ 1920 := r
    refine ⟨⟨⟨by omega, by omega⟩, by omega, by omega⟩, fun q => ?_, fun q => ?_⟩
    · have k := h.yes ⟨q1, q2⟩ m.1 m.2.1
      unfold abSt abStP at k
      rw [show Z.1 1 0 * Z.1 1 1 = y6 by omega, ← e] at k
      refine ⟨i2, fun z => ?_, fun z => ?_⟩
      · rwa [if_neg z] at k
      · rwa [if_pos z] at k
    · have lt : slLt ((Z.1 1 0 * Z.1 1 1 - (y6 + 1)).toNat, 0, 0) ((Z.1 1 0 * Z.1 1 1 - y6).toNat, 0, 0) := Or.inl (by show (Z.1 1 0 * Z.1 1 1 - (y6 + 1)).toNat < (Z.1 1 0 * Z.1 1 1 - y6).toNat; omega)
      rw [m.2.1.e5]
      refine sp_X11_canBegin hG (by omega) (by omega) (f := Z.2.1.1 2) m.2.1 hZ (fun l a b => ⟨m.2.1.ss.2.2.1 l a b, (hZ.v.1 l a b).1⟩) i1 ⟨by omega, by omega⟩ (slKt.ok ⟨in01, fun z => ⟨_, lt, ⟨q1, q2⟩, m, ⟨v, g⟩, rfl, rfl, ⟨by omega, by omega⟩, ?_⟩, fun z => ?_⟩)
      · rw [abBst_s hy.1, ← e, abIte_f (fun w => abIf_z z w.1)]
      · have fr := abIf_nz z
        refine sp_X11_sailFrom hG (by omega) (by omega) hZ m g q1 (by rw [abPut2]; exact hZ.v.1.put fr) (fun τ m2 g2 c2 => slKt.ok ?_)
        rw [abPut2] at g2 c2
        rw [m2.2.1.e4, m2.2.1.cc.1]
        refine ct_sum hG (by omega) hZ c2 (slKt.ok ⟨⟨⟨by show -2147483648 ≤ abSW Z.1 (abFrB Z x1 y6) (Z.2.1.1 0) (Z.2.1.1 1); omega, by show abSW Z.1 (abFrB Z x1 y6) (Z.2.1.1 0) (Z.2.1.1 1) < 2147483648; omega⟩, by omega, by omega⟩, fun w => ⟨_, lt, ⟨q1, q2⟩, m2, ⟨y6, g2⟩, rfl, rfl, ⟨by omega, by omega⟩, ?_⟩, fun w => ⟨_, lt, ⟨q1, q2⟩, m2, ⟨y6, g2⟩, rfl, rfl, ⟨by omega, by omega⟩, ?_⟩⟩)
        · have w : abSW Z.1 (abFrB Z x1 y6) (Z.2.1.1 0) (Z.2.1.1 1) ≤ y4 := w
          rw [abBst_s hy.1, ← e, abIte_f (fun u => by have : y4 < abSW Z.1 (abFrB Z x1 y6) (Z.2.1.1 0) (Z.2.1.1 1) := u.2; omega)]
        · have w : ¬ abSW Z.1 (abFrB Z x1 y6) (Z.2.1.1 0) (Z.2.1.1 1) ≤ y4 := w
          rw [abBst_s hy.1, ← e, abIte_t ⟨fr, by show y4 < abSW Z.1 (abFrB Z x1 y6) (Z.2.1.1 0) (Z.2.1.1 1); omega⟩]
          rfl
/-! the model over a stand with one place changed -/
theorem isY.put {N : Nat} {Z : abZ} {σ : slM} {k w v : Int} (hY : isY Z σ) (hZ : gdZ N Z) (hk : 0 ≤ k ∧ k ≤ 4) (hw : 0 ≤ w ∧ w < abMany Z.1 k) : isY (Z.1, (abUnd Z.2.1.1 k w v, Z.2.1.2), Z.2.2) (slU σ 88 0 (abPl k w).toNat v) := by
  refine hY.st (mFr.id.up (by decide) (by decide)) (hY.2.1.und hZ.c hk hw (fun i => slU_at) ?_ ?_ ?_ ?_)
  · rw [slU_else (by decide)]; exact hY.2.1.2.2.2.2.2.1
  · rw [slU_else (by decide)]; exact hY.2.1.2.2.2.2.2.2.1
  · rw [slU_else (by decide)]
  · rw [slU_else (by decide)]
theorem isY.back {Z : abZ} {σ : slM} {k w v : Int} (hY : isY (Z.1, (abUnd Z.2.1.1 k w v, Z.2.1.2), Z.2.2) σ) (hC : gdC Z.1) (hk : 0 ≤ k ∧ k ≤ 4) (hw : 0 ≤ w ∧ w < abMany Z.1 k) : isY Z (slU σ 88 0 (abPl k w).toNat (Z.2.1.1 k w)) := by
  have a : isY (Z.1, (abUnd (abUnd Z.2.1.1 k w v) k w (Z.2.1.1 k w), Z.2.1.2), Z.2.2) (slU σ 88 0 (abPl k w).toNat (Z.2.1.1 k w)) := by
    refine hY.st (mFr.id.up (by decide) (by decide)) (hY.2.1.und hC hk hw (fun i => slU_at) ?_ ?_ ?_ ?_)
    · rw [slU_else (by decide)]; exact hY.2.1.2.2.2.2.2.1
    · rw [slU_else (by decide)]; exact hY.2.1.2.2.2.2.2.2.1
    · rw [slU_else (by decide)]
    · rw [slU_else (by decide)]
  rw [abUnd_back] at a
  exact a
theorem abUnd2 {T : Int → Int → Int} {l c : Int} : abUnd T 2 l c 2 = abPut (T 2) l c := by
  funext k
  unfold abUnd abPut
  by_cases z : k = l
  · rw [if_pos ⟨rfl, z⟩, if_pos z]
  · rw [if_neg (fun w => z w.2), if_neg z]
theorem abUnd_o {T : Int → Int → Int} {k j l c : Int} (h : j ≠ k) : abUnd T k l c j = T j := by
  funext i
  exact abUnd_ne (fun w => h w.1)
theorem gdV.b {P : abP} {T : Int → Int → Int} {l c : Int} (h : gdV P T) (hf : abFree P (T 2) (P 1 3) l c) : gdV P (abUnd T 2 l c) := by
  refine ⟨by rw [abUnd2]; exact h.1.put hf, ?_, ?_, ?_, ?_⟩
  · rw [abUnd_o (by decide)]; exact h.2.1
  · rw [abUnd_o (by decide)]; exact h.2.2.1
  · rw [abUnd_o (by decide)]; exact h.2.2.2.1
  · rw [abUnd_o (by decide)]; exact h.2.2.2.2
/-- begins again as before, and nothing else but what questions use -/
theorem mQ.put {σ τ : slM} {k : Nat} {v : Int} (h : mQ σ τ) : mFr [88, 90, 91, 92, 93, 94, 95, 96, 97, 98, 99, 100, 101, 103] [0, 65, 74] σ (slU τ 88 0 k v) := (h.mono (by decide) (by decide)).up (by decide) (by decide)
set_option maxHeartbeats 1000000 in
set_option maxRecDepth 4000 in
theorem sp_X12_start {G : slG} (hG : slGood G) {d K : Nat} (hd : 50 ≤ d) (hK : 0 ≤ K) {Φ : slPost} {σ : slM} {x1 : Int} {x2 : Int} {N : Nat} {Z : abZ} (hY : isY Z σ) (hZ : gdZ N Z) (i1 : InR x1) (i2 : InR x2) (h : ∀ τ, mdF σ τ → isY Z τ → τ 12 0 0 = (abOk ((0 ≤ x1 ∧ x1 < Z.1 1 3) ∧ 0 ≤ x2 ∧ x2 < 2) (abSt Z x1 x2)).1 → Φ (0, (abOk ((0 ≤ x1 ∧ x1 < Z.1 1 3) ∧ 0 ≤ x2 ∧ x2 < 2) (abSt Z x1 x2)).2) τ) :
    slCall G mX12_start d K [sR 12 0, sI x1, sI x2] σ Φ := by
  refine vc_X12_start hG (by omega) hK (fun μ y3 y4 y5 y6 σ' => ((0 ≤ x1 ∧ x1 < Z.1 1 3) ∧ 0 ≤ x2 ∧ x2 < 2) ∧ mdF σ σ' ∧ isY Z σ' ∧ σ' 12 0 0 = 0 ∧ y3 = Z.2.1.1 2 x1 ∧ μ = ((Z.1 1 0 * Z.1 1 1 - y6).toNat, 0, 0) ∧ (0 ≤ y6 ∧ y6 ≤ Z.1 1 0 * Z.1 1 1) ∧ (y4, y5) = abBst (abFree Z.1 (Z.2.1.1 2) (Z.1 1 3) x1) (fun c => abSW Z.1 (abFrB Z x1 c) (Z.2.1.1 0) (Z.2.1.1 1)) (-1, -1) y6.toNat) ?_ ?_
  · have wh := hZ.c.wh
    have a3 := hZ.c.2.2.2.1
    have y0 := hY.z
    have f0 : mdF σ (slU σ 12 0 0 0) := mdF.id.up (Or.inl rfl)
    have no : ¬ ((0 ≤ x1 ∧ x1 < Z.1 1 3) ∧ 0 ≤ x2 ∧ x2 < 2) → Φ (0, 0) (slU (slU σ 12 0 0 0) 12 0 0 1) := fun p => by
      have := h (slU (slU σ 12 0 0 0) 12 0 0 1) (f0.up (Or.inl rfl)) (y0.q mQ.id.t0)
      rw [abOk_f p] at this
      exact this (slU_same _ _ _ _ _)
    refine sp_X12_isLight hG (by omega) (by omega) y0.1 hZ.c i1 (slU_same _ _ _ _ _) (fun q1 => slKt.ok ⟨in1, fun z => absurd z (by decide), fun _ => ?_⟩) (fun q => slKt.ok ⟨in0, fun _ => no (fun z => q z.1), fun z => absurd rfl z⟩)
    refine sp_X12_isWhat hG (by omega) (by omega) i2 ⟨by decide, by decide⟩ (slU_same _ _ _ _ _) (fun q2 => slKt.ok ⟨in1, fun _ => ⟨⟨by omega, by omega⟩, ?_⟩, fun z => absurd z (by decide)⟩) (fun q => slKt.ok ⟨in0, fun z => absurd rfl z, fun _ => no (fun z => q z.2)⟩)
    exact ⟨_, ⟨q1, q2⟩, f0, y0, slU_same _ _ _ _ _, y0.2.1.2.2.1 x1 q1.1 q1.2, rfl, ⟨by omega, by omega⟩, rfl⟩
  · have wh := hZ.c.wh
    have a3 := hZ.c.2.2.2.1
    rintro μ y3 y4 y5 y6 σ' ⟨⟨q1, q2⟩, f, Y, e0, rfl, rfl, hy, e⟩
    have r := abBst_r (ok := abFree Z.1 (Z.2.1.1 2) (Z.1 1 3) x1) (v := fun c => abSW Z.1 (abFrB Z x1 c) (Z.2.1.1 0) (Z.2.1.1 1)) (r0 := (-1, -1)) (B := 1920) ⟨by decide, by decide⟩ (fun k => abSW_r hZ.c) (n := y6.toNat)
    have r3 := abSW_r (C := abFrB Z x1 y6) (oil := Z.2.1.1 0) (mo := Z.2.1.1 1) hZ.c
    rw [← e] at r
    have r : -1 ≤ y5 ∧ y5 ≤ 1920 := r
    refine sp_X12_cells hG (by omega) (by omega) (slKt.ok ?_)
    rw [Y.1.1.1, Y.1.1.2.1]
    refine ⟨⟨⟨by omega, by omega⟩, by omega, by omega⟩, fun q => ?_, fun q => ?_⟩
    · have k := h σ' f Y
      rw [abOk_t ⟨q1, q2⟩] at k
      have k := k e0
      unfold abSt abStP at k
      rw [show Z.1 1 0 * Z.1 1 1 = y6 by omega, ← e] at k
      refine ⟨i2, fun z => ?_, fun z => ?_⟩
      · rwa [if_neg z] at k
      · rwa [if_pos z] at k
    · have lt : slLt ((Z.1 1 0 * Z.1 1 1 - (y6 + 1)).toNat, 0, 0) ((Z.1 1 0 * Z.1 1 1 - y6).toNat, 0, 0) := Or.inl (by show (Z.1 1 0 * Z.1 1 1 - (y6 + 1)).toNat < (Z.1 1 0 * Z.1 1 1 - y6).toNat; omega)
      rw [Y.1.1.2.2.2.1]
      refine sp_X12_isFree hG (by omega) (by omega) (f := Z.2.1.1 2) Y.1 hZ.c ⟨by omega, by omega⟩ ⟨by omega, by omega⟩ ⟨by omega, by omega⟩ i1 (fun l a b => ⟨Y.2.1.2.2.1 l a b, (hZ.v.1 l a b).1⟩) (slKt.ok ⟨in01, fun z => ⟨⟨by omega, by omega⟩, ?_⟩, fun z => ⟨_, lt, ⟨q1, q2⟩, f, Y, e0, rfl, rfl, ⟨by omega, by omega⟩, ?_⟩⟩)
      · have fr := abIf_nz z
        have hw : 0 ≤ x1 ∧ x1 < abMany Z.1 2 := by unfold abMany; omega
        have Y2 := Y.put (v := y6) hZ (k := 2) (w := x1) ⟨by decide, by decide⟩ hw
        have ep : (abPl 2 x1).toNat = (13 + x1).toNat := rfl
        rw [ep] at Y2
        have gv := hZ.v.b fr
        have sb := Y2.sb
        have sb1 : ∀ l : Int, 0 ≤ l → l < Z.1 1 3 → slU σ' 88 0 (13 + x1).toNat y6 88 0 (13 + l).toNat = abPut (Z.2.1.1 2) x1 y6 l := fun l a b => by rw [← abUnd2]; exact sb.1 l a b
        have sb2 : ∀ l : Int, 0 ≤ l → l < Z.1 1 3 → slU σ' 88 0 (13 + x1).toNat y6 88 0 (0 + l).toNat = Z.2.1.1 0 l := fun l a b => by rw [← abUnd_o (T := Z.2.1.1) (k := 2) (l := x1) (c := y6) (show (0 : Int) ≠ 2 by decide)]; exact sb.2.1 l a b
        have sb3 : slU σ' 88 0 (13 + x1).toNat y6 88 0 18 = Z.2.1.1 3 0 := by rw [← abUnd_o (T := Z.2.1.1) (k := 2) (l := x1) (c := y6) (show (3 : Int) ≠ 2 by decide)]; exact sb.2.2
        have sb4 : mMo Z.1 (Z.2.1.1 1) (slU σ' 88 0 (13 + x1).toNat y6) := fun l a b => by rw [← abUnd_o (T := Z.2.1.1) (k := 2) (l := x1) (c := y6) (show (1 : Int) ≠ 2 by decide)]; exact Y2.mo l a b
        rw [sb3]
        refine sp_X12_sumBy hG (by omega) (by omega) Y2.1 hZ.c hZ.v.2.2.2.2 sb1 (hZ.v.1.put fr) sb2 hZ.v.2.1 sb4 hZ.v.2.2.1 (fun τ f2 => slKt.ok ⟨⟨by omega, by omega⟩, ⟨⟨by show -2147483648 ≤ abSW Z.1 (abFrB Z x1 y6) (Z.2.1.1 0) (Z.2.1.1 1); omega, by show abSW Z.1 (abFrB Z x1 y6) (Z.2.1.1 0) (Z.2.1.1 1) < 2147483648; omega⟩, by omega, by omega⟩, fun w => ⟨_, lt, ⟨q1, q2⟩, ?_, (Y2.q (mSq f2)).back hZ.c ⟨by decide, by decide⟩ hw, ?_, rfl, rfl, ⟨by omega, by omega⟩, ?_⟩, fun w => ⟨_, lt, ⟨q1, q2⟩, ?_, (Y2.q (mSq f2)).back hZ.c ⟨by decide, by decide⟩ hw, ?_, rfl, rfl, ⟨by omega, by omega⟩, ?_⟩⟩)
        · exact ((f.up (Or.inr (by decide))).tr (f2.md (by decide))).up (Or.inr (by decide))
        · rw [slU_else (by decide), mSt f2, slU_else (by decide)]; exact e0
        · have w : y5 < abSW Z.1 (abFrB Z x1 y6) (Z.2.1.1 0) (Z.2.1.1 1) := w
          rw [abBst_s hy.1, ← e, abIte_t ⟨fr, w⟩]
          rfl
        · exact ((f.up (Or.inr (by decide))).tr (f2.md (by decide))).up (Or.inr (by decide))
        · rw [slU_else (by decide), mSt f2, slU_else (by decide)]; exact e0
        · have w : ¬ y5 < abSW Z.1 (abFrB Z x1 y6) (Z.2.1.1 0) (Z.2.1.1 1) := w
          rw [abBst_s hy.1, ← e, abIte_f (fun u => w u.2)]
      · rw [abBst_s hy.1, ← e, abIte_f (fun w => abIf_z z w.1)]
