/-! ===== sights in the model; more of the class ===== -/
set_option maxHeartbeats 1000000 in
set_option maxRecDepth 4000 in
theorem sp_X3_cellOf {G : slG} (hG : slGood G) {d K : Nat} (hd : 0 ≤ d) (hK : 0 ≤ K) {Φ : slPost} {σ : slM} {i0 : Nat} {x1 : Int} {x2 : Int} (h1 : 0 ≤ x1 ∧ x1 < 5) (h2 : 0 ≤ x2 ∧ x2 < 240) (h : Φ (0, σ 35 i0 (x1 * 240 + x2).toNat) σ) :
    slCall G mX3_cellOf d K [sR 3 i0, sI x1, sI x2] σ Φ := by
  refine vc_X3_cellOf hG (by omega) hK  ?_
  exact ⟨⟨by omega, by omega⟩, h⟩
set_option maxHeartbeats 1000000 in
set_option maxRecDepth 4000 in
theorem sp_X3_sightsOf {G : slG} (hG : slGood G) {d K : Nat} (hd : 0 ≤ d) (hK : 0 ≤ K) {Φ : slPost} {σ : slM} {i0 : Nat} {x1 : Int} {x2 : Int} (h1 : 0 ≤ x1 ∧ x1 < 8) (h2 : 0 ≤ x2 ∧ x2 < 240) (h : Φ (0, σ 36 i0 (x1 * 240 + x2).toNat) σ) :
    slCall G mX3_sightsOf d K [sR 3 i0, sI x1, sI x2] σ Φ := by
  refine vc_X3_sightsOf hG (by omega) hK  ?_
  exact ⟨⟨by omega, by omega⟩, h⟩
set_option maxHeartbeats 1000000 in
set_option maxRecDepth 4000 in
theorem sp_X3_travelsOf {G : slG} (hG : slGood G) {d K : Nat} (hd : 1 ≤ d) (hK : 0 ≤ K) {Φ : slPost} {σ : slM} {i0 : Nat} {x1 : Int} {C : Int → Int} (h1 : 0 ≤ x1 ∧ x1 < 5) (hc : ∀ h : Int, 0 ≤ h → h < 240 → σ 35 i0 (x1 * 240 + h).toNat = C h ∧ InR (C h)) (h : Φ (0, abSum (fun k => abIf (¬ C k = C (k + 1)) 1 0) 239) σ) :
    slCall G mX3_travelsOf d K [sR 3 i0, sI x1] σ Φ := by
  refine vc_X3_travelsOf hG (by omega) hK (fun μ y2 y3 σ' => σ' = σ ∧ μ = ((240 - y3).toNat, 0, 0) ∧ (0 ≤ y3 ∧ y3 ≤ 239) ∧ y2 = abSum (fun k => abIf (¬ C k = C (k + 1)) 1 0) y3.toNat) ?_ ?_
  · exact ⟨_, rfl, rfl, ⟨by omega, by omega⟩, rfl⟩
  · rintro μ y2 y3 σ' ⟨rfl, rfl, hy, rfl⟩
    refine ⟨⟨by omega, by omega⟩, fun q => ?_, fun q => ?_⟩
    · rw [show y3.toNat = 239 by omega]; exact h
    · have c1 := hc y3 (by omega) (by omega)
      have c2 := hc (y3 + 1) (by omega) (by omega)
      refine sp_X3_cellOf hG (by omega) (by omega) h1 ⟨by omega, by omega⟩ (slKt.ok ?_)
      refine sp_X3_cellOf hG (by omega) (by omega) h1 ⟨by omega, by omega⟩ (slKt.ok ?_)
      rw [c1.1, c2.1]
      refine ⟨⟨c1.2, c2.2⟩, fun q2 => ⟨_, Or.inl (by show (240 - (y3 + 1)).toNat < (240 - y3).toNat; omega), rfl, rfl, ⟨by omega, by omega⟩, ?_⟩, fun q2 => ⟨_, Or.inl (by show (240 - (y3 + 1)).toNat < (240 - y3).toNat; omega), rfl, rfl, ⟨by omega, by omega⟩, ?_⟩⟩
      · rw [abSum_s hy.1, abIf_f (fun z => z q2), Int.add_zero]
      · rw [abSum_s hy.1, abIf_t q2]
set_option maxHeartbeats 1000000 in
set_option maxRecDepth 4000 in
theorem sp_X3_stuckOf {G : slG} (hG : slGood G) {d K : Nat} (hd : 2 ≤ d) (hK : 0 ≤ K) {Φ : slPost} {σ : slM} {i0 : Nat} {c : Nat} {x2 : Int} {P : abP} {C : Int → Int} (hP : isC c P σ) (hC : gdC P) (h2 : 0 ≤ x2 ∧ x2 < P 1 3) (hc : ∀ h : Int, 0 ≤ h → h < 240 → σ 35 i0 (x2 * 240 + h).toNat = C h ∧ InR (C h)) (h : Φ (0, abSum (fun k => abIf (C k = C (k + 1) ∧ ¬ abWay P x2 k = 4) 1 0) 239) σ) :
    slCall G mX3_stuckOf d K [sR 3 i0, sR 1 c, sI x2] σ Φ := by
  refine vc_X3_stuckOf hG (by omega) hK (fun μ y3 y4 σ' => σ' = σ ∧ μ = ((240 - y4).toNat, 0, 0) ∧ (0 ≤ y4 ∧ y4 ≤ 239) ∧ y3 = abSum (fun k => abIf (C k = C (k + 1) ∧ ¬ abWay P x2 k = 4) 1 0) y4.toNat) ?_ ?_
  · exact ⟨_, rfl, rfl, ⟨by omega, by omega⟩, rfl⟩
  · have a := hC.2.2.2.1
    rintro μ y3 y4 σ' ⟨rfl, rfl, hy, rfl⟩
    refine ⟨⟨by omega, by omega⟩, fun q => ?_, fun q => ?_⟩
    · rw [show y4.toNat = 239 by omega]; exact h
    · have c1 := hc y4 (by omega) (by omega)
      have c2 := hc (y4 + 1) (by omega) (by omega)
      have w := abWay_r (h := y4) hC h2
      refine sp_X3_cellOf hG (by omega) (by omega) ⟨by omega, by omega⟩ ⟨by omega, by omega⟩ (slKt.ok ?_)
      refine sp_X3_cellOf hG (by omega) (by omega) ⟨by omega, by omega⟩ ⟨by omega, by omega⟩ (slKt.ok ?_)
      rw [c1.1, c2.1]
      refine ⟨⟨c1.2, c2.2⟩, fun q2 => ⟨_, Or.inl (by show (240 - (y4 + 1)).toNat < (240 - y4).toNat; omega), rfl, rfl, ⟨by omega, by omega⟩, ?_⟩, fun q2 => ?_⟩
      · rw [abSum_s hy.1, abIf_f (fun z => q2 z.1), Int.add_zero]
      · refine sp_X1_stepOf hG (by omega) (by omega) hP hC h2 ⟨by omega, by omega⟩ (slKt.ok ⟨⟨by omega, by omega⟩, fun q3 => ⟨_, Or.inl (by show (240 - (y4 + 1)).toNat < (240 - y4).toNat; omega), rfl, rfl, ⟨by omega, by omega⟩, ?_⟩, fun q3 => ⟨_, Or.inl (by show (240 - (y4 + 1)).toNat < (240 - y4).toNat; omega), rfl, rfl, ⟨by omega, by omega⟩, ?_⟩⟩)
        · rw [abSum_s hy.1, abIf_f (fun z => z.2 q3), Int.add_zero]
        · rw [abSum_s hy.1, abIf_t ⟨q2, q3⟩]
set_option maxHeartbeats 1000000 in
set_option maxRecDepth 4000 in
theorem sp_X3_showsOf {G : slG} (hG : slGood G) {d K : Nat} (hd : 0 ≤ d) (hK : 0 ≤ K) {Φ : slPost} {σ : slM} {i0 : Nat} {x1 : Int} {x2 : Int} {V : Int → Int → Int} (h1 : 0 ≤ x1 ∧ x1 ≤ 8) (h2 : 0 ≤ x2 ∧ x2 < 5) (hw : ∀ s h : Int, 0 ≤ s → s < x1 → 0 ≤ h → h < 240 → σ 36 i0 (s * 240 + h).toNat = V s h ∧ 0 ≤ V s h ∧ V s h < 32) (h : Φ (0, abSum (fun s => abSum (fun h => abBit (V s h) x2) 240) x1.toNat) σ) :
    slCall G mX3_showsOf d K [sR 3 i0, sI x1, sI x2] σ Φ := by
  refine vc_X3_showsOf hG (by omega) hK (fun μ y3 y4 σ' => σ' = σ ∧ μ = ((x1 - y4).toNat, 20, 0) ∧ (0 ≤ y4 ∧ y4 ≤ x1) ∧ y3 = abSum (fun s => abSum (fun h => abBit (V s h) x2) 240) y4.toNat) (fun μ y3 y4 y5 σ' => σ' = σ ∧ μ = ((x1 - y4).toNat, 0, (240 - y5).toNat) ∧ (0 ≤ y4 ∧ y4 < x1) ∧ (0 ≤ y5 ∧ y5 ≤ 240) ∧ y3 = abSum (fun s => abSum (fun h => abBit (V s h) x2) 240) y4.toNat + abSum (fun h => abBit (V y4 h) x2) y5.toNat) ?_ ?_ ?_
  · exact ⟨_, rfl, rfl, ⟨by omega, by omega⟩, rfl⟩
  · rintro μ y3 y4 σ' ⟨rfl, rfl, hy, rfl⟩
    refine ⟨⟨⟨by omega, by omega⟩, by omega, by omega⟩, fun q => ?_, fun q => ⟨((x1 - y4).toNat, 0, (240 - 0 : Int).toNat), Or.inr ⟨rfl, Or.inl (by decide : 0 < 20)⟩, rfl, rfl, ⟨by omega, by omega⟩, ⟨by omega, by omega⟩, (Int.add_zero _).symm⟩⟩
    rw [show y4.toNat = x1.toNat by omega]; exact h
  · rintro μ y3 y4 y5 σ' ⟨rfl, rfl, hy, hy5, rfl⟩
    refine ⟨⟨by omega, by omega⟩, fun q => ⟨((x1 - (y4 + 1)).toNat, 20, 0), Or.inl (by show (x1 - (y4 + 1)).toNat < (x1 - y4).toNat; omega), rfl, rfl, ⟨by omega, by omega⟩, ?_⟩, fun q => ⟨⟨by omega, by omega⟩, ((x1 - y4).toNat, 0, (240 - (y5 + 1)).toNat), Or.inr ⟨rfl, Or.inr ⟨rfl, by show (240 - (y5 + 1)).toNat < (240 - y5).toNat; omega⟩⟩, rfl, rfl, hy, ⟨by omega, by omega⟩, ?_⟩⟩
    · rw [abSum_s hy.1, show y5.toNat = 240 by omega]
    · have w := hw y4 y5 hy.1 (by omega) hy5.1 (by omega)
      rw [abSum_s hy5.1, Int.add_assoc, w.1, sBit w.2.1 (by omega) h2.1 (by omega)]
/-! the model's memory after it has sailed, up to the hour H -/
def mSl (H : Int) (P : abP) (C : Int → Int → Int) (oil : Int → Int) (σ : slM) : Prop := ∀ h l : Int, 0 ≤ h → h < H → 0 ≤ l → l < P 1 3 → σ 92 0 (240 * l + h).toNat = C h l ∧ σ 93 0 (240 * l + h).toNat = abOil (oil l) h
def gdK (H : Int) (P : abP) (C : Int → Int → Int) (oil : Int → Int) : Prop := (∀ h : Int, 0 ≤ h → h < H → gdP P (C h)) ∧ ∀ l : Int, 0 ≤ l → l < P 1 3 → 0 ≤ oil l ∧ oil l ≤ 200
set_option maxHeartbeats 1000000 in
set_option maxRecDepth 4000 in
theorem sp_X12_isInSight {G : slG} (hG : slGood G) {d K : Nat} (hd : 2 ≤ d) (hK : 0 ≤ K) {Φ : slPost} {σ : slM} {x1 : Int} {x2 : Int} {x3 : Int} {x4 : Int} {H : Int} {P : abP} {C : Int → Int → Int} {oil : Int → Int} (hM : isM P σ) (hC : gdC P) (hS : mSl H P C oil σ) (hK2 : gdK H P C oil) (hH : H ≤ 240) (h1 : 0 ≤ x1 ∧ x1 < P 1 3) (h2 : 0 ≤ x2 ∧ x2 < H) (h3 : gc P x3) (n3 : P 23 x3.toNat = 0) (h4 : 0 ≤ x4 ∧ x4 ≤ 9) (h : Φ (0, abIf (abSight P x3 (C x2 x1) ≤ P 26 x1.toNat - x4) 1 0) σ) :
    slCall G mX12_isInSight d K [sR 12 0, sI x1, sI x2, sI x3, sI x4] σ Φ := by
  refine vc_X12_isInSight hG (by omega) hK  ?_
  have a := hC.2.2.2.1
  have b := hM.2.2.1 x1 h1.1 h1.2
  have cb := hC.2.2.2.2.2.2.2.2.1 x1 h1.1 h1.2
  have s := hS x2 x1 h2.1 h2.2 h1.1 h1.2
  have g := hK2.1 x2 h2.1 h2.2 x1 h1.1 h1.2
  have g1 := g.1.dv hC
  have g3 := h3.dv hC
  have fr : 0 ≤ abFar (P 1 0) (C x2 x1) x3 ∧ abFar (P 1 0) (C x2 x1) x3 ≤ 12 := by unfold abFar abMax abAbs; omega
  have fs : abFar (P 1 0) (C x2 x1) x3 = abFar (P 1 0) x3 (C x2 x1) := by unfold abFar abMax abAbs; omega
  rw [s.1]
  unfold abSight at h
  refine ⟨⟨by omega, by omega⟩, ?_⟩
  refine sp_X12_farOf hG (by omega) (by omega) hM hC g.1 h3 (slKt.ok ?_)
  rw [b.1]
  refine ⟨⟨by omega, by omega⟩, ⟨⟨by omega, by omega⟩, by omega, by omega⟩, fun q => ?_, fun q => ?_⟩
  · have nq : ¬ abIf (abHid P x3 (C x2 x1)) 99 (abFar (P 1 0) x3 (C x2 x1)) ≤ P 26 x1.toNat - x4 := by
      by_cases z : abHid P x3 (C x2 x1)
      · rw [abIf_t z]; omega
      · rw [abIf_f z]; omega
    rwa [abIf_f nq] at h
  · refine sp_X12_isHidden hG (by omega) (by omega) hM hC h3 g.1 n3 g.2.1 (slKt.ok ⟨in01, fun q2 => ?_, fun q2 => ?_⟩)
    · rw [abIf_t (abIf_nz q2), abIf_f (by omega)] at h; exact h
    · rw [abIf_f (abIf_z q2), abIf_t (by omega)] at h; exact h
set_option maxHeartbeats 1000000 in
set_option maxRecDepth 4000 in
theorem sp_X12_seenFrom {G : slG} (hG : slGood G) {d K : Nat} (hd : 3 ≤ d) (hK : 0 ≤ K) {Φ : slPost} {σ : slM} {x1 : Int} {x2 : Int} {x3 : Int} {H : Int} {P : abP} {C : Int → Int → Int} {oil : Int → Int} (hM : isM P σ) (hC : gdC P) (hS : mSl H P C oil σ) (hK2 : gdK H P C oil) (hH : H ≤ 240) (h1 : gc P x1) (n1 : P 23 x1.toNat = 0) (h2 : 0 ≤ x2 ∧ x2 < H) (h3 : 0 ≤ x3 ∧ x3 ≤ 9) (h : Φ (0, abSeen P C oil x3 x1 x2) σ) :
    slCall G mX12_seenFrom d K [sR 12 0, sI x1, sI x2, sI x3] σ Φ := by
  refine vc_X12_seenFrom hG (by omega) hK (fun μ y4 y5 σ' => σ' = σ ∧ μ = ((P 1 3 - y5).toNat, 0, 0) ∧ (0 ≤ y5 ∧ y5 ≤ P 1 3) ∧ y4 = abMask (abSees P C oil x3 x1 x2) y5.toNat) ?_ ?_
  · have a := hC.2.2.2.1
    exact ⟨_, rfl, rfl, ⟨by omega, by omega⟩, rfl⟩
  · have a := hC.2.2.2.1
    rintro μ y4 y5 σ' ⟨rfl, rfl, hy, rfl⟩
    rw [hM.1.2.2.2.1]
    have sz : sOr (abMask (abSees P C oil x3 x1 x2) y5.toNat) 0 = abMask (abSees P C oil x3 x1 x2) y5.toNat := by
      have r := abMask_8 (f := abSees P C oil x3 x1 x2) (n := y5.toNat) (by omega)
      obtain ⟨m, e⟩ := Int.eq_ofNat_of_zero_le r.1
      rw [e] at r ⊢
      exact sOr_0 m (by omega)
    refine ⟨⟨⟨by omega, by omega⟩, by omega, by omega⟩, fun q => ?_, fun q => ?_⟩
    · rw [show y5.toNat = (P 1 3).toNat by omega]; exact h
    · rw [sz]
      have s := hS x2 y5 h2.1 h2.2 hy.1 (by omega)
      refine sp_X12_isLitIn hG (by omega) (by omega) ⟨by omega, by omega⟩ ⟨by omega, by omega⟩ (hK2.2 y5 hy.1 (by omega)) s.2 (slKt.ok ⟨in01, fun q2 => ⟨_, Or.inl (by show (P 1 3 - (y5 + 1)).toNat < (P 1 3 - y5).toNat; omega), rfl, rfl, ⟨by omega, by omega⟩, ?_⟩, fun q2 => ?_⟩)
      · rw [abMask_s hy.1, abIf_f (fun z => abIf_z q2 z.1), Int.add_zero]
      · refine sp_X12_isInSight hG (by omega) (by omega) hM hC hS hK2 hH ⟨by omega, by omega⟩ h2 h1 n1 h3 (slKt.ok ⟨in01, fun q3 => ⟨_, Or.inl (by show (P 1 3 - (y5 + 1)).toNat < (P 1 3 - y5).toNat; omega), rfl, rfl, ⟨by omega, by omega⟩, ?_⟩, fun q3 => ⟨_, Or.inl (by show (P 1 3 - (y5 + 1)).toNat < (P 1 3 - y5).toNat; omega), rfl, rfl, ⟨by omega, by omega⟩, ?_⟩⟩)
        · rw [abMask_s hy.1, abIf_f (fun z => abIf_z q3 z.2), Int.add_zero]
        · rw [abMask_s hy.1, abMask_or hy.1 (by omega), abIf_t ⟨abIf_nz q2, abIf_nz q3⟩]
/-- ships of the model at these cells -/
def mMo (P : abP) (mo : Int → Int) (σ : slM) : Prop := ∀ s : Int, 0 ≤ s → s < P 1 4 → σ 88 0 (5 + s).toNat = mo s
set_option maxHeartbeats 1000000 in
set_option maxRecDepth 4000 in
theorem sp_X12_seenNow {G : slG} (hG : slGood G) {d K : Nat} (hd : 4 ≤ d) (hK : 0 ≤ K) {Φ : slPost} {σ : slM} {x1 : Int} {x2 : Int} {P : abP} {C : Int → Int → Int} {oil mo : Int → Int} (hM : isM P σ) (hC : gdC P) (hS : mSl 240 P C oil σ) (hK2 : gdK 240 P C oil) (hm : mMo P mo σ) (gm : gdM P mo) (h1 : 0 ≤ x1 ∧ x1 < P 1 4) (h2 : 0 ≤ x2 ∧ x2 < 240) (h : Φ (0, abNow P C oil mo x1 x2) σ) :
    slCall G mX12_seenNow d K [sR 12 0, sI x1, sI x2] σ Φ := by
  refine vc_X12_seenNow hG (by omega) hK  ?_
  have a4 := hC.2.2.2.2.1
  have g := gm x1 h1.1 h1.2
  rw [sDiv_eq h2.1 (by omega) (by omega) (by omega), hm x1 h1.1 h1.2]
  refine ⟨⟨by omega, by omega⟩, ?_⟩
  refine sp_X12_fogIn hG (by omega) (by omega) hM hC ⟨by omega, by omega⟩ (slKt.ok ?_)
  refine sp_X12_seenFrom hG (by omega) (by omega) hM hC hS hK2 (by omega) g.1 g.2 h2 (abFog_r hC (by omega)) (slKt.ok h)
set_option maxHeartbeats 1000000 in
set_option maxRecDepth 4000 in
theorem sp_X12_watchFrom {G : slG} (hG : slGood G) {d K : Nat} (hd : 4 ≤ d) (hK : 0 ≤ K) {Φ : slPost} {σ : slM} {x1 : Int} {x2 : Int} {x3 : Int} {x4 : Int} {H : Int} {P : abP} {C : Int → Int → Int} {oil : Int → Int} (hM : isM P σ) (hC : gdC P) (hS : mSl H P C oil σ) (hK2 : gdK H P C oil) (hH : H ≤ 240) (h1 : gc P x1) (n1 : P 23 x1.toNat = 0) (h2 : 0 ≤ x2 ∧ 24 * x2 + 24 ≤ H) (h3 : 0 ≤ x3 ∧ x3 ≤ 9) (h : Φ (0, abHrs (abSeen P C oil x3 x1) x2 x4) σ) :
    slCall G mX12_watchFrom d K [sR 12 0, sI x1, sI x2, sI x3, sI x4] σ Φ := by
  refine vc_X12_watchFrom hG (by omega) hK (fun μ y5 y6 σ' => σ' = σ ∧ μ = ((24 * x2 + 24 - y6).toNat, 0, 0) ∧ (24 * x2 ≤ y6 ∧ y6 ≤ 24 * x2 + 24) ∧ y5 = abSum (fun k => abIf (¬ sAnd (abSeen P C oil x3 x1 (24 * x2 + k)) x4 = 0) 1 0) (y6 - 24 * x2).toNat) ?_ ?_
  · refine ⟨_, rfl, rfl, ⟨by omega, by omega⟩, ?_⟩
    rw [show (24 * x2 - 24 * x2).toNat = 0 by omega]
    rfl
  · rintro μ y5 y6 σ' ⟨rfl, rfl, hy, rfl⟩
    refine ⟨⟨⟨by omega, by omega⟩, by omega, by omega⟩, fun q => ?_, fun q => ?_⟩
    · rw [show (y6 - 24 * x2).toNat = 24 by omega]; exact h
    · refine sp_X12_seenFrom hG (by omega) (by omega) hM hC hS hK2 hH h1 n1 ⟨by omega, by omega⟩ h3 (slKt.ok ⟨inAnd, _, Or.inl (by show (24 * x2 + 24 - (y6 + 1)).toNat < (24 * x2 + 24 - y6).toNat; omega), rfl, rfl, ⟨by omega, by omega⟩, ?_⟩)
      rw [show y6 + 1 - 24 * x2 = (y6 - 24 * x2) + 1 by omega, abSum_s (by omega), show 24 * x2 + (y6 - 24 * x2) = y6 by omega]
      by_cases z : sAnd (abSeen P C oil x3 x1 y6) x4 = 0
      · rw [if_pos z, abIf_f (fun w => w z)]
      · rw [if_neg z, abIf_t z]
theorem abHrs_c {W U : Int → Int} {n some : Int} (h : ∀ k : Int, 0 ≤ k → k < 24 → W (24 * n + k) = U (24 * n + k)) : abHrs W n some = abHrs U n some := by
  unfold abHrs
  exact abSum_c (fun k a b => by rw [h k a (by omega)])
theorem abHrs_now {P : abP} {C : Int → Int → Int} {oil mo : Int → Int} {s n some : Int} : abHrs (abSeen P C oil (abFog P n) (mo s)) n some = abHrs (abNow P C oil mo s) n some := by
  refine abHrs_c (fun k a b => ?_)
  unfold abNow
  rw [show (24 * n + k) / 24 = n by omega]
set_option maxHeartbeats 1000000 in
set_option maxRecDepth 4000 in
theorem sp_X12_watchOf {G : slG} (hG : slGood G) {d K : Nat} (hd : 5 ≤ d) (hK : 0 ≤ K) {Φ : slPost} {σ : slM} {x1 : Int} {x2 : Int} {P : abP} {C : Int → Int → Int} {oil mo : Int → Int} (hM : isM P σ) (hC : gdC P) (hS : mSl 240 P C oil σ) (hK2 : gdK 240 P C oil) (hm : mMo P mo σ) (gm : gdM P mo) (h1 : 0 ≤ x1 ∧ x1 < P 1 4) (h2 : 0 ≤ x2 ∧ x2 < 10) (h : Φ (0, abHrs (abNow P C oil mo x1) x2 31) σ) :
    slCall G mX12_watchOf d K [sR 12 0, sI x1, sI x2] σ Φ := by
  refine vc_X12_watchOf hG (by omega) hK  ?_
  have a4 := hC.2.2.2.2.1
  have g := gm x1 h1.1 h1.2
  rw [hm x1 h1.1 h1.2]
  refine ⟨⟨by omega, by omega⟩, ?_⟩
  refine sp_X12_fogIn hG (by omega) (by omega) hM hC ⟨by omega, by omega⟩ (slKt.ok ?_)
  refine sp_X12_watchFrom hG (by omega) (by omega) hM hC hS hK2 (by omega) g.1 g.2 ⟨by omega, by omega⟩ (abFog_r hC (by omega)) (slKt.ok ?_)
  rw [abHrs_now]
  exact h
set_option maxHeartbeats 1000000 in
set_option maxRecDepth 4000 in
theorem sp_X12_sumOf {G : slG} (hG : slGood G) {d K : Nat} (hd : 6 ≤ d) (hK : 0 ≤ K) {Φ : slPost} {σ : slM}  {P : abP} {C : Int → Int → Int} {oil mo : Int → Int} (hM : isM P σ) (hC : gdC P) (hS : mSl 240 P C oil σ) (hK2 : gdK 240 P C oil) (hm : mMo P mo σ) (gm : gdM P mo) (h : Φ (0, abSum (fun s => abSum (fun n => abHrs (abNow P C oil mo s) n 31) 10) (P 1 4).toNat) σ) :
    slCall G mX12_sumOf d K [sR 12 0] σ Φ := by
  refine vc_X12_sumOf hG (by omega) hK (fun μ y1 y2 σ' => σ' = σ ∧ μ = ((P 1 4 - y2).toNat, 20, 0) ∧ (0 ≤ y2 ∧ y2 ≤ P 1 4) ∧ y1 = abSum (fun s => abSum (fun n => abHrs (abNow P C oil mo s) n 31) 10) y2.toNat) (fun μ y1 y2 y3 σ' => σ' = σ ∧ μ = ((P 1 4 - y2).toNat, 0, (10 - y3).toNat) ∧ (0 ≤ y2 ∧ y2 < P 1 4) ∧ (0 ≤ y3 ∧ y3 ≤ 10) ∧ y1 = abSum (fun s => abSum (fun n => abHrs (abNow P C oil mo s) n 31) 10) y2.toNat + abSum (fun n => abHrs (abNow P C oil mo y2) n 31) y3.toNat) ?_ ?_ ?_
  · have a4 := hC.2.2.2.2.1
    exact ⟨_, rfl, rfl, ⟨by omega, by omega⟩, rfl⟩
  · have a4 := hC.2.2.2.2.1
    rintro μ y1 y2 σ' ⟨rfl, rfl, hy, rfl⟩
    rw [hM.1.2.2.2.2.1]
    refine ⟨⟨⟨by omega, by omega⟩, by omega, by omega⟩, fun q => ?_, fun q => ⟨((P 1 4 - y2).toNat, 0, (10 - 0 : Int).toNat), Or.inr ⟨rfl, Or.inl (by decide : 0 < 20)⟩, rfl, rfl, ⟨by omega, by omega⟩, ⟨by omega, by omega⟩, (Int.add_zero _).symm⟩⟩
    rw [show y2.toNat = (P 1 4).toNat by omega]; exact h
  · have a4 := hC.2.2.2.2.1
    rintro μ y1 y2 y3 σ' ⟨rfl, rfl, hy, hy3, rfl⟩
    refine ⟨⟨by omega, by omega⟩, fun q => ⟨((P 1 4 - (y2 + 1)).toNat, 20, 0), Or.inl (by show (P 1 4 - (y2 + 1)).toNat < (P 1 4 - y2).toNat; omega), rfl, rfl, ⟨by omega, by omega⟩, ?_⟩, fun q => ?_⟩
    · rw [abSum_s hy.1, show y3.toNat = 10 by omega]
    · refine sp_X12_watchOf hG (by omega) (by omega) hM hC hS hK2 hm gm hy ⟨by omega, by omega⟩ (slKt.ok ⟨((P 1 4 - y2).toNat, 0, (10 - (y3 + 1)).toNat), Or.inr ⟨rfl, Or.inr ⟨rfl, by show (10 - (y3 + 1)).toNat < (10 - y3).toNat; omega⟩⟩, rfl, rfl, hy, ⟨by omega, by omega⟩, ?_⟩)
      rw [abSum_s hy3.1, Int.add_assoc]
set_option maxHeartbeats 1000000 in
set_option maxRecDepth 4000 in
theorem sp_X12_unseen {G : slG} (hG : slGood G) {d K : Nat} (hd : 6 ≤ d) (hK : 0 ≤ K) {Φ : slPost} {σ : slM} {x1 : Int} {P : abP} {C : Int → Int → Int} {oil mo : Int → Int} (hM : isM P σ) (hC : gdC P) (hS : mSl 240 P C oil σ) (hK2 : gdK 240 P C oil) (hm : mMo P mo σ) (gm : gdM P mo) (h1 : 0 ≤ x1 ∧ x1 < P 1 4) (h : Φ (0, abUns (abNow P C oil mo x1) 0 10) σ) :
    slCall G mX12_unseen d K [sR 12 0, sI x1] σ Φ := by
  refine vc_X12_unseen hG (by omega) hK (fun μ y2 σ' => σ' = σ ∧ μ = ((10 - y2).toNat, 0, 0) ∧ (0 ≤ y2 ∧ y2 ≤ 10) ∧ abUns (abNow P C oil mo x1) 0 10 = abUns (abNow P C oil mo x1) y2.toNat (10 - y2).toNat) ?_ ?_
  · exact ⟨_, rfl, rfl, ⟨by omega, by omega⟩, rfl⟩
  · rintro μ y2 σ' ⟨rfl, rfl, hy, e⟩
    refine ⟨⟨by omega, by omega⟩, fun q => ?_, fun q => ?_⟩
    · rw [e, show (10 - y2).toNat = 0 by omega] at h; exact h
    · have e2 : abUns (abNow P C oil mo x1) y2.toNat (10 - y2).toNat = abIf (abHrs (abNow P C oil mo x1) y2 31 = 0) y2 (abUns (abNow P C oil mo x1) (y2 + 1).toNat (10 - (y2 + 1)).toNat) := by
        rw [show (10 - y2).toNat = (10 - (y2 + 1)).toNat + 1 by omega, show (y2 + 1).toNat = y2.toNat + 1 by omega]
        show abIf (abHrs _ (y2.toNat : Int) 31 = 0) (y2.toNat : Int) _ = _
        rw [show ((y2.toNat : Nat) : Int) = y2 by omega]
      have r := abHrs_r (W := abNow P C oil mo x1) (night := y2) (some := 31)
      refine sp_X12_watchOf hG (by omega) (by omega) hM hC hS hK2 hm gm h1 ⟨by omega, by omega⟩ (slKt.ok ⟨⟨by omega, by omega⟩, fun q2 => ⟨_, Or.inl (by show (10 - (y2 + 1)).toNat < (10 - y2).toNat; omega), rfl, rfl, ⟨by omega, by omega⟩, ?_⟩, fun q2 => ?_⟩)
      · rw [e, e2, abIf_f q2]
      · rw [e, e2, abIf_t q2] at h; exact h
set_option maxHeartbeats 1000000 in
set_option maxRecDepth 4000 in
theorem sp_X12_longestDark {G : slG} (hG : slGood G) {d K : Nat} (hd : 5 ≤ d) (hK : 0 ≤ K) {Φ : slPost} {σ : slM} {x1 : Int} {P : abP} {C : Int → Int → Int} {oil mo : Int → Int} (hM : isM P σ) (hC : gdC P) (hS : mSl 240 P C oil σ) (hK2 : gdK 240 P C oil) (hm : mMo P mo σ) (gm : gdM P mo) (h1 : 0 ≤ x1 ∧ x1 < P 1 4) (h : Φ (0, (abDk (abNow P C oil mo x1) 240).1) σ) :
    slCall G mX12_longestDark d K [sR 12 0, sI x1] σ Φ := by
  refine vc_X12_longestDark hG (by omega) hK (fun μ y2 y3 y4 σ' => σ' = σ ∧ μ = ((240 - y4).toNat, 0, 0) ∧ (0 ≤ y4 ∧ y4 ≤ 240) ∧ y2 = (abDk (abNow P C oil mo x1) y4.toNat).1 ∧ y3 = (abDk (abNow P C oil mo x1) y4.toNat).2) ?_ ?_
  · exact ⟨_, rfl, rfl, ⟨by omega, by omega⟩, rfl, rfl⟩
  · rintro μ y2 y3 y4 σ' ⟨rfl, rfl, hy, rfl, rfl⟩
    have r := abDk_r (W := abNow P C oil mo x1) (n := y4.toNat)
    refine ⟨⟨by omega, by omega⟩, fun q => ?_, fun q => ?_⟩
    · rw [show y4.toNat = 240 by omega]; exact h
    · rw [sRem_eq hy.1 (by omega) (by omega) (by omega)]
      have w := abSeen_r (C := C) (oil := oil) (fog := abFog P (y4 / 24)) (m := mo x1) (h := y4) hC
      have w2 : 0 ≤ abNow P C oil mo x1 y4 ∧ abNow P C oil mo x1 y4 < 32 := w
      refine ⟨⟨by omega, by omega⟩, fun q2 => ?_, fun q2 => ⟨_, Or.inl (by show (240 - (y4 + 1)).toNat < (240 - y4).toNat; omega), rfl, rfl, ⟨by omega, by omega⟩, ?_, ?_⟩⟩
      · refine sp_X12_seenNow hG (by omega) (by omega) hM hC hS hK2 hm gm h1 ⟨by omega, by omega⟩ (slKt.ok ⟨⟨by omega, by omega⟩, ⟨?_, by omega, by omega⟩, _, Or.inl (by show (240 - (y4 + 1)).toNat < (240 - y4).toNat; omega), rfl, rfl, ⟨by omega, by omega⟩, ?_, ?_⟩)
        · split <;> exact ⟨by omega, by omega⟩
        · rw [abDk_s hy.1, if_neg (show ¬ y4 % 24 < 12 by omega)]
          show (if _ ≤ _ then _ else _) = (if _ < _ then _ else _)
          generalize (if ¬ abNow P C oil mo x1 y4 = 0 then (0 : Int) else (abDk (abNow P C oil mo x1) y4.toNat).2 + 1) = n
          omega
        · rw [abDk_s hy.1, if_neg (show ¬ y4 % 24 < 12 by omega)]
      · rw [abDk_s hy.1, if_pos (by omega)]
      · rw [abDk_s hy.1, if_pos (by omega)]
set_option maxHeartbeats 1000000 in
set_option maxRecDepth 4000 in
theorem sp_X12_contentBy {G : slG} (hG : slGood G) {d K : Nat} (hd : 5 ≤ d) (hK : 0 ≤ K) {Φ : slPost} {σ : slM} {x1 : Int} {x2 : Int} {x3 : Int} {H : Int} {P : abP} {C : Int → Int → Int} {oil mo : Int → Int} (hM : isM P σ) (hC : gdC P) (hS : mSl H P C oil σ) (hK2 : gdK H P C oil) (hH : H ≤ 240) (hm : mMo P mo σ) (gm : gdM P mo) (h1 : 0 ≤ x1 ∧ 24 * x1 + 24 ≤ H) (h2 : 0 ≤ x2 ∧ x2 ≤ 9) (hi : ∀ k : Int, 0 ≤ k → k < P 1 4 → InR (σ 88 0 (19 + k).toNat)) (h : Φ (0, abMask (fun k => σ 88 0 (19 + k).toNat ≤ abHrs (abSeen P C oil x2 (mo k)) x1 x3) (P 1 4).toNat) σ) :
    slCall G mX12_contentBy d K [sR 12 0, sI x1, sI x2, sI x3] σ Φ := by
  refine vc_X12_contentBy hG (by omega) hK (fun μ y4 y5 σ' => σ' = σ ∧ μ = ((P 1 4 - y5).toNat, 0, 0) ∧ (0 ≤ y5 ∧ y5 ≤ P 1 4) ∧ y4 = abMask (fun k => σ 88 0 (19 + k).toNat ≤ abHrs (abSeen P C oil x2 (mo k)) x1 x3) y5.toNat) ?_ ?_
  · have a4 := hC.2.2.2.2.1
    exact ⟨_, rfl, rfl, ⟨by omega, by omega⟩, rfl⟩
  · have a4 := hC.2.2.2.2.1
    rintro μ y4 y5 σ' ⟨rfl, rfl, hy, rfl⟩
    rw [hM.1.2.2.2.2.1]
    refine ⟨⟨⟨by omega, by omega⟩, by omega, by omega⟩, fun q => ?_, fun q => ⟨⟨by omega, by omega⟩, ?_⟩⟩
    · rw [show y5.toNat = (P 1 4).toNat by omega]; exact h
    · have g := gm y5 hy.1 (by omega)
      have r := abHrs_r (W := abSeen P C oil x2 (mo y5)) (night := x1) (some := x3)
      have sz : sOr (abMask (fun k => σ' 88 0 (19 + k).toNat ≤ abHrs (abSeen P C oil x2 (mo k)) x1 x3) y5.toNat) 0 = abMask (fun k => σ' 88 0 (19 + k).toNat ≤ abHrs (abSeen P C oil x2 (mo k)) x1 x3) y5.toNat := by
        have r := abMask_8 (f := fun k => σ' 88 0 (19 + k).toNat ≤ abHrs (abSeen P C oil x2 (mo k)) x1 x3) (n := y5.toNat) (by omega)
        obtain ⟨m, e⟩ := Int.eq_ofNat_of_zero_le r.1
        rw [e] at r ⊢
        exact sOr_0 m (by omega)
      rw [hm y5 hy.1 (by omega), sz]
      refine sp_X12_watchFrom hG (by omega) (by omega) hM hC hS hK2 hH g.1 g.2 h1 h2 (slKt.ok ⟨⟨by omega, by omega⟩, ⟨⟨by omega, by omega⟩, hi y5 hy.1 (by omega)⟩, fun q2 => ⟨_, Or.inl (by show (P 1 4 - (y5 + 1)).toNat < (P 1 4 - y5).toNat; omega), rfl, rfl, ⟨by omega, by omega⟩, ?_⟩, fun q2 => ⟨_, Or.inl (by show (P 1 4 - (y5 + 1)).toNat < (P 1 4 - y5).toNat; omega), rfl, rfl, ⟨by omega, by omega⟩, ?_⟩⟩)
      · rw [abMask_s hy.1, abIf_f (by omega), Int.add_zero]
      · rw [abMask_s hy.1, abMask_or hy.1 (by omega), abIf_t (by omega)]
set_option maxHeartbeats 1000000 in
set_option maxRecDepth 4000 in
theorem sp_X12_shows {G : slG} (hG : slGood G) {d K : Nat} (hd : 3 ≤ d) (hK : 0 ≤ K) {Φ : slPost} {σ : slM} {x1 : Int} {P : abP} {C : Int → Int → Int} {oil mo : Int → Int} (hM : isM P σ) (hC : gdC P) (hS : mSl 240 P C oil σ) (hK2 : gdK 240 P C oil) (hm : mMo P mo σ) (gm : gdM P mo) (h1 : 0 ≤ x1 ∧ x1 < P 1 3) (h : Φ (0, abSum (fun s => abSum (fun h => abBit (abNow P C oil mo s h) x1) 240) (P 1 4).toNat) σ) :
    slCall G mX12_shows d K [sR 12 0, sI x1] σ Φ := by
  refine vc_X12_shows hG (by omega) hK (fun μ y2 y3 σ' => σ' = σ ∧ μ = ((P 1 4 - y3).toNat, 20, 0) ∧ (0 ≤ y3 ∧ y3 ≤ P 1 4) ∧ y2 = abSum (fun s => abSum (fun h => abBit (abNow P C oil mo s h) x1) 240) y3.toNat) (fun μ y2 y3 y4 σ' => σ' = σ ∧ μ = ((P 1 4 - y3).toNat, 0, (240 - y4).toNat) ∧ (0 ≤ y3 ∧ y3 < P 1 4) ∧ (0 ≤ y4 ∧ y4 ≤ 240) ∧ y2 = abSum (fun s => abSum (fun h => abBit (abNow P C oil mo s h) x1) 240) y3.toNat + abSum (fun h => abBit (abNow P C oil mo y3 h) x1) y4.toNat) ?_ ?_ ?_
  · have a4 := hC.2.2.2.2.1
    exact ⟨_, rfl, rfl, ⟨by omega, by omega⟩, rfl⟩
  · have a4 := hC.2.2.2.2.1
    rintro μ y2 y3 σ' ⟨rfl, rfl, hy, rfl⟩
    rw [hM.1.2.2.2.2.1]
    refine ⟨⟨⟨by omega, by omega⟩, by omega, by omega⟩, fun q => ?_, fun q => ⟨((P 1 4 - y3).toNat, 0, (240 - 0 : Int).toNat), Or.inr ⟨rfl, Or.inl (by decide : 0 < 20)⟩, rfl, rfl, ⟨by omega, by omega⟩, ⟨by omega, by omega⟩, (Int.add_zero _).symm⟩⟩
    rw [show y3.toNat = (P 1 4).toNat by omega]; exact h
  · have a := hC.2.2.2.1
    have a4 := hC.2.2.2.2.1
    rintro μ y2 y3 y4 σ' ⟨rfl, rfl, hy, hy4, rfl⟩
    refine ⟨⟨by omega, by omega⟩, fun q => ⟨((P 1 4 - (y3 + 1)).toNat, 20, 0), Or.inl (by show (P 1 4 - (y3 + 1)).toNat < (P 1 4 - y3).toNat; omega), rfl, rfl, ⟨by omega, by omega⟩, ?_⟩, fun q => ?_⟩
    · rw [abSum_s hy.1, show y4.toNat = 240 by omega]
    · have g := gm y3 hy.1 (by omega)
      have s := hS y4 x1 hy4.1 (by omega) h1.1 h1.2
      have lt : slLt ((P 1 4 - y3).toNat, 0, (240 - (y4 + 1)).toNat) ((P 1 4 - y3).toNat, 0, (240 - y4).toNat) := Or.inr ⟨rfl, Or.inr ⟨rfl, by show (240 - (y4 + 1)).toNat < (240 - y4).toNat; omega⟩⟩
      have bt : abBit (abNow P C oil mo y3 y4) x1 = abIf (abSees P C oil (abFog P (y4 / 24)) (mo y3) y4 x1) 1 0 := abMask_bit (by omega) h1.1 (by omega)
      refine sp_X12_isLitIn hG (by omega) (by omega) ⟨by omega, by omega⟩ ⟨by omega, by omega⟩ (hK2.2 x1 h1.1 h1.2) s.2 (slKt.ok ⟨in01, fun q2 => ⟨_, lt, rfl, rfl, hy, ⟨by omega, by omega⟩, ?_⟩, fun q2 => ⟨⟨by omega, by omega⟩, ?_⟩⟩)
      · rw [abSum_s hy4.1, bt, abIf_f (fun z => abIf_z q2 z.1), Int.add_assoc]
      · rw [sDiv_eq hy4.1 (by omega) (by omega) (by omega), hm y3 hy.1 (by omega)]
        refine sp_X12_fogIn hG (by omega) (by omega) hM hC ⟨by omega, by omega⟩ (slKt.ok ?_)
        refine sp_X12_isInSight hG (by omega) (by omega) hM hC hS hK2 (by omega) h1 ⟨by omega, by omega⟩ g.1 g.2 (abFog_r hC (by omega)) (slKt.ok ⟨in01, _, lt, rfl, rfl, hy, ⟨by omega, by omega⟩, ?_⟩)
        rw [abSum_s hy4.1, bt, Int.add_assoc]
        by_cases z : abSight P (mo y3) (C y4 x1) ≤ P 26 x1.toNat - abFog P (y4 / 24)
        · rw [abIf_t z, abIf_t ⟨abIf_nz q2, z⟩]; rfl
        · rw [abIf_f z, abIf_f (fun w => z w.2)]; rfl
