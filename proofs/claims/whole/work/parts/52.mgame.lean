/-! ===== games in the model ===== -/
set_option maxHeartbeats 1000000 in
set_option maxRecDepth 4000 in
theorem sp_X12_game {G : slG} (hG : slGood G) {d K : Nat} (hd : 50 ≤ d) (hK : 0 ≤ K) {Φ : slPost} {σ : slM} {x1 : Int} {x2 : Int} {x3 : Int} {x4 : Int} {x5 : Int} {N : Nat} {Z : abZ} (hY : isY Z σ) (hZ : gdZ N Z) (i1 : InR x1) (i2 : InR x2) (i3 : InR x3) (i4 : InR x4) (i5 : InR x5) (h : mA Z σ Φ (abOk2 (gmP Z x1 x2 x3 x5) (gmQ x1 x2 x4) (abGame Z x1 x2 x3 x4 x5))) :
    slCall G mX12_game d K [sR 12 0, sI x1, sI x2, sI x3, sI x4, sI x5] σ Φ := by
  refine vc_X12_game hG (by omega) hK (fun μ y6 y7 y8 σ' => gmP Z x1 x2 x3 x5 ∧ gmQ x1 x2 x4 ∧ mS Z σ σ' ∧ μ = ((4 - y8).toNat, 0, 0) ∧ (0 ≤ y8 ∧ y8 ≤ 4) ∧ (-1 ≤ y7 ∧ y7 ≤ 11) ∧ (y6, y7) = abGmP Z x1 x2 x3 x4 y8.toNat) ?_ ?_
  · have y0 := hY.z
    refine sp_X12_isLight hG (by omega) (by omega) y0.1 hZ.c i1 (slU_same _ _ _ _ _) (fun q1 => slKt.ok ⟨in1, fun z => absurd z (by decide), fun _ => ?_⟩) (fun q => slKt.ok ⟨in0, fun _ => h.no1 (fun z => q z.1) mQ.id.t0 y0, fun z => absurd rfl z⟩)
    refine sp_X12_isLight hG (by omega) (by omega) y0.1 hZ.c i2 (slU_same _ _ _ _ _) (fun q2 => slKt.ok ⟨in1, fun z => absurd z (by decide), fun _ => ?_⟩) (fun q => slKt.ok ⟨in0, fun _ => h.no1 (fun z => q z.2.1) mQ.id.t0 y0, fun z => absurd rfl z⟩)
    refine sp_X12_isNight hG (by omega) (by omega) i3 (slU_same _ _ _ _ _) (fun q3 => slKt.ok ⟨in1, fun z => absurd z (by decide), fun _ => ?_⟩) (fun q => slKt.ok ⟨in0, fun _ => h.no1 (fun z => q z.2.2.1) mQ.id.t0 y0, fun z => absurd rfl z⟩)
    refine sp_X12_isWhat hG (by omega) (by omega) i5 ⟨by decide, by decide⟩ (slU_same _ _ _ _ _) (fun q5 => slKt.ok ⟨in1, fun z => absurd z (by decide), fun _ => ⟨⟨i1, i2⟩, fun q6 => ?_, fun q6 => ?_⟩⟩) (fun q => slKt.ok ⟨in0, fun _ => h.no1 (fun z => q z.2.2.2) mQ.id.t0 y0, fun z => absurd rfl z⟩)
    all_goals have p : gmP Z x1 x2 x3 x5 := ⟨q1, q2, q3, q5⟩
    · refine sp_X12_right hG (by omega) (by omega) (slU_same _ _ _ _ _) in0 ⟨by decide, by decide⟩ (by decide) (fun z => absurd rfl z) (fun _ => slKt.ok ⟨in0, fun z => absurd rfl z, fun _ => h.no2 p (fun z => z.1 q6) mQ.id.t0 y0⟩)
    · refine sp_X12_within hG (by omega) (by omega) i4 ⟨by decide, by decide⟩ ⟨by decide, by decide⟩ (slKt.ok ⟨in01, ?_⟩)
      refine sp_X12_right hG (by omega) (by omega) (slU_same _ _ _ _ _) ?_ ⟨by decide, by decide⟩ (by decide) (fun z => slKt.ok ⟨in1, fun _ => ?_, fun z => absurd z (by decide)⟩) (fun z => slKt.ok ⟨in0, fun z => absurd rfl z, fun _ => h.no2 p (fun w => ?_) mQ.id.t0 y0⟩)
      · split <;> exact ⟨by decide, by decide⟩
      · have r : 0 ≤ x4 ∧ x4 ≤ 99 := by
          by_cases w : 0 ≤ x4 ∧ x4 ≤ 99
          · exact w
          · rw [abIf_f w, if_pos rfl] at z; exact absurd rfl z
        exact ms_now hG (by omega) y0 hZ mQ.id.t0 (slU_same _ _ _ _ _) (fun τ m => slKt.ok ⟨_, p, ⟨q6, r⟩, m, rfl, ⟨by omega, by omega⟩, ⟨by omega, by omega⟩, rfl⟩)
      · rw [abIf_t w.2, if_neg (by decide)] at z
        exact absurd z (by decide)
  · rintro μ y6 y7 y8 σ' ⟨p, g, m, rfl, hy, hy7, e⟩
    have s0 := abGmP_s (Z := Z) (a := x1) (b := x2) (n := x3) (u := x4) hy.1
    rw [← e] at s0
    refine ⟨⟨by omega, by omega⟩, fun q => ?_, fun q => ?_⟩
    · have k := h.yes2 p g m.1 m.2.1 m.2.2.1
      unfold abGame at k
      rw [show (4 : Nat) = y8.toNat by omega, ← e] at k
      refine ⟨i5, fun z => ?_, fun z => ?_⟩
      · rwa [if_neg z] at k
      · rwa [if_pos z] at k
    · rw [sDiv_eq hy.1 (by omega) (by decide) (by decide), sRem_eq hy.1 (by omega) (by decide) (by decide)]
      have lt : slLt ((4 - (y8 + 1)).toNat, 0, 0) ((4 - y8).toNat, 0, 0) := Or.inl (by show (4 - (y8 + 1)).toNat < (4 - y8).toNat; omega)
      have ne2 : ¬ x2 = x1 := fun z => g.1 z.symm
      have hx : y8 / 2 = 0 ∨ y8 / 2 = 1 := by omega
      have hyy : y8 % 2 = 0 ∨ y8 % 2 = 1 := by omega
      have g4 := g.2
      have K1 : abKeep Z x1 (y8 / 2) x2 (y8 % 2) x3 x4 ↔ ¬ (abGain Z x1 (y8 / 2) x2 (y8 % 2) x3 - y8 / 2 * x4 < abGain Z x1 (1 - y8 / 2) x2 (y8 % 2) x3 - (1 - y8 / 2) * x4) := by
        unfold abKeep
        rcases hx with u | u <;> rw [u] <;> simp
      have K2 : abKeep Z x2 (y8 % 2) x1 (y8 / 2) x3 x4 ↔ ¬ (abGain Z x2 (y8 % 2) x1 (y8 / 2) x3 - y8 % 2 * x4 < abGain Z x2 (1 - y8 % 2) x1 (y8 / 2) x3 - (1 - y8 % 2) * x4) := by
        unfold abKeep
        rcases hyy with u | u <;> rw [u] <;> simp
      have R1 : ∀ x : Int, x = 0 ∨ x = 1 → ∀ a b y : Int, InR (abGain Z a x b y x3 - x * x4) := fun x hx a b y => by
        have r := abGain_r (Z := Z) (a := a) (x := x) (b := b) (y := y) (n := x3) hZ.c
        rcases hx with u | u
        · rw [u] at r ⊢; rw [Int.zero_mul]; exact ⟨by omega, by omega⟩
        · rw [u] at r ⊢; rw [Int.one_mul]; exact ⟨by omega, by omega⟩
      have hx1 : 1 - y8 / 2 = 0 ∨ 1 - y8 / 2 = 1 := by omega
      have hy1 : 1 - y8 % 2 = 0 ∨ 1 - y8 % 2 = 1 := by omega
      refine sp_X12_gains hG (by omega) (by omega) m hZ p.1 hx1 p.2.1 g.1 hyy p.2.2.1 (slKt.ok ?_)
      refine sp_X12_gains hG (by omega) (by omega) m hZ p.1 hx p.2.1 g.1 hyy p.2.2.1 (slKt.ok ⟨⟨R1 _ hx1 _ _ _, R1 _ hx _ _ _⟩, fun z => ⟨_, lt, p, g, m, rfl, ⟨by omega, by omega⟩, hy7, ?_⟩, fun z => ?_⟩)
      · rw [s0, abIte_f (fun w => K1.mp w.1 z)]
      · refine sp_X12_gains hG (by omega) (by omega) m hZ p.2.1 hy1 p.1 ne2 hx p.2.2.1 (slKt.ok ?_)
        refine sp_X12_gains hG (by omega) (by omega) m hZ p.2.1 hyy p.1 ne2 hx p.2.2.1 (slKt.ok ⟨⟨R1 _ hy1 _ _ _, R1 _ hyy _ _ _⟩, fun w => ⟨⟨by omega, by omega⟩, fun u => ⟨_, lt, p, g, m, rfl, ⟨by omega, by omega⟩, hy7, ?_⟩, fun u => ⟨_, lt, p, g, m, rfl, ⟨by omega, by omega⟩, ⟨by omega, by omega⟩, ?_⟩⟩, fun w => ⟨_, lt, p, g, m, rfl, ⟨by omega, by omega⟩, hy7, ?_⟩⟩)
        · rw [s0, abIte_t ⟨K1.mpr z, K2.mpr (Int.not_lt.mpr w)⟩]
          show (y6 + 1, y7) = (y6 + 1, abIf (y7 = -1) (10 * (y8 / 2) + y8 % 2) y7)
          rw [abIf_f u]
        · rw [s0, abIte_t ⟨K1.mpr z, K2.mpr (Int.not_lt.mpr w)⟩]
          show (y6 + 1, _) = (y6 + 1, abIf (y7 = -1) (10 * (y8 / 2) + y8 % 2) y7)
          rw [abIf_t u]
        · rw [s0, abIte_f (fun u => w (Int.not_lt.mp (K2.mp u.2)))]
