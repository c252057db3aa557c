/-! ===== fogs and lines read by the model ===== -/
set_option maxHeartbeats 1000000 in
set_option maxRecDepth 4000 in
theorem sp_X12_readsFogs {G : slG} (hG : slGood G) {d K : Nat} (hd : 14 ≤ d) (hK : 0 ≤ K) {Φ : slPost} {σ : slM}  {X : abX} {Q : abV} {p : Int} (hX : gdX X) (hp : 0 ≤ p ∧ p ≤ X.2) (hk : lxK X p ≠ 0) (gq : gdR Q) (I : isMq Q p σ) (T : isTm X p σ) (g : σ 12 0 21 = 0) (h0 : ∀ k q, lnFo X Q p = .inl (k, q) → ∀ τ, mRF σ τ → mBad k q τ → Φ (0, 0) τ) (h1 : ∀ Q' p', lnFo X Q p = lnSg X p' Q' → p < p' ∧ p' ≤ X.2 → gdR Q' → ∀ τ, mRF σ τ → isMq Q' p' τ → isTm X p' τ → τ 12 0 21 = 0 → Φ (0, 0) τ) :
    slCall G mX12_readsFogs d K [sR 12 0] σ Φ := by
  refine vc_X12_readsFogs hG (by omega) hK (fun μ y1 σ' => ∃ Q' p', mRF σ σ' ∧ isMq Q' p' σ' ∧ isTm X p' σ' ∧ σ' 12 0 21 = 0 ∧ gdR Q' ∧ (p < p' ∧ p' ≤ X.2) ∧ (y1 = 1 ∧ (Q'.1 0 5 = 0 ∨ lxK X p' = 3) ∧ rdB (foR X (8 - (Q'.1 0 5).toNat + 1) Q' p') (fun Q1 p1 => lnSg X p1 Q1) = lnFo X Q p ∨ y1 = 0 ∧ lnFo X Q p = lnSg X p' Q') ∧ μ = ((9 - Q'.1 0 5).toNat, 0, 0)) ?_ ?_
  · have e := lxE_p (X := X) hp.2
    have e0 := e.2.2 hk
    have g5 := gq.2.2.2.2.2.1
    rw [I.1.2.2.2.2.2.1]
    refine ⟨⟨by omega, by omega⟩, fun z => ?_, fun z => ?_⟩
    · refine sp_good hG g (slKt.ok ⟨in1, fun _ => ?_, fun z => absurd z (by decide)⟩)
      refine sp_X12_goes hG (by omega) (by omega) hX T.1 ⟨by omega, e.2.1⟩ T.2.1 (fun τ1 f1 T1 => slKt.ok ⟨_, Q, lxE X p, mRF.of f1 (by decide) (by decide), I.nx gq f1 (by omega), T1, (f1.2 21 (by decide)).trans g, gq, ⟨e0, e.2.1⟩, Or.inl ⟨rfl, Or.inl (by omega), ?_⟩, rfl⟩)
      rw [show (Q.1 0 5).toNat = 0 by omega]
      unfold lnFo
      rw [if_neg (by omega)]
    · have B : mBad 5 (lxB X p) (mWr 5 (lxB X p) σ) := mBad.of T (by decide)
      exact sp_X12_wrong hG (by omega) (by omega) g T.2.2.2.1 (slKt.ok (sp_bb hG B (slKt.ok ⟨in0, fun z => absurd rfl z, fun _ => h0 5 _ (by unfold lnFo; rw [if_pos (by omega)]) _ mRF.id.w B⟩)))
  · rintro μ y1 σ' ⟨Q', p', F, I', T', g', gq', hp', cs, rfl⟩
    have g5 := gq'.2.2.2.2.2.1
    rcases cs with ⟨rfl, rd, ef⟩ | ⟨rfl, ef⟩
    · refine ⟨in1, fun z => absurd z (by decide), fun _ => sp_good hG g' (slKt.ok ⟨in1, fun z => absurd z (by decide), fun _ => ?_⟩)⟩
      rw [I'.1.2.2.2.2.2.1]
      rw [foR_s] at ef
      refine ⟨⟨by omega, by omega⟩, fun n8 => ?_, fun y8 => ?_⟩
      · rw [if_neg n8] at ef
        refine sp_X12_number hG (by omega) (by omega) hX ⟨by omega, hp'.2⟩ T' g' (by decide) (by decide) (by decide) (fun k q ee hk B => slKt.ok (sp_bb hG B (slKt.ok ⟨in0, fun z => absurd rfl z, fun _ => h0 k q (by rw [← ef, ee]; rfl) _ F.w B⟩))) (fun v p2 ev bv hp2 τ f T2 => slKt.ok ?_)
        rw [ev, rdB_o] at ef
        have g2 : τ 12 0 21 = 0 := (f.2 21 (by decide)).trans g'
        obtain ⟨hH, hC, hM, hL, hS, hF, hW⟩ := I'.nx gq' f (p' := p2) (by omega)
        refine sp_good hG g2 (slKt.ok ⟨in1, fun _ => ?_, fun z => absurd z (by decide)⟩)
        have sr := mSo_r (k := lxK X p2)
        have y37 : slU τ 82 0 (Q'.1 0 5).toNat v 12 0 37 = Q'.1 0 5 := by rw [slU_else (by decide)]; exact hH.2.2.2.2.2.1
        have y26 : slU (slU τ 82 0 (Q'.1 0 5).toNat v) 12 0 37 (Q'.1 0 5 + 1) 12 0 26 = mSo (lxK X p2) := by rw [slU_ne (by decide), slU_else (by decide)]; exact T2.2.2.1
        rw [hH.2.2.2.2.2.1, y37, y26]
        have D : ∀ a, a ≠ 12 → a ≠ 82 → slU (slU τ 82 0 (Q'.1 0 5).toNat v) 12 0 37 (Q'.1 0 5 + 1) a 0 = τ a 0 := fun a x y => by rw [slU_else (by omega), slU_else (by omega)]
        have Dk : ∀ k, k ≠ 37 → slU (slU τ 82 0 (Q'.1 0 5).toNat v) 12 0 37 (Q'.1 0 5 + 1) 12 0 k = τ 12 0 k := fun k x => by rw [slU_ne x, slU_else (by decide)]
        have R : ∀ a i, a ≠ 0 → a ≠ 12 → (qFo Q' v).1 a i = Q'.1 a i := fun a i x y => qFo_r x y
        refine ⟨⟨by omega, by omega⟩, ⟨by omega, by omega⟩, ((9 - (Q'.1 0 5 + 1)).toNat, 0, 0), Or.inl (by show (9 - (Q'.1 0 5 + 1)).toNat < (9 - Q'.1 0 5).toNat; omega), qFo Q' v, p2, ((F.tr (mRF.of f (by decide) (by decide))).u (by decide)).k (by decide), ⟨⟨?_, ?_, ?_, ?_, ?_, ?_, ?_⟩, ?_, ?_, ?_, ?_, ?_, ?_⟩, T2.c (fun k x y => Dk k (by omega)) (D 72 (by decide) (by decide)), (Dk 21 (by decide)).trans g2, gq'.fo n8 bv, ⟨by omega, hp2.2⟩, ?_, by rw [qFo_05]⟩
        · rw [Dk 32 (by decide), qFo_0 (by decide)]; exact hH.1
        · rw [Dk 33 (by decide), qFo_0 (by decide)]; exact hH.2.1
        · rw [Dk 34 (by decide), qFo_0 (by decide)]; exact hH.2.2.1
        · rw [Dk 35 (by decide), qFo_0 (by decide)]; exact hH.2.2.2.1
        · rw [Dk 36 (by decide), qFo_0 (by decide)]; exact hH.2.2.2.2.1
        · rw [slU_same, qFo_05]
        · rw [Dk 38 (by decide), qFo_0 (by decide)]; exact hH.2.2.2.2.2.2
        · exact hC.c (qFo_0 (by decide)) (fun i => R 1 i (by decide) (by decide)) (D 75 (by decide) (by decide))
        · exact hM.c (fun i => R 13 i (by decide) (by decide)) (D 74 (by decide) (by decide))
        · exact hL.c gq'.2.2.2.1.2 (qFo_0 (by decide)) (fun a i x y => R a i (by omega) (by omega)) (fun a x y => D a (by omega) (by omega)) (fun j _ => by rw [D 84 (by decide) (by decide)])
        · exact hS.c gq'.2.2.2.2.1.2 (qFo_0 (by decide)) (fun i => R 10 i (by decide) (by decide)) (fun i => R 11 i (by decide) (by decide)) (fun j _ => by rw [D 84 (by decide) (by decide)])
        · intro k a b
          rw [qFo_05] at b
          rw [qFo_12, slU_else (by decide)]
          by_cases y : k = Q'.1 0 5
          · rw [if_pos y, y, slU_same]
          · rw [if_neg y, slU_ne (by omega)]
            exact hF k a (by omega)
        · exact hW.c (qFo_0 (by decide)) rfl (Dk 39 (by decide)) (Dk 22 (by decide)) (D 83 (by decide) (by decide)) (D 85 (by decide) (by decide)) (by omega)
        · by_cases k3 : lxK X p2 = 3
          · rw [if_pos k3] at ef
            rw [if_neg (fun z => z (mSo_2.mpr k3))]
            refine Or.inl ⟨rfl, Or.inr k3, ?_⟩
            rw [qFo_05, show 8 - (Q'.1 0 5 + 1).toNat + 1 = 8 - (Q'.1 0 5).toNat by omega]
            exact ef
          · rw [if_neg k3, rdB_o] at ef
            rw [if_pos (fun z => k3 (mSo_2.mp z))]
            exact Or.inr ⟨rfl, ef.symm⟩
      · rw [if_pos y8] at ef
        have k3 : lxK X p' = 3 := rd.resolve_left (by omega)
        rw [T'.2.2.1, mSo_2.mpr k3]
        refine ⟨by decide, fun z => absurd rfl z, fun _ => ?_⟩
        have B : mBad 2 (lxB X p') (mWr 2 (lxB X p') σ') := mBad.of T' (by decide)
        exact sp_X12_wrong hG (by omega) (by omega) g' T'.2.2.2.1 (slKt.ok (sp_nuf hG (by omega) B (slKt.ok (sp_bb hG B (slKt.ok ⟨in0, fun z => absurd rfl z, fun _ => h0 2 _ (by rw [← ef]; rfl) _ F.w B⟩)))))
    · exact ⟨in0, fun _ => h1 Q' p' ef hp' gq' σ' F I' T' g', fun z => absurd rfl z⟩
def mcO (X : abX) (R : abR abV) (p0 : Int) (σ : slM) (Φ : slPost) : Prop :=
  (∀ k q, R = .inl (k, q) → ∀ τ, mRF σ τ → mBad k q τ → Φ (0, 0) τ) ∧ ∀ Q' p', R = .inr (Q', p') → p0 < p' ∧ p' ≤ X.2 → gdR Q' → ∀ τ, mRF σ τ → isMq Q' p' τ → isTm X p' τ → τ 12 0 21 = 0 → Φ (0, 0) τ
theorem sp_ndf {G : slG} (hG : slGood G) {d : Nat} (hd : 1 ≤ d) {Φ Ψ : slPost} {σ : slM} {k q : Int} (B : mBad k q σ) (h : Φ (0, 0) σ) : slCall G mX12_isSign d 0 [sR 12 0, sI 59] σ (slKt (fun v τ => slCall G mX12_need d 0 [sR 12 0, sI v] τ (slKt (fun _ τ' => Φ (0, 0) τ') Ψ)) Ψ) :=
  sp_sgf hG (by omega) (by decide) B (fun v => slKt.ok (sp_needf hG (by omega) B (slKt.ok h)))
theorem sp_nd {G : slG} (hG : slGood G) {d : Nat} (hd : 10 ≤ d) {Φ Ψ : slPost} {σ0 σ : slM} {X : abX} {Q : abV} {p p0 : Int} (hX : gdX X) (hp : 0 ≤ p ∧ p ≤ X.2) (le : p0 ≤ p) (gq : gdR Q) (f : mRF σ0 σ) (I : isMq Q p σ) (T : isTm X p σ) (g : σ 12 0 21 = 0) (O : mcO X (lnSg X p Q) p0 σ0 Φ) : slCall G mX12_isSign d 0 [sR 12 0, sI 59] σ (slKt (fun v τ => slCall G mX12_need d 0 [sR 12 0, sI v] τ (slKt (fun _ τ' => Φ (0, 0) τ') Ψ)) Ψ) := by
  have e := lxE_p (X := X) hp.2
  refine sp_X12_isSign hG (by omega) (by omega) T (by decide) (slKt.ok ?_)
  by_cases y : lxK X p = 59
  · rw [abIf_t y]
    refine vc_X12_need hG (by omega) (by omega) (sp_good hG g (slKt.ok ⟨in1, fun _ => ⟨in1, fun z => absurd z (by decide), fun _ => ?_⟩, fun z => absurd z (by decide)⟩))
    refine sp_X12_goes hG (by omega) (by omega) hX T.1 ⟨by omega, e.2.1⟩ T.2.1 (fun τ f2 T2 => slKt.ok (slKt.ok (O.2 Q (lxE X p) ?_ ⟨by have := e.2.2 (by omega); omega, e.2.1⟩ gq τ (f.tr (mRF.of f2 (by decide) (by decide))) (I.nx gq f2 (by omega)) T2 ((f2.2 21 (by decide)).trans g))))
    unfold lnSg pSg
    rw [if_pos y]
    rfl
  · rw [abIf_f y]
    refine vc_X12_need hG (by omega) (by omega) (sp_good hG g (slKt.ok ⟨in1, fun _ => ⟨in0, fun _ => ?_, fun z => absurd rfl z⟩, fun z => absurd z (by decide)⟩))
    refine sp_X12_wrong hG (by omega) (by omega) g T.2.2.2.1 (slKt.ok (slKt.ok (O.1 1 (lxB X p) ?_ _ f.w (mBad.of T (by decide)))))
    unfold lnSg pSg
    rw [if_neg y]
    rfl
