/-! ===== rows of letters read by the model ===== -/
set_option maxHeartbeats 4000000 in
set_option maxRecDepth 4000 in
theorem sp_X12_rowNext {G : slG} (hG : slGood G) {d K : Nat} (hd : 10 ≤ d) (hK : 0 ≤ K) {Φ : slPost} {σ : slM} {x1 : Int} {x2 : Int} {rt : Nat} {x4 : Int} (hrt : (slR rt).1 = 1) {X : abX} {p : Int} {f : Int → Int} (hX : gdX X) (hp : 0 ≤ p ∧ p ≤ X.2) (T : isTm X p σ) (g : σ 12 0 21 = 0) (hf : x1 = 0 ∧ f = flF ∨ x1 = 1 ∧ f = stF) (i2 : 0 ≤ x2 ∧ x2 ≤ 12) (hr : rt ≠ 12 ∧ rt ≠ 72) (h4 : 0 ≤ x4 ∧ x4 + x2 ≤ ((slR rt).2.1 : Int)) (h0 : ∀ k q, pWo X f x2 p = .inl (k, q) → 1 ≤ k ∧ k ≤ 5 → mBad k q (mWr k q σ) → Φ (0, 0) (mWr k q σ)) (h1 : ∀ w p', pWo X f x2 p = .inr (w, p') → p < p' ∧ p' ≤ X.2 → ∀ τ, mFr [rt] [25, 26, 27, 28, 29, 30, 31] σ τ → (∀ k : Int, 0 ≤ k → k < w.2 → τ rt 0 (x4 + k).toNat = f (X.1 (w.1 + k).toNat)) → (∀ j : Nat, (j : Int) < x4 → τ rt 0 j = σ rt 0 j) → isTm X p' τ → Φ (0, w.2) τ) :
    slCall G mX12_rowNext d K [sR 12 0, sI x1, sI x2, sR rt 0, sI x4] σ Φ := by
  refine vc_X12_rowNext hG (by omega) hK hrt (fun μ y5 σ' => (σ' = σ ∧ lxK X p = 2 ∧ (0 ≤ y5 ∧ y5 ≤ lxE X p - lxB X p) ∧ (∀ k : Int, 0 ≤ k → k < y5 → f (X.1 (lxB X p + k).toNat) ≠ -1) ∧ μ = (1, (lxE X p - lxB X p - y5).toNat, 0)) ∨ (∃ k, σ' = mWr k (lxB X p) σ ∧ pWo X f x2 p = .inl (k, lxB X p) ∧ (1 ≤ k ∧ k ≤ 5) ∧ (0 ≤ y5 ∧ y5 ≤ 1400) ∧ μ = (0, 0, 0))) (fun μ y5 σ' => pWo X f x2 p = .inr ((lxB X p, lxE X p - lxB X p), lxE X p) ∧ mFr [rt] [] σ σ' ∧ (0 ≤ y5 ∧ y5 ≤ lxE X p - lxB X p) ∧ (∀ k : Int, 0 ≤ k → k < y5 → σ' rt 0 (x4 + k).toNat = f (X.1 (lxB X p + k).toNat)) ∧ (∀ j : Nat, (j : Int) < x4 → σ' rt 0 j = σ rt 0 j) ∧ μ = (0, (lxE X p - lxB X p - y5).toNat, 0)) ?_ ?_ ?_
  · have sr := mSo_r (k := lxK X p)
    have e26 := T.2.2.1
    have ee := lxE_r (X := X) hp.2
    have eb := lxB_r (X := X) hp.2
    refine sp_good hG g (slKt.ok ⟨in1, fun _ => ⟨by rw [e26]; exact ⟨by omega, by omega⟩, fun y => ⟨_, Or.inl ⟨rfl, mSo_1.mp (e26.symm.trans y), ⟨by decide, by omega⟩, fun k a b => by omega, rfl⟩⟩, fun n => ?_⟩, fun z => absurd z (by decide)⟩)
    have n2 : ¬ lxK X p = 2 := fun z => n (by rw [e26]; exact mSo_1.mpr z)
    exact sp_X12_wrong hG (by omega) (by omega) g T.2.2.2.1 (slKt.ok ⟨_, Or.inr ⟨1, rfl, by unfold pWo; rw [if_neg n2], by decide, by decide, rfl⟩⟩)
  · have ee := lxE_r (X := X) hp.2
    have eb := lxB_r (X := X) hp.2
    have hx := hX.1
    rintro μ y5 σ' (⟨rfl, k2, hy, ok, rfl⟩ | ⟨k, rfl, ep, hk, hy, rfl⟩)
    · have e28 := T.2.2.2.2.1
      have e27 := T.2.2.2.1
      rw [e28]
      refine ⟨⟨⟨by omega, by omega⟩, by omega, by omega⟩, fun z => ?_, fun z => ?_⟩
      · have al : pAll X f p := fun k a b => ok k a (by omega)
        refine sp_good hG g (slKt.ok ⟨in1, fun z => absurd z (by decide), fun _ => ?_⟩)
        rw [e28]
        refine ⟨⟨⟨by omega, by omega⟩, by omega, by omega⟩, fun y => sp_good hG g (slKt.ok ⟨in1, fun _ => ⟨(0, (lxE X p - lxB X p - 0).toNat, 0), Or.inl (by show 0 < 1; decide), by unfold pWo; rw [if_pos k2, abIte_t al, if_pos y], mFr.id, ⟨by decide, by omega⟩, fun k a b => by omega, fun _ _ => rfl, rfl⟩, fun z => absurd z (by decide)⟩), fun y => ?_⟩
        have B : mBad 2 (lxB X p) (mWr 2 (lxB X p) σ') := mBad.of T (by decide)
        exact sp_X12_wrong hG (by omega) (by omega) g T.2.2.2.1 (slKt.ok (sp_bb hG B (slKt.ok ⟨in0, fun z => absurd rfl z, fun _ => h0 2 _ (by unfold pWo; rw [if_pos k2, abIte_t al, if_neg y]) (by decide) B⟩)))
      · refine sp_good hG g (slKt.ok ⟨in1, fun z => absurd z (by decide), fun _ => ?_⟩)
        have bt := hX.2 (lxB X p + y5).toNat
        have ib : InR (X.1 (lxB X p + y5).toNat) := ⟨by omega, by omega⟩
        have nx : f (X.1 (lxB X p + y5).toNat) ≠ -1 → ∃ μ, slLt μ (1, (lxE X p - lxB X p - y5).toNat, 0) ∧ ((σ' = σ' ∧ lxK X p = 2 ∧ (0 ≤ y5 + 1 ∧ y5 + 1 ≤ lxE X p - lxB X p) ∧ (∀ k : Int, 0 ≤ k → k < y5 + 1 → f (X.1 (lxB X p + k).toNat) ≠ -1) ∧ μ = (1, (lxE X p - lxB X p - (y5 + 1)).toNat, 0)) ∨ (∃ k, σ' = mWr k (lxB X p) σ' ∧ pWo X f x2 p = .inl (k, lxB X p) ∧ (1 ≤ k ∧ k ≤ 5) ∧ (0 ≤ y5 + 1 ∧ y5 + 1 ≤ 1400) ∧ μ = (0, 0, 0))) := fun nf => ⟨(1, (lxE X p - lxB X p - (y5 + 1)).toNat, 0), Or.inr ⟨rfl, Or.inl (by show (lxE X p - lxB X p - (y5 + 1)).toNat < (lxE X p - lxB X p - y5).toNat; omega)⟩, Or.inl ⟨rfl, k2, ⟨by omega, by omega⟩, fun k a b => by
          by_cases t : k = y5
          · rw [t]; exact nf
          · exact ok k a (by omega), rfl⟩⟩
        have bd : f (X.1 (lxB X p + y5).toNat) = -1 → ∃ μ, slLt μ (1, (lxE X p - lxB X p - y5).toNat, 0) ∧ ((mWr 3 (lxB X p) σ' = σ' ∧ lxK X p = 2 ∧ (0 ≤ y5 + 1 ∧ y5 + 1 ≤ lxE X p - lxB X p) ∧ (∀ k : Int, 0 ≤ k → k < y5 + 1 → f (X.1 (lxB X p + k).toNat) ≠ -1) ∧ μ = (1, (lxE X p - lxB X p - (y5 + 1)).toNat, 0)) ∨ (∃ k, mWr 3 (lxB X p) σ' = mWr k (lxB X p) σ' ∧ pWo X f x2 p = .inl (k, lxB X p) ∧ (1 ≤ k ∧ k ≤ 5) ∧ (0 ≤ y5 + 1 ∧ y5 + 1 ≤ 1400) ∧ μ = (0, 0, 0))) := fun nf => ⟨(0, 0, 0), Or.inl (by show 0 < 1; decide), Or.inr ⟨3, rfl, by
          have na : ¬ pAll X f p := fun u => u y5 hy.1 (by omega) nf
          unfold pWo; rw [if_pos k2, abIte_f na], by decide, ⟨by omega, by omega⟩, rfl⟩⟩
        rw [e27]
        rcases hf with ⟨a, b⟩ | ⟨a, b⟩
        · subst a b
          have fr := @flF_r (X.1 (lxB X p + y5).toNat)
          refine ⟨by decide, fun _ => sp_X12_byteAt hG (by omega) (by omega) hX T.1 ⟨by omega, by omega⟩ (fun _ => slKt.ok (sp_X12_flashOf hG (by omega) (by omega) ib (slKt.ok ⟨?_, fun u => nx u, fun u => sp_X12_wrong hG (by omega) (by omega) g T.2.2.2.1 (slKt.ok (bd u))⟩))) (fun u => by omega), fun u => absurd rfl u⟩
          by_cases u : flF (X.1 (lxB X p + y5).toNat) = -1
          · rw [u]; decide
          · rcases fr u with v | v <;> rw [v] <;> decide
        · subst a b
          have fr := @stF_r (X.1 (lxB X p + y5).toNat)
          refine ⟨by decide, fun u => absurd u (by decide), fun _ => sp_X12_byteAt hG (by omega) (by omega) hX T.1 ⟨by omega, by omega⟩ (fun _ => slKt.ok (sp_X12_stepOf hG (by omega) (by omega) ib (slKt.ok ⟨?_, fun u => nx u, fun u => sp_X12_wrong hG (by omega) (by omega) g T.2.2.2.1 (slKt.ok (bd u))⟩))) (fun u => by omega)⟩
          by_cases u : stF (X.1 (lxB X p + y5).toNat) = -1
          · rw [u]; decide
          · have := fr u
            exact ⟨by omega, by omega⟩
    · have B : mBad k (lxB X p) (mWr k (lxB X p) σ) := mBad.of T hk
      have fin := h0 k _ ep hk B
      rw [mWr.k (by decide) (by decide), T.2.2.2.2.1]
      exact ⟨⟨⟨by omega, by omega⟩, by omega, by omega⟩, fun _ => sp_bb hG B (slKt.ok ⟨in0, fun _ => sp_bb hG B (slKt.ok ⟨in0, fun z => absurd rfl z, fun _ => fin⟩), fun z => absurd rfl z⟩), fun _ => sp_bb hG B (slKt.ok ⟨in0, fun _ => sp_bb hG B (slKt.ok ⟨in0, fun _ => sp_bb hG B (slKt.ok ⟨in0, fun z => absurd rfl z, fun _ => fin⟩), fun z => absurd rfl z⟩), fun z => absurd rfl z⟩)⟩
  · rintro μ y5 σ' ⟨ew, fr, hy, wr, un, rfl⟩
    have w := pWo_o hp.2 ew
    have m2 : lxE X p - lxB X p ≤ x2 := w.2.2.1.2
    have ee := lxE_p (X := X) hp.2
    have eb := lxB_r (X := X) hp.2
    have hx := hX.1
    have T' : isTm X p σ' := T.c (fun k _ _ => fr.2 k (by simp)) (fr.1 72 0 (by decide) (by simp; omega))
    rw [T'.2.2.2.2.1]
    refine ⟨⟨⟨by omega, by omega⟩, by omega, by omega⟩, fun z => ?_, fun z => ?_⟩
    · refine sp_X12_goes hG (by omega) (by omega) hX T'.1 ⟨by omega, ee.2.1⟩ T'.2.1 (fun τ f2 T2 => slKt.ok (h1 _ _ ew ⟨ee.2.2 (by omega), ee.2.1⟩ τ ?_ (fun k a b => ?_) (fun j hj => ?_) T2))
      · exact (fr.mono (by simp) (by simp)).tr (f2.mono (by simp) (by simp))
      · have b : k < lxE X p - lxB X p := b
        rw [f2.1 rt 0 hr.1 (by simp)]; exact wr k a (by omega)
      · rw [f2.1 rt 0 hr.1 (by simp)]; exact un j hj
    · have bt := hX.2 (lxB X p + y5).toNat
      have ib : InR (X.1 (lxB X p + y5).toNat) := ⟨by omega, by omega⟩
      have nx : ((0 ≤ x4 + y5) ∧ (x4 + y5 < ((slR rt).2.1 : Int))) ∧ ∃ μ, slLt μ (0, (lxE X p - lxB X p - y5).toNat, 0) ∧ pWo X f x2 p = .inr ((lxB X p, lxE X p - lxB X p), lxE X p) ∧ mFr [rt] [] σ (slU σ' rt 0 (x4 + y5).toNat (f (X.1 (lxB X p + y5).toNat))) ∧ (0 ≤ y5 + 1 ∧ y5 + 1 ≤ lxE X p - lxB X p) ∧ (∀ k : Int, 0 ≤ k → k < y5 + 1 → slU σ' rt 0 (x4 + y5).toNat (f (X.1 (lxB X p + y5).toNat)) rt 0 (x4 + k).toNat = f (X.1 (lxB X p + k).toNat)) ∧ (∀ j : Nat, (j : Int) < x4 → slU σ' rt 0 (x4 + y5).toNat (f (X.1 (lxB X p + y5).toNat)) rt 0 j = σ rt 0 j) ∧ μ = (0, (lxE X p - lxB X p - (y5 + 1)).toNat, 0) := by
        refine ⟨⟨by omega, by omega⟩, (0, (lxE X p - lxB X p - (y5 + 1)).toNat, 0), Or.inr ⟨rfl, Or.inl (by show (lxE X p - lxB X p - (y5 + 1)).toNat < (lxE X p - lxB X p - y5).toNat; omega)⟩, ew, fr.up (by simp) hr.1, ⟨by omega, by omega⟩, fun k a b => ?_, fun j hj => ?_, rfl⟩
        · by_cases t : k = y5
          · rw [t, slU_same]
          · rw [slU_ne (by omega)]; exact wr k a (by omega)
        · rw [slU_ne (by omega)]; exact un j hj
      rw [T'.2.2.2.1]
      rcases hf with ⟨a, b⟩ | ⟨a, b⟩
      · subst a b
        exact ⟨by decide, fun _ => sp_X12_byteAt hG (by omega) (by omega) hX T'.1 ⟨by omega, by omega⟩ (fun _ => slKt.ok (sp_X12_flashOf hG (by omega) (by omega) ib (slKt.ok nx))) (fun u => by omega), fun u => absurd rfl u⟩
      · subst a b
        exact ⟨by decide, fun u => absurd u (by decide), fun _ => sp_X12_byteAt hG (by omega) (by omega) hX T'.1 ⟨by omega, by omega⟩ (fun _ => slKt.ok (sp_X12_stepOf hG (by omega) (by omega) ib (slKt.ok nx))) (fun u => by omega)⟩
