/-! ===== the model's reader ===== -/
def mKF (σ τ : slM) : Prop := mFr mRL (0 :: 20 :: 24 :: mRS) σ τ
def mCL : List Nat := [61, 62, 63, 64, 65, 66, 67, 68, 69, 70, 71, 74, 75, 76, 77, 78, 79, 80, 81, 82, 83, 84, 85, 86, 87, 88]
def mCS : List Nat := [0, 1, 2, 3, 4, 5, 6, 7, 20, 21, 22, 24, 25, 26, 27, 28, 29, 30, 31, 32, 33, 34, 35, 36, 37, 38, 39, 40, 41, 58, 72, 76]
theorem isCd.code {f : Nat → Int} : ∀ {os : List Int} {a b : Nat}, isCd f a os b → f b = 0 → b < 2100 → abCode f a os
  | [], a, b, h, z, l => by
    have h : a = b := h
    rw [h]
    exact ⟨l, z⟩
  | o :: os, a, b, h, z, l => by
    unfold isCd at h
    unfold abCode
    split at h
    · rename_i y
      have := isCd.le h.2.2
      rw [if_pos y]
      exact ⟨by omega, h.1, h.2.1, isCd.code h.2.2 z l⟩
    · rename_i y
      rw [if_neg y]
      split at h
      · rename_i x
        have := isCd.le h.2.2
        rw [if_pos x]
        exact ⟨by omega, h.1, h.2.1, isCd.code h.2.2 z l⟩
      · rename_i x
        have := isCd.le h.2
        rw [if_neg x]
        exact ⟨by omega, h.1, isCd.code h.2 z l⟩
/-- the model's chart and stand as they were read -/
def nIs (Q : abV) (τ : slM) : Prop := (τ 12 0 1 = Q.1 0 0 ∧ τ 12 0 2 = Q.1 0 1 ∧ τ 12 0 3 = Q.1 0 2 ∧ τ 12 0 4 = Q.1 0 3 ∧ τ 12 0 5 = Q.1 0 4 ∧ τ 12 0 6 = Q.1 0 5 ∧ τ 12 0 7 = Q.1 0 6)
  ∧ (∀ i : Int, 0 ≤ i → i < Q.1 0 2 → τ 61 0 i.toNat = Q.1 1 i)
  ∧ (∀ l : Int, 0 ≤ l → l < Q.1 0 3 → (τ 62 0 l.toNat = Q.1 3 l ∧ τ 63 0 l.toNat = Q.1 5 l ∧ τ 64 0 l.toNat = Q.1 6 l ∧ τ 66 0 l.toNat = Q.1 8 l) ∧ (∀ k : Int, 0 ≤ k → k < Q.1 6 l → τ 65 0 (12 * l + k).toNat = Q.1 7 (l * 12 + k)) ∧ (∀ k : Int, 0 ≤ k → k < Q.1 8 l → τ 67 0 (6 * l + k).toNat = Q.1 9 (l * 6 + k)) ∧ τ 88 0 (0 + l).toNat = Q.1 4 l ∧ τ 88 0 (13 + l).toNat = Q.1 2 l)
  ∧ (∀ k : Int, 0 ≤ k → k < Q.1 0 5 → τ 68 0 k.toNat = Q.1 12 k)
  ∧ (∀ c : Int, 0 ≤ c → c < 144 → τ 71 0 c.toNat = Q.1 13 c % 2)
  ∧ (∀ k : Int, 0 ≤ k → k < Q.1 0 6 → 0 ≤ τ 69 0 k.toNat ∧ abCode (τ 70 0) (τ 69 0 k.toNat).toNat (Q.2 k.toNat))
  ∧ (∀ s : Int, 0 ≤ s → s < Q.1 0 4 → τ 88 0 (5 + s).toNat = Q.1 10 s ∧ τ 88 0 (19 + s).toNat = Q.1 11 s)
  ∧ τ 88 0 18 = (if Q.1 0 6 ≤ 0 then -1 else 0)
/-- between two lines -/
def mKI (X : abX) (σ : slM) (μ : slMu) (σ' : slM) : Prop := mKF σ σ' ∧ (σ' 12 0 0 = 0 ∧ σ' 12 0 20 = 0) ∧ ((∃ k q, lnCo X = .inl (k, q) ∧ mBad k q σ' ∧ μ = (1, 0, 0)) ∨ ∃ Q p n, lnAll X n Q p = lnCo X ∧ (X.2 - p).toNat < n ∧ gdR Q ∧ isMq Q p σ' ∧ isTm X p σ' ∧ σ' 12 0 21 = 0 ∧ (0 ≤ p ∧ p ≤ X.2) ∧ μ = (1, (X.2 - p).toNat + 1, 0))
theorem mRF.kf {σ τ υ : slM} (h : mKF σ τ) (f : mRF τ υ) : mKF σ υ := mFr.tr h (mFr.mono f (fun _ z => z) (fun r z => List.mem_cons_of_mem _ (List.mem_cons_of_mem _ (List.mem_cons_of_mem _ z))))
theorem mRF.z {σ τ : slM} (f : mRF σ τ) (h : σ 12 0 0 = 0 ∧ σ 12 0 20 = 0) : τ 12 0 0 = 0 ∧ τ 12 0 20 = 0 := ⟨(f.2 0 (by decide)).trans h.1, (f.2 20 (by decide)).trans h.2⟩
set_option maxHeartbeats 16000000 in
set_option maxRecDepth 4000 in
theorem sp_X12_coast {G : slG} (hG : slGood G) {d K : Nat} (hd : 26 ≤ d) (hK : 0 ≤ K) {Φ : slPost} {σ : slM} {x1 : Int} {X : abX} (hX : gdX X) (e1 : x1 = X.2) (i20 : InR (σ 12 0 20)) (le : X.2 ≤ σ 12 0 20) (ht : ∀ k : Nat, (k : Int) < X.2 → σ 72 0 k = X.1 k) (i73 : 0 ≤ σ 73 0 0 ∧ σ 73 0 0 < 2000000000) (h0 : ∀ k q, lnCo X = .inl (k, q) → 1 ≤ k ∧ k ≤ 5 → 0 ≤ q ∧ q ≤ 700 → ∀ τ, mFr (73 :: mRL) (0 :: 20 :: 24 :: mRS) σ τ → τ 12 0 0 = 0 ∧ τ 12 0 20 = 0 ∧ τ 12 0 22 = q → τ 73 0 0 = σ 73 0 0 + 1 → (∀ j, j ≠ 0 → τ 73 0 j = σ 73 0 j) → Φ (0, k) τ) (h1 : ∀ Q p, lnCo X = .inr (Q, p) → gdR Q → ∀ τ, mFr mCL mCS σ τ → nIs Q τ → τ 12 0 0 = 0 ∧ τ 12 0 20 = 0 ∧ τ 12 0 22 = -1 ∧ τ 12 0 58 = 0 ∧ τ 12 0 72 = 0 ∧ τ 12 0 76 = 0 → Φ (0, 0) τ) :
    slCall G mX12_coast d K [sR 12 0, sI x1] σ Φ := by
  refine vc_X12_coast hG (by omega) hK (fun μ y2 σ' => mFr [74] [0, 20, 22, 21, 24, 25, 32, 33, 34, 35, 36, 37, 38, 39] σ σ' ∧ (σ' 12 0 0 = 0 ∧ σ' 12 0 20 = 0 ∧ σ' 12 0 22 = -1 ∧ σ' 12 0 21 = 0 ∧ σ' 12 0 24 = x1 ∧ σ' 12 0 25 = 0 ∧ σ' 12 0 32 = 8 ∧ σ' 12 0 33 = 8 ∧ σ' 12 0 34 = 0 ∧ σ' 12 0 35 = 0 ∧ σ' 12 0 36 = 0 ∧ σ' 12 0 37 = 0 ∧ σ' 12 0 38 = 0 ∧ σ' 12 0 39 = 0) ∧ (0 ≤ y2 ∧ y2 ≤ 144) ∧ (∀ k : Nat, (k : Int) < y2 → σ' 74 0 k = 0) ∧ μ = (2, (144 - y2).toNat, 0)) (fun μ y2 σ' => mKI X σ μ σ') (fun μ y2 σ' => ∃ Q p, lnCo X = .inr (Q, p) ∧ gdR Q ∧ p ≤ X.2 ∧ isMq Q p σ' ∧ (σ' 12 0 1 = Q.1 0 0 ∧ σ' 12 0 2 = Q.1 0 1 ∧ σ' 12 0 3 = Q.1 0 2 ∧ σ' 12 0 4 = Q.1 0 3 ∧ σ' 12 0 5 = Q.1 0 4 ∧ σ' 12 0 6 = Q.1 0 5 ∧ σ' 12 0 7 = Q.1 0 6) ∧ mFr mCL mCS σ σ' ∧ (σ' 12 0 0 = 0 ∧ σ' 12 0 20 = 0) ∧ (0 ≤ y2 ∧ y2 ≤ 144) ∧ (∀ c : Int, 0 ≤ c → c < y2 → σ' 71 0 c.toNat = Q.1 13 c % 2) ∧ μ = (0, (144 - y2).toNat, 0)) ?_ ?_ ?_ ?_
  · have hx := hX.1
    have z0 : slU σ 12 0 0 0 12 0 0 = 0 := slU_same _ _ _ _ _
    have z20 : slU σ 12 0 0 0 12 0 20 = σ 12 0 20 := slU_ne (by decide)
    refine ⟨⟨by omega, by omega⟩, fun z => by omega, fun z => ⟨⟨⟨by omega, by omega⟩, by rw [z20]; exact i20⟩, ?_⟩⟩
    rw [z20, if_neg (by omega)]
    refine sp_X12_right hG (by omega) (by omega) z0 (by decide) (by decide) (by decide) (fun _ => slKt.ok ⟨in1, fun _ => ⟨_, ?_, ⟨?_, ?_, ?_, ?_, ?_, ?_, ?_, ?_, ?_, ?_, ?_, ?_, ?_, ?_⟩, ⟨by decide, by decide⟩, fun k hk => by omega, rfl⟩, fun z => absurd z (by decide)⟩) (fun z => absurd z (by decide))
    · exact mFr.up12 (mFr.up12 (mFr.up12 (mFr.up12 (mFr.up12 (mFr.up12 (mFr.up12 (mFr.up12 (mFr.up12 (mFr.up12 (mFr.up12 (mFr.up12 (mFr.up12 (mFr.up12 mFr.id (by decide)) (by decide)) (by decide)) (by decide)) (by decide)) (by decide)) (by decide)) (by decide)) (by decide)) (by decide)) (by decide)) (by decide)) (by decide)) (by decide)
    · rw [slU_ne (by decide), slU_ne (by decide), slU_ne (by decide), slU_ne (by decide), slU_ne (by decide), slU_ne (by decide), slU_ne (by decide), slU_ne (by decide), slU_ne (by decide), slU_ne (by decide), slU_ne (by decide), slU_ne (by decide), slU_ne (by decide), slU_same]
    · rw [slU_ne (by decide), slU_ne (by decide), slU_ne (by decide), slU_ne (by decide), slU_ne (by decide), slU_ne (by decide), slU_ne (by decide), slU_ne (by decide), slU_ne (by decide), slU_ne (by decide), slU_ne (by decide), slU_ne (by decide), slU_same]
    · rw [slU_ne (by decide), slU_ne (by decide), slU_ne (by decide), slU_ne (by decide), slU_ne (by decide), slU_ne (by decide), slU_ne (by decide), slU_ne (by decide), slU_ne (by decide), slU_ne (by decide), slU_ne (by decide), slU_same]
    · rw [slU_ne (by decide), slU_ne (by decide), slU_ne (by decide), slU_ne (by decide), slU_ne (by decide), slU_ne (by decide), slU_ne (by decide), slU_ne (by decide), slU_ne (by decide), slU_ne (by decide), slU_same]
    · rw [slU_ne (by decide), slU_ne (by decide), slU_ne (by decide), slU_ne (by decide), slU_ne (by decide), slU_ne (by decide), slU_ne (by decide), slU_ne (by decide), slU_ne (by decide), slU_same]
    · rw [slU_ne (by decide), slU_ne (by decide), slU_ne (by decide), slU_ne (by decide), slU_ne (by decide), slU_ne (by decide), slU_ne (by decide), slU_ne (by decide), slU_same]
    · rw [slU_ne (by decide), slU_ne (by decide), slU_ne (by decide), slU_ne (by decide), slU_ne (by decide), slU_ne (by decide), slU_ne (by decide), slU_same]
    · rw [slU_ne (by decide), slU_ne (by decide), slU_ne (by decide), slU_ne (by decide), slU_ne (by decide), slU_ne (by decide), slU_same]
    · rw [slU_ne (by decide), slU_ne (by decide), slU_ne (by decide), slU_ne (by decide), slU_ne (by decide), slU_same]
    · rw [slU_ne (by decide), slU_ne (by decide), slU_ne (by decide), slU_ne (by decide), slU_same]
    · rw [slU_ne (by decide), slU_ne (by decide), slU_ne (by decide), slU_same]
    · rw [slU_ne (by decide), slU_ne (by decide), slU_same]
    · rw [slU_ne (by decide), slU_same]
    · rw [slU_same]
  · rintro μ y2 σ' ⟨f, v, hy, z, rfl⟩
    have hx := hX.1
    refine ⟨⟨by omega, by omega⟩, fun q => ?_, fun q => ⟨⟨by omega, by omega⟩, (2, (144 - (y2 + 1)).toNat, 0), Or.inr ⟨rfl, Or.inl (by show (144 - (y2 + 1)).toNat < (144 - y2).toNat; omega)⟩, f.up (by decide) (by decide), by rw [slU_else (by decide)]; exact v, ⟨by omega, by omega⟩, fun k hk => ?_, rfl⟩⟩
    · have Tn : isTn X σ' := ⟨by rw [v.2.2.2.2.1]; exact e1, fun k hk => by rw [f.1 72 0 (by decide) (by decide)]; exact ht k hk⟩
      have z0 : ∀ i : Int, i ≠ 0 → i ≠ 1 → q0.1 0 i = 0 := fun i x y => by simp [q0, x, y]
      have zr : ∀ (a : Nat) (i : Int), a ≠ 0 → q0.1 a i = 0 := fun a i x => by simp [q0, x]
      have I0 : isMq q0 0 σ' := by
        refine ⟨⟨?_, ?_, ?_, ?_, ?_, ?_, ?_⟩, fun i x y => ?_, fun c x y => ?_, fun i x y => ?_, fun i x y => ?_, fun i x y => ?_, ⟨⟨?_, ?_, ?_⟩, fun i x y => ?_⟩⟩
        · rw [v.2.2.2.2.2.2.1]; simp [q0]
        · rw [v.2.2.2.2.2.2.2.1]; simp [q0]
        · rw [v.2.2.2.2.2.2.2.2.1]; simp [q0]
        · rw [v.2.2.2.2.2.2.2.2.2.1]; simp [q0]
        · rw [v.2.2.2.2.2.2.2.2.2.2.1]; simp [q0]
        · rw [v.2.2.2.2.2.2.2.2.2.2.2.1]; simp [q0]
        · rw [v.2.2.2.2.2.2.2.2.2.2.2.2.1]; simp [q0]
        · rw [z0 2 (by decide) (by decide)] at y; omega
        · rw [zr 13 c (by decide)]; exact z c.toNat (by omega)
        · rw [z0 3 (by decide) (by decide)] at y; omega
        · rw [z0 4 (by decide) (by decide)] at y; omega
        · rw [z0 5 (by decide) (by decide)] at y; omega
        · rw [v.2.2.2.2.2.2.2.2.2.2.2.2.2]; decide
        · rw [v.2.2.2.2.2.2.2.2.2.2.2.2.2]; decide
        · exact v.2.2.1
        · rw [z0 6 (by decide) (by decide)] at y; omega
      have K0 : mKF σ σ' := mFr.mono f (by decide) (by decide)
      refine sp_X12_goes hG (by omega) (by omega) hX Tn ⟨by decide, hx.1⟩ v.2.2.2.2.2.1 (fun τ1 f1 T1 => slKt.ok ?_)
      have F1 : mRF σ' τ1 := mRF.of f1 (by decide) (by decide)
      have g1 : τ1 12 0 21 = 0 := (f1.2 21 (by decide)).trans v.2.2.2.1
      have zz := F1.z ⟨v.1, v.2.1⟩
      have wr := lxW_r (X := X) (p := 0)
      have I1 := I0.nx gdR_q0 f1 (Int.le_refl 0)
      have lt : ∀ {a : Nat}, slLt (1, a, 0) (2, (144 - y2).toNat, 0) := Or.inl (by show 1 < 2; decide)
      refine sp_X12_knownWord hG (by omega) (by omega) hX ⟨by decide, hx.1⟩ T1 (slKt.ok ⟨⟨by omega, by omega⟩, fun n => ⟨_, lt, F1.kf K0, zz, Or.inr ⟨q0, 0, 701, ?_, by omega, gdR_q0, I1, T1, g1, ⟨by decide, hx.1⟩, rfl⟩⟩, fun y => ?_⟩)
      · unfold lnCo lnSea
        rw [if_neg n]
        rfl
      · have ec : lnCo X = rdB (rdB (pNu X 1 12 (lxE X 0)) fun w p1 => rdB (pNu X 1 12 p1) fun h p2 => lnSg X p2 (qU (qU q0 0 0 w) 0 1 h)) fun Q p => lnAll X 701 Q p := by
          unfold lnCo lnSea
          rw [if_pos y]
        have k2 : lxK X 0 ≠ 0 := fun u => by have := lxW_2 (X := X) (p := 0) (by omega); omega
        have e := lxE_p (X := X) (p := 0) hx.1
        have e0 := e.2.2 k2
        have bad : ∀ {k q : Int} {τ : slM}, mRF τ1 τ → lnCo X = .inl (k, q) → mBad k q τ → ∃ μ, slLt μ (2, (144 - y2).toNat, 0) ∧ mKI X σ μ τ := fun f ee B => ⟨(1, 0, 0), lt, (F1.tr f).kf K0, f.z zz, Or.inl ⟨_, _, ee, B, rfl⟩⟩
        refine sp_X12_goes hG (by omega) (by omega) hX T1.1 ⟨by omega, e.2.1⟩ T1.2.1 (fun τ2 f2 T2 => slKt.ok ?_)
        have F2 : mRF τ1 τ2 := mRF.of f2 (by decide) (by decide)
        have g2 : τ2 12 0 21 = 0 := (f2.2 21 (by decide)).trans g1
        have I2 := I1.nx gdR_q0 f2 (p' := lxE X 0) (by omega)
        refine sp_X12_number hG (by omega) (by omega) hX ⟨by omega, e.2.1⟩ T2 g2 (by decide) (by decide) (by decide) (fun k q ee hk B => slKt.ok ?_) (fun w p1 ew bw hp1 τ3 f3 T3 => slKt.ok ?_)
        · have B2 : mBad k q (slU (mWr k q τ2) 12 0 32 0) := B.c (fun j _ _ => by rw [slU_ne (by omega)]) (by rw [slU_else (by decide)])
          refine sp_nuf hG (by omega) B2 (slKt.ok ?_)
          have B3 : mBad k q (slU (slU (mWr k q τ2) 12 0 32 0) 12 0 33 0) := B2.c (fun j _ _ => by rw [slU_ne (by omega)]) (by rw [slU_else (by decide)])
          exact sp_sgf hG (by omega) (by decide) B3 (fun v => slKt.ok (sp_needf hG (by omega) B3 (slKt.ok (bad ((F2.w.k (by decide)).k (by decide)) (by rw [ec, ee]; rfl) B3))))
        · rw [ew, rdB_o] at ec
          have T3' : isTm X p1 (slU τ3 12 0 32 w) := T3.c (fun k _ _ => by rw [slU_ne (by omega)]) (by rw [slU_else (by decide)])
          have g3 : slU τ3 12 0 32 w 12 0 21 = 0 := by rw [slU_ne (by decide), f3.2 21 (by decide)]; exact g2
          have F3 : mRF τ1 (slU τ3 12 0 32 w) := (F2.tr (mRF.of f3 (by decide) (by decide))).k (by decide)
          refine sp_X12_number hG (by omega) (by omega) hX ⟨by omega, hp1.2⟩ T3' g3 (by decide) (by decide) (by decide) (fun k q ee hk B => slKt.ok ?_) (fun h p2 eh bh hp2 τ4 f4 T4 => slKt.ok ?_)
          · have B3 : mBad k q (slU (mWr k q (slU τ3 12 0 32 w)) 12 0 33 0) := B.c (fun j _ _ => by rw [slU_ne (by omega)]) (by rw [slU_else (by decide)])
            exact sp_sgf hG (by omega) (by decide) B3 (fun v => slKt.ok (sp_needf hG (by omega) B3 (slKt.ok (bad (F3.w.k (by decide)) (by rw [ec, ee]; rfl) B3))))
          · rw [eh, rdB_o] at ec
            have F4 : mRF τ1 (slU τ4 12 0 33 h) := (F3.tr (mRF.of f4 (by decide) (by decide))).k (by decide)
            have T4' : isTm X p2 (slU τ4 12 0 33 h) := T4.c (fun k _ _ => by rw [slU_ne (by omega)]) (by rw [slU_else (by decide)])
            have D : ∀ a, a ≠ 12 → slU τ4 12 0 33 h a 0 = τ2 a 0 := fun a x => by rw [slU_else (by omega), f4.1 a 0 x (by simp), slU_else (by omega), f3.1 a 0 x (by simp)]
            have Dk : ∀ k, k ∉ [25, 26, 27, 28, 29, 30, 31] → k ≠ 32 → k ≠ 33 → slU τ4 12 0 33 h 12 0 k = τ2 12 0 k := fun k x y z => by rw [slU_ne z, f4.2 k x, slU_ne y, f3.2 k x]
            have gs := gdR_q0.sea bw bh (z0 2 (by decide) (by decide)) (z0 3 (by decide) (by decide)) (z0 4 (by decide) (by decide))
            obtain ⟨hH, hC, hM, hL, hS, hF, hW⟩ := I2
            refine sp_nd (Φ := fun _ τ => ∃ μ, slLt μ (2, (144 - y2).toNat, 0) ∧ mKI X σ μ τ) hG (by omega) (p0 := 0) (σ0 := τ1) hX ⟨by omega, hp2.2⟩ (by omega) gs F4 ⟨⟨?_, ?_, ?_, ?_, ?_, ?_, ?_⟩, ?_, ?_, ?_, ?_, ?_, ?_⟩ T4' ((Dk 21 (by decide) (by decide) (by decide)).trans g2) ⟨fun k q ee τ f B => bad f (by rw [ec, ee]; rfl) B, fun Q' p' ee hp' g' τ f I' T' t21 => ⟨(1, (X.2 - p').toNat + 1, 0), lt, (F1.tr f).kf K0, f.z zz, Or.inr ⟨Q', p', 701, by rw [ec, ee]; rfl, by omega, g', I', T', t21, ⟨by omega, hp'.2⟩, rfl⟩⟩⟩
            · rw [slU_ne (by decide), f4.2 32 (by decide), slU_same, qU_i (by decide), qU_y]
            · rw [slU_same, qU_y]
            · rw [Dk 34 (by decide) (by decide) (by decide), qU_i (by decide), qU_i (by decide)]; exact hH.2.2.1
            · rw [Dk 35 (by decide) (by decide) (by decide), qU_i (by decide), qU_i (by decide)]; exact hH.2.2.2.1
            · rw [Dk 36 (by decide) (by decide) (by decide), qU_i (by decide), qU_i (by decide)]; exact hH.2.2.2.2.1
            · rw [Dk 37 (by decide) (by decide) (by decide), qU_i (by decide), qU_i (by decide)]; exact hH.2.2.2.2.2.1
            · rw [Dk 38 (by decide) (by decide) (by decide), qU_i (by decide), qU_i (by decide)]; exact hH.2.2.2.2.2.2
            · exact hC.c (by rw [qU_i (by decide), qU_i (by decide)]) (fun i => by rw [qU_r (by decide), qU_r (by decide)]) (D 75 (by decide))
            · exact hM.c (fun i => by rw [qU_r (by decide), qU_r (by decide)]) (D 74 (by decide))
            · exact hL.c gdR_q0.2.2.2.1.2 (by rw [qU_i (by decide), qU_i (by decide)]) (fun a i x y => by rw [qU_r (by omega), qU_r (by omega)]) (fun a x y => D a (by omega)) (fun j _ => by rw [D 84 (by decide)])
            · exact hS.c gdR_q0.2.2.2.2.1.2 (by rw [qU_i (by decide), qU_i (by decide)]) (fun i => by rw [qU_r (by decide), qU_r (by decide)]) (fun i => by rw [qU_r (by decide), qU_r (by decide)]) (fun j _ => by rw [D 84 (by decide)])
            · exact hF.c (by rw [qU_i (by decide), qU_i (by decide)]) (fun i => by rw [qU_r (by decide), qU_r (by decide)]) (D 82 (by decide))
            · exact hW.c (by rw [qU_i (by decide), qU_i (by decide)]) rfl (Dk 39 (by decide) (by decide) (by decide)) (Dk 22 (by decide) (by decide) (by decide)) (D 83 (by decide)) (D 85 (by decide)) (by omega)
    · by_cases y : k = y2.toNat
      · rw [y, slU_same]
      · rw [slU_ne y]; exact z k (by omega)
  · rintro μ y2 σ' ⟨K, zz, ⟨k, q, ec, B, rfl⟩ | ⟨Q, p, n, en, ln, gq, I, T, g, hp, rfl⟩⟩
    · refine sp_bb hG B (slKt.ok ⟨in0, fun _ => sp_bb hG B (slKt.ok ⟨in0, fun z => absurd rfl z, fun _ => ?_⟩), fun z => absurd rfl z⟩)
      have e73 : σ' 73 0 = σ 73 0 := K.1 73 0 (by decide) (by decide)
      rw [slU_else (by decide), B.2.1, e73]
      refine h0 k q ec B.1.1 (by obtain ⟨-, -, -, -, bq⟩ := B.1; exact bq) _ (mFr.up (K.mono (by decide) (fun r h => h)) (by decide) (by decide)) ⟨?_, ?_, ?_⟩ ?_ (fun j hj => ?_)
      · rw [slU_else (by decide)]; exact zz.1
      · rw [slU_else (by decide)]; exact zz.2
      · rw [slU_else (by decide)]; exact B.2.2
      · rw [slU_same]
      · rw [slU_ne hj, e73]
    · have hx := hX.1
      obtain ⟨m, rfl⟩ : ∃ m, n = m + 1 := ⟨n - 1, by omega⟩
      have en : (if lxK X p = 0 then .inr (Q, p) else rdB (lnLine X Q p) fun Q1 p1 => lnAll X m Q1 p1) = lnCo X := en
      have sr := mSo_r (k := lxK X p)
      refine sp_good hG g (slKt.ok ⟨in1, fun z => absurd z (by decide), fun _ => ?_⟩)
      rw [T.2.2.1]
      refine ⟨⟨by omega, by omega⟩, fun z => ?_, fun z => ?_⟩
      · rw [if_pos (mSo_0.mp z)] at en
        refine sp_good hG g (slKt.ok ⟨in1, fun _ => ?_, fun z => absurd z (by decide)⟩)
        simp only [slU_ne (show (33 : Nat) ≠ 1 by decide), slU_ne (show (34 : Nat) ≠ 1 by decide), slU_ne (show (34 : Nat) ≠ 2 by decide), slU_ne (show (35 : Nat) ≠ 1 by decide), slU_ne (show (35 : Nat) ≠ 2 by decide), slU_ne (show (35 : Nat) ≠ 3 by decide), slU_ne (show (36 : Nat) ≠ 1 by decide), slU_ne (show (36 : Nat) ≠ 2 by decide), slU_ne (show (36 : Nat) ≠ 3 by decide), slU_ne (show (36 : Nat) ≠ 4 by decide), slU_ne (show (37 : Nat) ≠ 1 by decide), slU_ne (show (37 : Nat) ≠ 2 by decide), slU_ne (show (37 : Nat) ≠ 3 by decide), slU_ne (show (37 : Nat) ≠ 4 by decide), slU_ne (show (37 : Nat) ≠ 5 by decide), slU_ne (show (38 : Nat) ≠ 1 by decide), slU_ne (show (38 : Nat) ≠ 2 by decide), slU_ne (show (38 : Nat) ≠ 3 by decide), slU_ne (show (38 : Nat) ≠ 4 by decide), slU_ne (show (38 : Nat) ≠ 5 by decide), slU_ne (show (38 : Nat) ≠ 6 by decide)]
        obtain ⟨hH, hC, hM, hL, hS, hF, hW⟩ := I
        rw [hH.1, hH.2.1, hH.2.2.1, hH.2.2.2.1, hH.2.2.2.2.1, hH.2.2.2.2.2.1, hH.2.2.2.2.2.2]
        have D : ∀ a, a ≠ 12 → slU (slU (slU (slU (slU (slU (slU σ' 12 0 1 (Q.1 0 0)) 12 0 2 (Q.1 0 1)) 12 0 3 (Q.1 0 2)) 12 0 4 (Q.1 0 3)) 12 0 5 (Q.1 0 4)) 12 0 6 (Q.1 0 5)) 12 0 7 (Q.1 0 6) a 0 = σ' a 0 := fun a x => by
          rw [slU_else (by omega), slU_else (by omega), slU_else (by omega), slU_else (by omega), slU_else (by omega), slU_else (by omega), slU_else (by omega)]
        have Dk : ∀ k, k = 0 ∨ 7 < k → slU (slU (slU (slU (slU (slU (slU σ' 12 0 1 (Q.1 0 0)) 12 0 2 (Q.1 0 1)) 12 0 3 (Q.1 0 2)) 12 0 4 (Q.1 0 3)) 12 0 5 (Q.1 0 4)) 12 0 6 (Q.1 0 5)) 12 0 7 (Q.1 0 6) 12 0 k = σ' 12 0 k := fun k x => by
          rw [slU_ne (by omega), slU_ne (by omega), slU_ne (by omega), slU_ne (by omega), slU_ne (by omega), slU_ne (by omega), slU_ne (by omega)]
        refine ⟨(0, ((144 : Int) - 0).toNat, 0), Or.inl (by show 0 < 1; decide), Q, p, en.symm, gq, hp.2, ⟨?_, hC.c rfl (fun _ => rfl) (D 75 (by decide)), hM.c (fun _ => rfl) (D 74 (by decide)), hL.c gq.2.2.2.1.2 rfl (fun _ _ _ _ => rfl) (fun a x y => D a (by omega)) (fun j _ => by rw [D 84 (by decide)]), hS.c gq.2.2.2.2.1.2 rfl (fun _ => rfl) (fun _ => rfl) (fun j _ => by rw [D 84 (by decide)]), hF.c rfl (fun _ => rfl) (D 82 (by decide)), hW.c rfl rfl (Dk 39 (by decide)) (Dk 22 (by decide)) (D 83 (by decide)) (D 85 (by decide)) (Int.le_refl _)⟩, ⟨?_, ?_, ?_, ?_, ?_, ?_, ?_⟩, ?_, ⟨(Dk 0 (by decide)).trans zz.1, (Dk 20 (by decide)).trans zz.2⟩, ⟨by decide, by decide⟩, fun c a b => by omega, rfl⟩
        · unfold nHd
          rw [Dk 32 (by decide), Dk 33 (by decide), Dk 34 (by decide), Dk 35 (by decide), Dk 36 (by decide), Dk 37 (by decide), Dk 38 (by decide)]
          exact hH
        · rw [slU_ne (by decide), slU_ne (by decide), slU_ne (by decide), slU_ne (by decide), slU_ne (by decide), slU_ne (by decide), slU_same]
        · rw [slU_ne (by decide), slU_ne (by decide), slU_ne (by decide), slU_ne (by decide), slU_ne (by decide), slU_same]
        · rw [slU_ne (by decide), slU_ne (by decide), slU_ne (by decide), slU_ne (by decide), slU_same]
        · rw [slU_ne (by decide), slU_ne (by decide), slU_ne (by decide), slU_same]
        · rw [slU_ne (by decide), slU_ne (by decide), slU_same]
        · rw [slU_ne (by decide), slU_same]
        · rw [slU_same]
        · exact mFr.up12 (mFr.up12 (mFr.up12 (mFr.up12 (mFr.up12 (mFr.up12 (mFr.up12 (mFr.mono K (by decide) (by decide)) (by decide)) (by decide)) (by decide)) (by decide)) (by decide)) (by decide)) (by decide)
      · have k0 : lxK X p ≠ 0 := fun u => z (mSo_0.mpr u)
        rw [if_neg k0] at en
        refine sp_X12_line hG (by omega) (by omega) hX hp k0 gq I T g ⟨fun k q ee τ f B => slKt.ok ⟨(1, 0, 0), Or.inr ⟨rfl, Or.inl (by show 0 < (X.2 - p).toNat + 1; omega)⟩, f.kf K, f.z zz, Or.inl ⟨k, q, by rw [← en, ee]; rfl, B, rfl⟩⟩, fun Q' p' ee hp' g' τ f I' T' t21 => slKt.ok ⟨(1, (X.2 - p').toNat + 1, 0), Or.inr ⟨rfl, Or.inl (by show (X.2 - p').toNat + 1 < (X.2 - p).toNat + 1; omega)⟩, f.kf K, f.z zz, Or.inr ⟨Q', p', m, by rw [← en, ee]; rfl, by omega, g', I', T', t21, ⟨by omega, hp'.2⟩, rfl⟩⟩⟩
  · rintro μ y2 σ' ⟨Q, p, ec, gq, hp, I, C, F, zz, hy, c71, rfl⟩
    refine ⟨⟨by omega, by omega⟩, fun q => ?_, fun q => ⟨⟨by omega, by omega⟩, inAnd, ⟨by omega, by omega, ?_⟩, (0, (144 - (y2 + 1)).toNat, 0), Or.inr ⟨rfl, Or.inl (by show (144 - (y2 + 1)).toNat < (144 - y2).toNat; omega)⟩, Q, p, ec, gq, hp, ?_, ?_, ?_, ?_, ⟨by omega, by omega⟩, fun c a b => ?_, rfl⟩⟩
    · refine sp_X12_copies hG (by omega) (by omega) rfl rfl (by decide) (by decide) (by decide) (fun τ1 f1 c1 => slKt.ok ?_)
      refine sp_X12_copies hG (by omega) (by omega) rfl rfl (by decide) (by decide) (by decide) (fun τ2 f2 c2 => slKt.ok ?_)
      refine sp_X12_copies hG (by omega) (by omega) rfl rfl (by decide) (by decide) (by decide) (fun τ3 f3 c3 => slKt.ok ?_)
      refine sp_X12_copies hG (by omega) (by omega) rfl rfl (by decide) (by decide) (by decide) (fun τ4 f4 c4 => slKt.ok ?_)
      refine sp_X12_copies hG (by omega) (by omega) rfl rfl (by decide) (by decide) (by decide) (fun τ5 f5 c5 => slKt.ok ?_)
      refine sp_X12_copies hG (by omega) (by omega) rfl rfl (by decide) (by decide) (by decide) (fun τ6 f6 c6 => slKt.ok ?_)
      refine sp_X12_copies hG (by omega) (by omega) rfl rfl (by decide) (by decide) (by decide) (fun τ7 f7 c7 => slKt.ok ?_)
      refine sp_X12_copies hG (by omega) (by omega) rfl rfl (by decide) (by decide) (by decide) (fun τ8 f8 c8 => slKt.ok ?_)
      refine sp_X12_copies hG (by omega) (by omega) rfl rfl (by decide) (by decide) (by decide) (fun τ9 f9 c9 => slKt.ok ?_)
      refine sp_X12_copies hG (by omega) (by omega) rfl rfl (by decide) (by decide) (by decide) (fun τ10 f10 c10 => slKt.ok ?_)
      refine sp_X12_copies hG (by omega) (by omega) rfl rfl (by decide) (by decide) (by decide) (fun τ11 f11 c11 => slKt.ok ?_)
      have hH := I.1
      have G : ∀ a, a ≠ 61 → a ≠ 62 → a ≠ 63 → a ≠ 64 → a ≠ 65 → a ≠ 66 → a ≠ 67 → a ≠ 68 → a ≠ 69 → a ≠ 70 → a ≠ 88 → τ11 a 0 = σ' a 0 := fun a x1 x2 x3 x4 x5 x6 x7 x8 x9 x10 x11 => by rw [f11 a 0 (by simp; omega), f10 a 0 (by simp; omega), f9 a 0 (by simp; omega), f8 a 0 (by simp; omega), f7 a 0 (by simp; omega), f6 a 0 (by simp; omega), f5 a 0 (by simp; omega), f4 a 0 (by simp; omega), f3 a 0 (by simp; omega), f2 a 0 (by simp; omega), f1 a 0 (by simp; omega)]
      have v61 : ∀ k, k < 12 → τ11 61 0 k = σ' 75 0 k := fun k hk => by rw [f11 61 0 (by decide), f10 61 0 (by decide), f9 61 0 (by decide), f8 61 0 (by decide), f7 61 0 (by decide), f6 61 0 (by decide), f5 61 0 (by decide), f4 61 0 (by decide), f3 61 0 (by decide), f2 61 0 (by decide), c1 k hk]
      have v62 : ∀ k, k < 5 → τ11 62 0 k = σ' 76 0 k := fun k hk => by rw [f11 62 0 (by decide), f10 62 0 (by decide), f9 62 0 (by decide), f8 62 0 (by decide), f7 62 0 (by decide), f6 62 0 (by decide), f5 62 0 (by decide), f4 62 0 (by decide), f3 62 0 (by decide), c2 k hk, f1 76 0 (by decide)]
      have v63 : ∀ k, k < 5 → τ11 63 0 k = σ' 77 0 k := fun k hk => by rw [f11 63 0 (by decide), f10 63 0 (by decide), f9 63 0 (by decide), f8 63 0 (by decide), f7 63 0 (by decide), f6 63 0 (by decide), f5 63 0 (by decide), f4 63 0 (by decide), c3 k hk, f2 77 0 (by decide), f1 77 0 (by decide)]
      have v64 : ∀ k, k < 5 → τ11 64 0 k = σ' 78 0 k := fun k hk => by rw [f11 64 0 (by decide), f10 64 0 (by decide), f9 64 0 (by decide), f8 64 0 (by decide), f7 64 0 (by decide), f6 64 0 (by decide), f5 64 0 (by decide), c4 k hk, f3 78 0 (by decide), f2 78 0 (by decide), f1 78 0 (by decide)]
      have v65 : ∀ k, k < 60 → τ11 65 0 k = σ' 79 0 k := fun k hk => by rw [f11 65 0 (by decide), f10 65 0 (by decide), f9 65 0 (by decide), f8 65 0 (by decide), f7 65 0 (by decide), f6 65 0 (by decide), c5 k hk, f4 79 0 (by decide), f3 79 0 (by decide), f2 79 0 (by decide), f1 79 0 (by decide)]
      have v66 : ∀ k, k < 5 → τ11 66 0 k = σ' 80 0 k := fun k hk => by rw [f11 66 0 (by decide), f10 66 0 (by decide), f9 66 0 (by decide), f8 66 0 (by decide), f7 66 0 (by decide), c6 k hk, f5 80 0 (by decide), f4 80 0 (by decide), f3 80 0 (by decide), f2 80 0 (by decide), f1 80 0 (by decide)]
      have v67 : ∀ k, k < 30 → τ11 67 0 k = σ' 81 0 k := fun k hk => by rw [f11 67 0 (by decide), f10 67 0 (by decide), f9 67 0 (by decide), f8 67 0 (by decide), c7 k hk, f6 81 0 (by decide), f5 81 0 (by decide), f4 81 0 (by decide), f3 81 0 (by decide), f2 81 0 (by decide), f1 81 0 (by decide)]
      have v68 : ∀ k, k < 8 → τ11 68 0 k = σ' 82 0 k := fun k hk => by rw [f11 68 0 (by decide), f10 68 0 (by decide), f9 68 0 (by decide), c8 k hk, f7 82 0 (by decide), f6 82 0 (by decide), f5 82 0 (by decide), f4 82 0 (by decide), f3 82 0 (by decide), f2 82 0 (by decide), f1 82 0 (by decide)]
      have v69 : ∀ k, k < 3 → τ11 69 0 k = σ' 83 0 k := fun k hk => by rw [f11 69 0 (by decide), f10 69 0 (by decide), c9 k hk, f8 83 0 (by decide), f7 83 0 (by decide), f6 83 0 (by decide), f5 83 0 (by decide), f4 83 0 (by decide), f3 83 0 (by decide), f2 83 0 (by decide), f1 83 0 (by decide)]
      have v70 : ∀ k, k < 2100 → τ11 70 0 k = σ' 85 0 k := fun k hk => by rw [f11 70 0 (by decide), c10 k hk, f9 85 0 (by decide), f8 85 0 (by decide), f7 85 0 (by decide), f6 85 0 (by decide), f5 85 0 (by decide), f4 85 0 (by decide), f3 85 0 (by decide), f2 85 0 (by decide), f1 85 0 (by decide)]
      have v88 : ∀ k, k < 27 → τ11 88 0 k = σ' 84 0 k := fun k hk => by rw [c11 k hk, f10 84 0 (by decide), f9 84 0 (by decide), f8 84 0 (by decide), f7 84 0 (by decide), f6 84 0 (by decide), f5 84 0 (by decide), f4 84 0 (by decide), f3 84 0 (by decide), f2 84 0 (by decide), f1 84 0 (by decide)]
      have g3 := gq.2.2.2.1
      have g2 := gq.2.2.1
      have g4 := gq.2.2.2.2.1
      have g5 := gq.2.2.2.2.2.1
      have g6 := gq.2.2.2.2.2.2.1
      have hx := hX.1
      have G12 := G 12 (by decide) (by decide) (by decide) (by decide) (by decide) (by decide) (by decide) (by decide) (by decide) (by decide) (by decide)
      rw [G12, C.2.2.2.2.2.2]
      refine ⟨⟨by omega, by omega⟩, ?_⟩
      have D : ∀ a, a ≠ 12 → a ≠ 88 → slU (slU (slU (slU τ11 88 0 18 (if Q.1 0 6 ≤ 0 then ((-1) : Int) else 0)) 12 0 58 0) 12 0 72 0) 12 0 76 0 a 0 = τ11 a 0 := fun a x y => by rw [slU_else (by omega), slU_else (by omega), slU_else (by omega), slU_else (by omega)]
      have Dk : ∀ k, k ≠ 58 → k ≠ 72 → k ≠ 76 → slU (slU (slU (slU τ11 88 0 18 (if Q.1 0 6 ≤ 0 then ((-1) : Int) else 0)) 12 0 58 0) 12 0 72 0) 12 0 76 0 12 0 k = σ' 12 0 k := fun k x y z => by rw [slU_ne z, slU_ne y, slU_ne x, slU_else (by decide), G12]
      have D88 : ∀ k, slU (slU (slU (slU τ11 88 0 18 (if Q.1 0 6 ≤ 0 then ((-1) : Int) else 0)) 12 0 58 0) 12 0 72 0) 12 0 76 0 88 0 k = if k = 18 then (if Q.1 0 6 ≤ 0 then ((-1) : Int) else 0) else τ11 88 0 k := fun k => by rw [slU_else (by decide), slU_else (by decide), slU_else (by decide), slU_fn]
      obtain ⟨-, hC, hM, hL, hS, hF, hW⟩ := I
      have FF : mFr mCL mCS σ τ11 := by
        refine ⟨fun r i a b => ?_, fun k hk => ?_⟩
        · have nb : ∀ m, m ∈ mCL → r ≠ m := fun m hm z => b (by rw [z]; exact hm)
          rw [f11 r i (by simp; intro z; exact absurd z (nb 88 (by decide))), f10 r i (by simp; intro z; exact absurd z (nb 70 (by decide))), f9 r i (by simp; intro z; exact absurd z (nb 69 (by decide))), f8 r i (by simp; intro z; exact absurd z (nb 68 (by decide))), f7 r i (by simp; intro z; exact absurd z (nb 67 (by decide))), f6 r i (by simp; intro z; exact absurd z (nb 66 (by decide))), f5 r i (by simp; intro z; exact absurd z (nb 65 (by decide))), f4 r i (by simp; intro z; exact absurd z (nb 64 (by decide))), f3 r i (by simp; intro z; exact absurd z (nb 63 (by decide))), f2 r i (by simp; intro z; exact absurd z (nb 62 (by decide))), f1 r i (by simp; intro z; exact absurd z (nb 61 (by decide)))]
          exact F.1 r i a b
        · rw [G12]; exact F.2 k hk
      refine h1 Q p ec gq _ (mFr.up12 (mFr.up12 (mFr.up12 (mFr.up FF (by decide) (by decide)) (by decide)) (by decide)) (by decide)) ⟨⟨?_, ?_, ?_, ?_, ?_, ?_, ?_⟩, fun i a b => ?_, fun l a b => ?_, fun k a b => ?_, fun c a b => ?_, fun k a b => ?_, fun s a b => ?_, ?_⟩ ⟨?_, ?_, ?_, ?_, ?_, ?_⟩
      · rw [Dk 1 (by decide) (by decide) (by decide)]; exact C.1
      · rw [Dk 2 (by decide) (by decide) (by decide)]; exact C.2.1
      · rw [Dk 3 (by decide) (by decide) (by decide)]; exact C.2.2.1
      · rw [Dk 4 (by decide) (by decide) (by decide)]; exact C.2.2.2.1
      · rw [Dk 5 (by decide) (by decide) (by decide)]; exact C.2.2.2.2.1
      · rw [Dk 6 (by decide) (by decide) (by decide)]; exact C.2.2.2.2.2.1
      · rw [Dk 7 (by decide) (by decide) (by decide)]; exact C.2.2.2.2.2.2
      · rw [D 61 (by decide) (by decide), v61 _ (by omega)]; exact hC i a b
      · have h := hL l a b
        have gl := gq.2.2.2.2.2.2.2.2.2.1 l a b
        rw [D 62 (by decide) (by decide), D 63 (by decide) (by decide), D 64 (by decide) (by decide), D 65 (by decide) (by decide), D 66 (by decide) (by decide), D 67 (by decide) (by decide), D88, D88, if_neg (by omega), if_neg (by omega), v62 _ (by omega), v63 _ (by omega), v64 _ (by omega), v66 _ (by omega), v88 _ (by omega), v88 _ (by omega)]
        exact ⟨⟨h.1.2.1, h.1.2.2.2.1, h.1.2.2.2.2.1, h.1.2.2.2.2.2⟩, fun k a b => by rw [v65 _ (by omega)]; exact h.2.1 k a b, fun k a b => by rw [v67 _ (by omega)]; exact h.2.2 k a b, h.1.2.2.1, h.1.1⟩
      · rw [D 68 (by decide) (by decide), v68 _ (by omega)]; exact hF k a b
      · rw [D 71 (by decide) (by decide), G 71 (by decide) (by decide) (by decide) (by decide) (by decide) (by decide) (by decide) (by decide) (by decide) (by decide) (by decide)]; exact c71 c a (by omega)
      · obtain ⟨h1, bb, h2, h3, h4⟩ := hW.2 k a b
        have b39 := hW.1
        rw [D 69 (by decide) (by decide), D 70 (by decide) (by decide), v69 _ (by omega)]
        exact ⟨h1, (h2.c (fun j x y => v70 j (by omega))).code (by rw [v70 bb (by omega)]; exact h3) (by omega)⟩
      · have h := hS s a b
        rw [D88, D88, if_neg (by omega), if_neg (by omega), v88 _ (by omega), v88 _ (by omega)]
        exact h
      · rw [D88, if_pos rfl]
      · rw [Dk 0 (by decide) (by decide) (by decide)]; exact zz.1
      · rw [Dk 20 (by decide) (by decide) (by decide)]; exact zz.2
      · rw [Dk 22 (by decide) (by decide) (by decide)]; exact hW.1.2.2
      · rw [slU_ne (by decide), slU_ne (by decide), slU_same]
      · rw [slU_ne (by decide), slU_same]
      · rw [slU_same]
    · by_cases y : sAnd (σ' 74 0 y2.toNat) 1 = 1
      · rw [if_neg (fun z => z y)]; exact Or.inr rfl
      · rw [if_pos y]; exact Or.inl rfl
    · obtain ⟨hH, hC, hM, hL, hS, hF, hW⟩ := I
      have D : ∀ a, a ≠ 71 → slU σ' 71 0 y2.toNat (if ¬ (sAnd (σ' 74 0 y2.toNat) 1) = 1 then (0 : Int) else 1) a 0 = σ' a 0 := fun a x => slU_else (by omega)
      refine ⟨?_, hC.c rfl (fun _ => rfl) (D 75 (by decide)), hM.c (fun _ => rfl) (D 74 (by decide)), hL.c gq.2.2.2.1.2 rfl (fun _ _ _ _ => rfl) (fun a x y => D a (by omega)) (fun j _ => by rw [D 84 (by decide)]), hS.c gq.2.2.2.2.1.2 rfl (fun _ => rfl) (fun _ => rfl) (fun j _ => by rw [D 84 (by decide)]), hF.c rfl (fun _ => rfl) (D 82 (by decide)), hW.c rfl rfl (by rw [D 12 (by decide)]) (by rw [D 12 (by decide)]) (D 83 (by decide)) (D 85 (by decide)) (Int.le_refl _)⟩
      unfold nHd
      rw [D 12 (by decide)]
      exact hH
    · rw [slU_else (by decide)]; exact C
    · exact mFr.up F (by decide) (by decide)
    · rw [slU_else (by decide)]; exact zz
    · by_cases y : c = y2
      · have m := gq.2.2.2.2.2.2.2.1 y2
        rw [y, slU_same, I.2.2.1 y2 hy.1 (by omega), (mk_and (bar := 0) m.1).2.2.2]
        by_cases x : Q.1 13 y2 % 2 = 1
        · rw [if_neg (fun z => z x), x]
        · rw [if_pos x]; omega
      · rw [slU_ne (by omega)]; exact c71 c a (by omega)
