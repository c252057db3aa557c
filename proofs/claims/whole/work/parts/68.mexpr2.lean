/-! ===== laws read by the model: operands ===== -/
def mPi (X : abX) (a0 e n : Nat) (p : Int) (W T o : List Int) (σ : slM) : Prop := isTm X p σ ∧ mWp W σ ∧ mTp T σ ∧ isCd (σ 85 0) a0 o (σ 12 0 39).toNat ∧ (0 ≤ σ 12 0 39 ∧ σ 12 0 39 + W.length + 1 ≤ 2 * p + e ∧ (W.length : Int) ≤ p + (e % 2 : Nat)) ∧ σ 12 0 21 = 0 ∧ (0 ≤ p ∧ p ≤ X.2) ∧ (1 ≤ T.length ∧ T.length ≤ 6) ∧ T.length + n = W.count 14 + 1
def mFa (e : Nat) (k q : Int) (σ : slM) : Prop := ((1 ≤ k ∧ k ≤ 5) ∧ ∃ X p, isTm X p σ ∧ 0 ≤ q ∧ q ≤ 700) ∧ σ 12 0 21 = k ∧ σ 12 0 22 = q ∧ ∃ W, mWp W σ ∧ 0 ≤ σ 12 0 39 ∧ σ 12 0 39 + W.length ≤ 1405 + e ∧ W.length ≤ 705
theorem mFa.mono {e e' : Nat} {k q : Int} {σ : slM} (h : mFa e k q σ) (le : e ≤ e') : mFa e' k q σ := by
  obtain ⟨a, b, c, W, w, x, y, z⟩ := h
  exact ⟨a, b, c, W, w, x, by omega, z⟩
theorem sp_bd {G : slG} (hG : slGood G) {d K : Nat} {Φ : slPost} {σ : slM} {e : Nat} {k q : Int} (F : mFa e k q σ) (h : Φ (0, 0) σ) : slCall G mX12_isGood d K [sR 12 0] σ Φ :=
  sp_bad hG (by rw [F.2.1]; exact F.1.1) h
theorem sp_puf {G : slG} (hG : slGood G) {d K : Nat} (hd : 1 ≤ d) {Φ : slPost} {σ : slM} {e : Nat} {k q a : Int} (F : mFa e k q σ) (he : e ≤ 100) (h : ∀ τ, mEF σ τ → mFa (e + 1) k q τ → Φ (0, 0) τ) : slCall G mX12_puts d K [sR 12 0, sI a] σ Φ := by
  obtain ⟨⟨i, Xk, pk, tk⟩, b, c, W, w, x, y, z⟩ := F
  refine sp_X12_puts hG (by omega) (by omega) ⟨x, by omega⟩ (fun τ f g1 g2 g3 g4 g5 g6 => h τ f ⟨⟨i, Xk, pk, tk.1.c (fun k a b => g3 k (by omega)) g6, tk.2⟩, ?_, ?_, W, w.c (g3 40 (by decide)) g4, ?_, ?_, z⟩)
  · rw [g3 21 (by decide)]; exact b
  · rw [g3 22 (by decide)]; exact c
  · omega
  · omega
theorem sp_wr {G : slG} (hG : slGood G) {d K : Nat} (hd : 1 ≤ d) {Φ : slPost} {σ : slM} {X : abX} {a0 e n : Nat} {p k : Int} {W T o : List Int} (hX : gdX X) (P : mPi X a0 e n p W T o σ) (he : e ≤ 1) (hk : 1 ≤ k ∧ k ≤ 5) (h : ∀ τ, mEF σ τ → mFa 0 k (lxB X p) τ → Φ (0, 0) τ) : slCall G mX12_wrong d K [sR 12 0, sI k] σ Φ := by
  obtain ⟨T1, hW, hT, hC, b, g, hp, t, c⟩ := P
  have hx := hX.1
  refine sp_X12_wrong hG (by omega) (by omega) g T1.2.2.2.1 (h _ ((mEF.id.up (by decide)).up (by decide)) ⟨⟨hk, X, p, T1.c (fun k h1 h2 => by rw [slU_ne (by omega), slU_ne (by omega)]) (by rw [slU_else (by decide), slU_else (by decide)]), by have := lxB_r (X := X) hp.2; omega, by have := lxB_r (X := X) hp.2; omega⟩, ?_, ?_, W, hW.c ?_ ?_, ?_, ?_, ?_⟩)
  · rw [slU_ne (by decide), slU_same]
  · rw [slU_same]
  · rw [slU_ne (by decide), slU_ne (by decide)]
  · rw [slU_else (by decide), slU_else (by decide)]
  · rw [slU_ne (by decide), slU_ne (by decide)]; exact b.1
  · rw [slU_ne (by decide), slU_ne (by decide)]; omega
  · omega
theorem sp_wt {G : slG} (hG : slGood G) {d K : Nat} (hd : 1 ≤ d) {Φ : slPost} {σ : slM} {X : abX} {a0 n : Nat} {p a : Int} {W T o : List Int} (hX : gdX X) (P : mPi X a0 0 n p W T o σ) (ha : 3 ≤ a ∧ a ≤ 14) (h : ∀ τ, mEF σ τ → mPi X a0 1 (n + if a = 14 then 1 else 0) p (a :: W) T o τ → Φ (0, 0) τ) : slCall G mX12_waitsFor d K [sR 12 0, sI a] σ Φ := by
  obtain ⟨T1, hW, hT, hC, b, g, hp, t, c⟩ := P
  have hx := hX.1
  refine sp_X12_waitsFor hG (by omega) (by omega) hW (by omega) ha (fun τ f w k3 k4 k5 k6 => h τ f ⟨T1.c (fun k a b => k3 k (by omega)) k6, w, hT.c (k3 41 (by decide)) k5 (k3 22 (by decide)), by rw [k4, k3 39 (by decide)]; exact hC, ?_, by rw [k3 21 (by decide)]; exact g, hp, t, ?_⟩)
  · rw [k3 39 (by decide)]
    simp
    omega
  · rw [List.count_cons]
    by_cases z : a = 14
    · subst z
      simp
      omega
    · rw [if_neg z, if_neg (by simpa using z)]
      omega
theorem sp_go {G : slG} (hG : slGood G) {d K : Nat} (hd : 9 ≤ d) {Φ : slPost} {σ : slM} {X : abX} {a0 e n : Nat} {p : Int} {W T o : List Int} (hX : gdX X) (P : mPi X a0 e n p W T o σ) (he : e ≤ 2) (hk : lxK X p ≠ 0) (h : ∀ τ, mEF σ τ → mPi X a0 0 n (lxE X p) W T o τ → p < lxE X p → Φ (0, 0) τ) : slCall G mX12_goes d K [sR 12 0] σ Φ := by
  obtain ⟨T1, hW, hT, hC, b, g, hp, t, c⟩ := P
  have e := lxE_p (X := X) hp.2
  have e2 := e.2.2 hk
  refine sp_X12_goes hG (by omega) (by omega) hX T1.1 ⟨by omega, e.2.1⟩ T1.2.1 (fun τ f T2 => h τ (mEF.nx f) ⟨T2, hW.c (f.2 40 (by decide)) (f.1 86 0 (by decide) (by decide)), hT.c (f.2 41 (by decide)) (f.1 87 0 (by decide) (by decide)) (f.2 22 (by decide)), ?_, ?_, ?_, ⟨by omega, e.2.1⟩, t, c⟩ e2)
  · rw [f.1 85 0 (by decide) (by decide), f.2 39 (by decide)]; exact hC
  · rw [f.2 39 (by decide)]; exact ⟨b.1, by omega, by omega⟩
  · rw [f.2 21 (by decide)]; exact g
theorem sp_dr {G : slG} (hG : slGood G) {d K : Nat} (hd : 5 ≤ d) {Φ : slPost} {σ : slM} {X : abX} {a0 e n : Nat} {p l : Int} {W T o : List Int} (hX : gdX X) (P : mPi X a0 e n p W T o σ) (he : e ≤ 2) (il : InR l) (h : ∀ τ, mEF σ τ → mPi X a0 e n p (exDr l W o).1 T (exDr l W o).2 τ → τ 12 0 39 + (exDr l W o).1.length = σ 12 0 39 + W.length → Φ (0, 0) τ) : slCall G mX12_drops d K [sR 12 0, sI l] σ Φ := by
  obtain ⟨T1, hW, hT, hC, b, g, hp, t, c⟩ := P
  have hx := hX.1
  have cn := exDr_cnt (l := l) W o
  refine sp_X12_drops hG (by omega) (by omega) (a0 := a0) (o := o) hW il ⟨b.1, by omega⟩ (by omega) (fun τ f w k3 k4 => h τ f.1 ⟨T1.c (fun k a b => f.2.1 k (by omega) (by omega)) f.2.2.2, w, hT.c (f.2.1 41 (by decide) (by decide)) f.2.2.1 (f.2.1 22 (by decide) (by decide)), k4 hC, ?_, ?_, hp, t, ?_⟩ k3)
  · have := f.1.2.2
    have c2 := cn.2.2
    exact ⟨by omega, by omega, by omega⟩
  · rw [f.2.1 21 (by decide) (by decide)]; exact g
  · rw [cn.1]; exact c
theorem exA_p {X : abX} {p b c : Int} {W T o : List Int} (hb : ¬ (b ≠ 0 ∧ lxW X p = 13)) (hk : lxK X p ≠ 40) : exA X p W T o b c = if lxK X p = 3 then (if lxN X p = 10000 then exFl 2 (lxB X p) else (1, lxE X p, W, T, o ++ [lxN X p], 0, 0)) else if lxK X p = 2 then (if 0 ≤ lxW X p ∧ lxW X p ≤ 5 then (1, lxE X p, W, T, o ++ [-1 - lxW X p], 0, 0) else exFl 3 (lxB X p)) else exFl 1 (lxB X p) := by
  unfold exA
  rw [if_neg hb, if_neg hk]
theorem mPi.pu2 {X : abX} {a0 : Nat} {p : Int} {W T o : List Int} {σ τ υ : slM} {a v x : Int} (P : mPi X a0 0 0 p W T o σ) (f : mEF σ τ) (g1 : τ 12 0 39 = σ 12 0 39 + 1) (g2 : τ 85 0 (σ 12 0 39).toNat = a) (g3 : ∀ k, k ≠ 39 → τ 12 0 k = σ 12 0 k) (g4 : τ 86 0 = σ 86 0) (g5 : τ 87 0 = σ 87 0) (g6 : τ 72 0 = σ 72 0) (f' : mEF τ υ) (g1' : υ 12 0 39 = τ 12 0 39 + 1) (g2' : υ 85 0 (τ 12 0 39).toNat = v) (g3' : ∀ k, k ≠ 39 → υ 12 0 k = τ 12 0 k) (g4' : υ 86 0 = τ 86 0) (g5' : υ 87 0 = τ 87 0) (g6' : υ 72 0 = τ 72 0) (hx : a = 1 ∧ 0 ≤ v ∧ x = v ∨ a = 2 ∧ (0 ≤ v ∧ v ≤ 5) ∧ x = -1 - v) : mPi X a0 2 0 p W T (o ++ [x]) υ := by
  obtain ⟨T1, hW, hT, hC, b, g, hp, t, c⟩ := P
  refine ⟨T1.c (fun k a b => (g3' k (by omega)).trans (g3 k (by omega))) (g6'.trans g6), hW.c ((g3' 40 (by decide)).trans (g3 40 (by decide))) (g4'.trans g4), hT.c ((g3' 41 (by decide)).trans (g3 41 (by decide))) (g5'.trans g5) ((g3' 22 (by decide)).trans (g3 22 (by decide))), ?_, ?_, ?_, hp, t, c⟩
  · rw [g1', g1, show (σ 12 0 39 + 1 + 1).toNat = (σ 12 0 39).toNat + 2 by omega]
    have e1 : υ 85 0 (σ 12 0 39).toNat = a := by rw [f'.2.1 _ (by rw [g1]; omega)]; exact g2
    have e2 : υ 85 0 ((σ 12 0 39).toNat + 1) = v := by rw [← g2', g1, show (σ 12 0 39 + 1).toNat = (σ 12 0 39).toNat + 1 by omega]
    refine (hC.c (fun j h1 h2 => ?_)).app ?_
    · rw [f'.2.1 j (by rw [g1]; omega), f.2.1 j (by omega)]
    · rcases hx with ⟨z, y, u⟩ | ⟨z, y, u⟩
      · rw [u]; exact isCd_num y (e1.trans z) e2
      · rw [u]; exact isCd_val y (e1.trans z) e2
  · rw [g1', g1]; exact ⟨by omega, by omega, by omega⟩
  · rw [g3' 21 (by decide), g3 21 (by decide)]; exact g
theorem exStep_0 {X : abX} {p b c : Int} {W T o : List Int} : exStep X (0, p, W, T, o, b, c) = exA X p W T o b c := rfl
theorem exStep_1 {X : abX} {p b c : Int} {W T o : List Int} : exStep X (1, p, W, T, o, b, c) = exB X p W T o := rfl
set_option maxHeartbeats 1000000 in
set_option maxRecDepth 4000 in
theorem sp_X12_part {G : slG} (hG : slGood G) {d K : Nat} (hd : 10 ≤ d) (hK : 0 ≤ K) {Φ : slPost} {σ : slM}  {X : abX} {a0 : Nat} {p b c : Int} {W T o : List Int} (hX : gdX X) (P : mPi X a0 0 0 p W T o σ) (hb : ¬ (b ≠ 0 ∧ lxW X p = 13)) (hk : lxK X p ≠ 40) (hf : ∀ τ k q, mEF σ τ → exA X p W T o b c = exFl k q → mFa 5 k q τ → Φ (0, 0) τ) (hg : ∀ τ p' o', mEF σ τ → exA X p W T o b c = (1, p', W, T, o', 0, 0) → mPi X a0 0 0 p' W T o' τ → p < p' → Φ (0, 0) τ) :
    slCall G mX12_part d K [sR 12 0] σ Φ := by
  refine vc_X12_part hG (by omega) hK  ?_
  rw [exA_p hb hk] at hf hg
  have kr := lxK_r (X := X) (p := p)
  have sr := mSo_r (k := lxK X p)
  have P0 := P
  obtain ⟨T1, hW, hT, hC, bd, g, hp, t, cc⟩ := P
  have hx := hX.1
  have e26 := T1.2.2.1
  have wr := lxW_r (X := X) (p := p)
  have er := lxE_r (X := X) hp.2
  have br := lxB_r (X := X) hp.2
  refine sp_good hG g (slKt.ok ⟨in1, fun _ => ⟨by rw [e26]; exact ⟨by omega, by omega⟩, fun n2 => ⟨by rw [e26]; exact ⟨by omega, by omega⟩, fun n1 => ?_, fun y1 => ?_⟩, fun y2 => ?_⟩, fun z => absurd z (by decide)⟩)
  · have h3 : lxK X p ≠ 3 := fun z => n2 (by rw [e26]; exact mSo_2.mpr z)
    have h2 : lxK X p ≠ 2 := fun z => n1 (by rw [e26]; exact mSo_1.mpr z)
    rw [if_neg h3, if_neg h2] at hf
    refine sp_wr hG (by omega) hX P0 (by decide) (by decide) (fun τ f F => slKt.ok (sp_bd hG F (slKt.ok ⟨in0, fun _ => hf τ _ _ f rfl (F.mono (by decide)), fun z => absurd rfl z⟩)))
  · have h2 : lxK X p = 2 := mSo_1.mp (e26.symm.trans y1)
    rw [if_neg (by omega), if_pos h2] at hf hg
    suffices blk : ¬ (0 ≤ lxW X p ∧ lxW X p ≤ 5) → _ from by
      refine sp_X12_knownWord hG (by omega) (by omega) hX hp T1 (slKt.ok ⟨⟨by omega, by omega⟩, fun z => blk (by omega), fun z => ⟨⟨by omega, by omega⟩, fun w => ?_, fun z => blk (by omega)⟩⟩)
      rw [if_pos ⟨by omega, w⟩] at hg
      refine sp_X12_puts hG (by omega) (by omega) ⟨bd.1, by omega⟩ (fun τ f g1 g2 g3 g4 g5 g6 => slKt.ok (sp_X12_puts hG (by omega) (by omega) ⟨by omega, by omega⟩ (fun υ f' g1' g2' g3' g4' g5' g6' => slKt.ok ?_)))
      have P2 := P0.pu2 f g1 g2 g3 g4 g5 g6 f' g1' g2' g3' g4' g5' g6' (Or.inr ⟨rfl, ⟨by omega, w⟩, rfl⟩)
      exact sp_good hG P2.2.2.2.2.2.1 (slKt.ok ⟨in1, fun z => absurd z (by decide), fun _ => sp_go hG (by omega) hX P2 (by decide) (by omega) (fun τ' f'' P3 lt => slKt.ok (hg τ' _ _ ((f.tr f').tr f'') rfl P3 lt))⟩)
    intro nz
    rw [if_neg nz] at hf
    exact sp_wr hG (by omega) hX P0 (by decide) (by decide) (fun τ f F => slKt.ok (sp_puf hG (by omega) F (by decide) (fun τ2 f2 F2 => slKt.ok (sp_puf hG (by omega) F2 (by decide) (fun τ3 f3 F3 => slKt.ok (sp_bd hG F3 (slKt.ok ⟨in0, fun _ => hf τ3 _ _ ((f.tr f2).tr f3) rfl (F3.mono (by decide)), fun z => absurd rfl z⟩)))))))
  · have h3 : lxK X p = 3 := mSo_2.mp (e26.symm.trans y2)
    have nr := lxN_r h3
    rw [if_pos h3] at hf hg
    rw [T1.2.2.2.2.1]
    refine ⟨⟨by omega, by omega⟩, fun z => ?_, fun z => ?_⟩
    · have n4 := nr.2.2.2 z
      rw [if_neg (by omega)] at hg
      have ev : σ 12 0 29 = lxN X p := by
        rw [n4.1, T1.2.2.2.2.2.1 h3, show min (lxE X p - lxB X p).toNat 4 = (lxE X p - lxB X p).toNat by omega]
      refine sp_X12_puts hG (by omega) (by omega) ⟨bd.1, by omega⟩ (fun τ f g1 g2 g3 g4 g5 g6 => slKt.ok ?_)
      rw [g3 29 (by decide), ev]
      refine sp_X12_puts hG (by omega) (by omega) ⟨by omega, by omega⟩ (fun υ f' g1' g2' g3' g4' g5' g6' => slKt.ok ?_)
      have P2 := P0.pu2 f g1 g2 g3 g4 g5 g6 f' g1' g2' g3' g4' g5' g6' (Or.inl ⟨rfl, nr.1, rfl⟩)
      exact sp_good hG P2.2.2.2.2.2.1 (slKt.ok ⟨in1, fun z => absurd z (by decide), fun _ => sp_go hG (by omega) hX P2 (by decide) (by omega) (fun τ' f'' P3 lt => slKt.ok (hg τ' _ _ ((f.tr f').tr f'') rfl P3 lt))⟩)
    · rw [if_pos (nr.2.2.1 (by omega))] at hf
      exact sp_wr hG (by omega) hX P0 (by decide) (by decide) (fun τ f F => slKt.ok (sp_puf hG (by omega) F (by decide) (fun τ2 f2 F2 => slKt.ok (sp_puf hG (by omega) F2 (by decide) (fun τ3 f3 F3 => slKt.ok (sp_bd hG F3 (slKt.ok ⟨in0, fun _ => hf τ3 _ _ ((f.tr f2).tr f3) rfl (F3.mono (by decide)), fun z => absurd rfl z⟩)))))))
theorem sp_partf {G : slG} (hG : slGood G) {d K : Nat} (hd : 1 ≤ d) {Φ : slPost} {σ : slM} {e : Nat} {k q : Int} (F : mFa e k q σ) (h : Φ (0, 0) σ) : slCall G mX12_part d K [sR 12 0] σ Φ :=
  vc_X12_part hG (by omega) (by omega) (sp_bd hG F (slKt.ok ⟨in0, fun z => absurd rfl z, fun _ => h⟩))
theorem mTp.cons {T : List Int} {σ : slM} {t : Int} (h : mTp T σ) (ht : t = 0 ∨ t = 1) : mTp (t :: T) (slU (slU σ 12 0 41 (σ 12 0 41 + 1)) 87 0 (T.length + 1) t) := by
  refine ⟨?_, ⟨?_, h.2.1.c (fun k h1 h2 => ?_)⟩, fun s hs => ?_, by rw [slU_else (by decide), slU_ne (by decide)]; exact h.2.2.2⟩
  · rw [slU_else (by decide), slU_same, h.1]; simp
  · rw [slU_same]
  · rw [slU_ne (by omega), slU_else (by decide)]
  · rcases List.mem_cons.mp hs with z | z
    · rw [z]; exact ht
    · exact h.2.2.1 s z
set_option maxHeartbeats 1000000 in
set_option maxRecDepth 4000 in
theorem sp_X12_deeper {G : slG} (hG : slGood G) {d K : Nat} (hd : 4 ≤ d) (hK : 0 ≤ K) {Φ : slPost} {σ : slM}  {X : abX} {a0 : Nat} {p : Int} {W T o : List Int} (hX : gdX X) (P : mPi X a0 0 1 p W T o σ) (hf : ∀ τ, 6 ≤ T.length → mEF σ τ → mFa 5 (if lxK X p = 3 ∨ lxK X p = 2 ∨ lxK X p = 40 then 2 else 1) (lxB X p) τ → Φ (0, 0) τ) (hg : ∀ τ, T.length < 6 → mEF σ τ → mPi X a0 0 0 p W (0 :: T) o τ → Φ (0, 0) τ) :
    slCall G mX12_deeper d K [sR 12 0] σ Φ := by
  refine vc_X12_deeper hG (by omega) hK  ?_
  have P0 := P
  obtain ⟨T1, hW, hT, hC, bd, g, hp, t, cc⟩ := P
  have sr := mSo_r (k := lxK X p)
  have e26 := T1.2.2.1
  rw [hT.1]
  refine ⟨⟨by omega, by omega⟩, fun z => ?_, fun z => ?_⟩
  · have hf := fun τ => hf τ (by omega)
    refine ⟨by rw [e26]; exact ⟨by omega, by omega⟩, fun y => ?_, fun y => ⟨by rw [e26]; exact ⟨by omega, by omega⟩, fun x => ?_, fun x => ?_⟩⟩
    · have h3 : lxK X p = 3 := mSo_2.mp (e26.symm.trans y)
      rw [if_pos (Or.inl h3)] at hf
      exact sp_wr hG (by omega) hX P0 (by decide) (by decide) (fun τ f F => slKt.ok (hf τ f (F.mono (by decide))))
    · have h2 : lxK X p = 2 := mSo_1.mp (e26.symm.trans x)
      rw [if_pos (Or.inr (Or.inl h2))] at hf
      exact sp_wr hG (by omega) hX P0 (by decide) (by decide) (fun τ f F => slKt.ok (hf τ f (F.mono (by decide))))
    · have h3 : lxK X p ≠ 3 := fun z => y (by rw [e26]; exact mSo_2.mpr z)
      have h2 : lxK X p ≠ 2 := fun z => x (by rw [e26]; exact mSo_1.mpr z)
      refine sp_X12_isSign hG (by omega) (by omega) T1 (by decide) (slKt.ok ?_)
      by_cases h4 : lxK X p = 40
      · rw [if_pos (Or.inr (Or.inr h4))] at hf
        rw [abIf_t h4, if_neg (by decide)]
        exact ⟨in1, sp_wr hG (by omega) hX P0 (by decide) (by decide) (fun τ f F => slKt.ok (hf τ f (F.mono (by decide))))⟩
      · rw [if_neg (by omega)] at hf
        rw [abIf_f h4, if_pos rfl]
        exact ⟨in0, sp_wr hG (by omega) hX P0 (by decide) (by decide) (fun τ f F => slKt.ok (hf τ f (F.mono (by decide))))⟩
  · rw [slU_same]
    have e1 : ((T.length : Int) + 1).toNat = T.length + 1 := by omega
    have hT2 := hT.cons (Or.inl rfl : (0 : Int) = 0 ∨ (0 : Int) = 1)
    rw [hT.1] at hT2
    rw [e1]
    refine ⟨⟨by omega, by omega⟩, hg _ (by omega) ((mEF.id.up (by decide)).up8 (Or.inr rfl)) ⟨?_, ?_, hT2, ?_, ?_, ?_, hp, ?_, ?_⟩⟩
    · exact T1.c (fun k h1 h2 => by rw [slU_else (by decide), slU_ne (by omega)]) (by rw [slU_else (by decide), slU_else (by decide)])
    · exact hW.c (by rw [slU_else (by decide), slU_ne (by decide)]) (by rw [slU_else (by decide), slU_else (by decide)])
    · rw [slU_else (by decide), slU_else (by decide), slU_else (by decide), slU_ne (by decide)]; exact hC
    · rw [slU_else (by decide), slU_ne (by decide)]; exact bd
    · rw [slU_else (by decide), slU_ne (by decide)]; exact g
    · simp; omega
    · simp; omega
