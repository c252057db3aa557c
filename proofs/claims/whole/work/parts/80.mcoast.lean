/-! ===== a coast read by the model ===== -/
def mWr (k q : Int) (σ : slM) : slM := slU (slU σ 12 0 21 k) 12 0 22 q
theorem mWr.k {k q : Int} {σ : slM} {j : Nat} (h1 : j ≠ 21) (h2 : j ≠ 22) : mWr k q σ 12 0 j = σ 12 0 j := by unfold mWr; rw [slU_ne h2, slU_ne h1]
theorem mWr.r {k q : Int} {σ : slM} {a i : Nat} (h : a ≠ 12) : mWr k q σ a i = σ a i := by unfold mWr; rw [slU_else (by omega), slU_else (by omega)]
theorem mWr.e {k q : Int} {σ : slM} : mWr k q σ 12 0 21 = k ∧ mWr k q σ 12 0 22 = q := ⟨by unfold mWr; rw [slU_ne (by decide), slU_same], by unfold mWr; rw [slU_same]⟩
/-- a fault is told -/
def mBad (k q : Int) (σ : slM) : Prop := ((1 ≤ k ∧ k ≤ 5) ∧ ∃ X p, isTm X p σ ∧ 0 ≤ q ∧ q ≤ 700) ∧ σ 12 0 21 = k ∧ σ 12 0 22 = q
theorem mBad.of {X : abX} {p k : Int} {σ : slM} (T : isTm X p σ) (hk : 1 ≤ k ∧ k ≤ 5) (hX : gdX X := by assumption) (hp : 0 ≤ p ∧ p ≤ X.2 := by omega) : mBad k (lxB X p) (mWr k (lxB X p) σ) := ⟨⟨hk, X, p, T.c (fun j a b => mWr.k (by omega) (by omega)) (mWr.r (by decide)), by have := lxB_r (X := X) hp.2; omega, by have := lxB_r (X := X) hp.2; have := hX.1; omega⟩, mWr.e⟩
theorem mFa.bad {e : Nat} {k q : Int} {σ : slM} (h : mFa e k q σ) : mBad k q σ := ⟨h.1, h.2.1, h.2.2.1⟩
theorem mBad.c {k q : Int} {σ τ : slM} (h : mBad k q σ) (q12 : ∀ j, 21 ≤ j → j ≤ 31 → τ 12 0 j = σ 12 0 j) (q72 : τ 72 0 = σ 72 0) : mBad k q τ := by
  obtain ⟨⟨hk, X, p, T, bq⟩, a, b⟩ := h
  exact ⟨⟨hk, X, p, T.c (fun j x y => q12 j (by omega) (by omega)) q72, bq⟩, by rw [q12 21 (by decide) (by decide)]; exact a, by rw [q12 22 (by decide) (by decide)]; exact b⟩
theorem sp_bb {G : slG} (hG : slGood G) {d K : Nat} {Φ : slPost} {σ : slM} {k q : Int} (F : mBad k q σ) (h : Φ (0, 0) σ) : slCall G mX12_isGood d K [sR 12 0] σ Φ :=
  sp_bad hG (by rw [F.2.1]; exact F.1.1) h
theorem sp_needf {G : slG} (hG : slGood G) {d K : Nat} (hd : 1 ≤ d) {Φ : slPost} {σ : slM} {k q v : Int} (F : mBad k q σ) (h : Φ (0, 0) σ) : slCall G mX12_need d K [sR 12 0, sI v] σ Φ :=
  vc_X12_need hG (by omega) (by omega) (sp_bb hG F (slKt.ok ⟨in0, fun z => absurd rfl z, fun _ => h⟩))
theorem sp_nhf {G : slG} (hG : slGood G) {d K : Nat} (hd : 1 ≤ d) {Φ : slPost} {σ : slM} {k q v w : Int} (F : mBad k q σ) (h : Φ (0, 0) σ) : slCall G mX12_numberHere d K [sR 12 0, sI v, sI w] σ Φ :=
  vc_X12_numberHere hG (by omega) (by omega) (sp_bb hG F (slKt.ok ⟨in0, fun z => absurd rfl z, fun _ => h⟩))
theorem sp_nuf {G : slG} (hG : slGood G) {d K : Nat} (hd : 2 ≤ d) {Φ : slPost} {σ : slM} {k q v w : Int} (F : mBad k q σ) (h : Φ (0, 0) σ) : slCall G mX12_number d K [sR 12 0, sI v, sI w] σ Φ :=
  vc_X12_number hG (by omega) (by omega) (sp_nhf hG (by omega) F (slKt.ok ⟨in0, sp_bb hG F (slKt.ok ⟨in0, fun _ => h, fun z => absurd rfl z⟩)⟩))
theorem sp_cnf {G : slG} (hG : slGood G) {d K : Nat} (hd : 3 ≤ d) {Φ : slPost} {σ : slM} {k q v : Int} (F : mBad k q σ) (h : Φ (0, 0) σ) : slCall G mX12_cellNext d K [sR 12 0, sI v] σ Φ :=
  vc_X12_cellNext hG (by omega) (by omega) (sp_nuf hG (by omega) F (slKt.ok (sp_nhf hG (by omega) F (slKt.ok ⟨in0, fun z => absurd rfl z, fun _ => h⟩))))
theorem sp_rnf {G : slG} (hG : slGood G) {d K : Nat} (hd : 1 ≤ d) {Φ : slPost} {σ : slM} {k q x1 x2 x4 : Int} {rt : Nat} (hrt : (slR rt).1 = 1) (F : mBad k q σ) (h : Φ (0, 0) σ) : slCall G mX12_rowNext d K [sR 12 0, sI x1, sI x2, sR rt 0, sI x4] σ Φ :=
  vc_X12_rowNext hG (by omega) (by omega) hrt (fun _ _ _ => False) (fun _ _ _ => False) (sp_bb hG F (slKt.ok ⟨in0, fun z => absurd rfl z, fun _ => h⟩)) (fun _ _ _ z => z.elim) (fun _ _ _ z => z.elim)
theorem sp_sgf {G : slG} (hG : slGood G) {d K : Nat} (hd : 1 ≤ d) {Φ : slPost} {σ : slM} {k q c : Int} (hc : 40 ≤ c ∧ c ≤ 61) (F : mBad k q σ) (h : ∀ v, Φ (0, v) σ) : slCall G mX12_isSign d K [sR 12 0, sI c] σ Φ := by
  obtain ⟨⟨-, X, p, T, -⟩, -⟩ := F
  exact sp_X12_isSign hG (by omega) (by omega) T hc (h _)
set_option maxHeartbeats 1000000 in
set_option maxRecDepth 4000 in
theorem sp_X12_numberHere {G : slG} (hG : slGood G) {d K : Nat} (hd : 2 ≤ d) (hK : 0 ≤ K) {Φ : slPost} {σ : slM} {x1 : Int} {x2 : Int} {X : abX} {p : Int} (T : isTm X p σ) (hp : 0 ≤ p ∧ p ≤ X.2) (hX : gdX X) (g : σ 12 0 21 = 0) (i1 : InR x1) (i2 : InR x2) (hh : x2 < 10000) (h1 : lxK X p ≠ 3 → Φ (0, 0) (mWr 1 (lxB X p) σ)) (h2 : lxK X p = 3 → ¬ (x1 ≤ lxN X p ∧ lxN X p ≤ x2) → Φ (0, 0) (mWr 2 (lxB X p) σ)) (h3 : lxK X p = 3 → x1 ≤ lxN X p ∧ lxN X p ≤ x2 → σ 12 0 29 = lxN X p → Φ (0, 1) σ) :
    slCall G mX12_numberHere d K [sR 12 0, sI x1, sI x2] σ Φ := by
  refine vc_X12_numberHere hG (by omega) hK  ?_
  have sr := mSo_r (k := lxK X p)
  have e26 := T.2.2.1
  have eb := lxB_r (X := X) hp.2
  have ee := lxE_r (X := X) hp.2
  have hx := hX.1
  have wrong : ∀ k : Int, 1 ≤ k → k ≤ 5 → Φ (0, 0) (mWr k (lxB X p) σ) → slCall G mX12_wrong (d - 1) 0 [sR 12 0, sI k] σ (slKt (fun _ τ11 => slCall G mX12_isGood (d - 1) 0 [sR 12 0] τ11 (slKt (fun v13 τ14 => (v13 = 0 ∨ v13 = 1) ∧ Φ (0, v13) τ14) Φ)) Φ) := fun k a b h => sp_X12_wrong hG (by omega) (by omega) g T.2.2.2.1 (slKt.ok (sp_bb hG (mBad.of T ⟨a, b⟩) (slKt.ok ⟨Or.inl rfl, h⟩)))
  refine sp_good hG g (slKt.ok ⟨in1, fun _ => ⟨by rw [e26]; exact ⟨by omega, by omega⟩, fun y2 => ?_, fun n2 => ?_⟩, fun z => absurd z (by decide)⟩)
  · have k3 : lxK X p = 3 := mSo_2.mp (e26.symm.trans y2)
    have n := lxN_r k3
    rw [T.2.2.2.2.1]
    refine ⟨⟨by omega, by omega⟩, fun z => wrong 2 (by decide) (by decide) (h2 k3 (by have := n.2.2.1 z; omega)), fun z => ?_⟩
    have n4 := n.2.2.2 (by omega)
    have ev : σ 12 0 29 = lxN X p := by
      rw [n4.1, T.2.2.2.2.2.1 k3, show min (lxE X p - lxB X p).toNat 4 = (lxE X p - lxB X p).toNat by omega]
    rw [ev]
    refine ⟨⟨⟨by omega, by omega⟩, i1⟩, fun y => wrong 2 (by decide) (by decide) (h2 k3 (by omega)), fun y => ⟨⟨⟨by omega, by omega⟩, i2⟩, fun x => sp_good hG g (slKt.ok ⟨Or.inr rfl, h3 k3 ⟨by omega, x⟩ ev⟩), fun x => wrong 2 (by decide) (by decide) (h2 k3 (by omega))⟩⟩
  · exact wrong 1 (by decide) (by decide) (h1 (fun z => n2 (by rw [e26]; exact mSo_2.mpr z)))
set_option maxHeartbeats 1000000 in
set_option maxRecDepth 4000 in
theorem sp_X12_number {G : slG} (hG : slGood G) {d K : Nat} (hd : 10 ≤ d) (hK : 0 ≤ K) {Φ : slPost} {σ : slM} {x1 : Int} {x2 : Int} {X : abX} {p : Int} (hX : gdX X) (hp : 0 ≤ p ∧ p ≤ X.2) (T : isTm X p σ) (g : σ 12 0 21 = 0) (i1 : InR x1) (i2 : InR x2) (hh : x2 < 10000) (h0 : ∀ k q, pNu X x1 x2 p = .inl (k, q) → 1 ≤ k ∧ k ≤ 5 → mBad k q (mWr k q σ) → Φ (0, 0) (mWr k q σ)) (h1 : ∀ v p', pNu X x1 x2 p = .inr (v, p') → x1 ≤ v ∧ v ≤ x2 → p < p' ∧ p' ≤ X.2 → ∀ τ, mTF σ τ → isTm X p' τ → Φ (0, v) τ) :
    slCall G mX12_number d K [sR 12 0, sI x1, sI x2] σ Φ := by
  refine vc_X12_number hG (by omega) hK  ?_
  have e := lxE_p (X := X) hp.2
  refine sp_X12_numberHere hG (by omega) (by omega) T hp hX g i1 i2 hh (fun n3 => ?_) (fun k3 n => ?_) (fun k3 b ev => ?_)
  · have B : mBad 1 (lxB X p) (mWr 1 (lxB X p) σ) := mBad.of T (by decide)
    exact slKt.ok ⟨in0, sp_bb hG B (slKt.ok ⟨in0, fun _ => h0 _ _ (by unfold pNu; rw [if_neg n3]) (by decide) B, fun z => absurd rfl z⟩)⟩
  · have B : mBad 2 (lxB X p) (mWr 2 (lxB X p) σ) := mBad.of T (by decide)
    exact slKt.ok ⟨in0, sp_bb hG B (slKt.ok ⟨in0, fun _ => h0 _ _ (by unfold pNu; rw [if_pos k3, if_neg n]) (by decide) B, fun z => absurd rfl z⟩)⟩
  · refine slKt.ok ⟨in1, ?_⟩
    rw [if_neg (by decide), ev]
    refine sp_good hG g (slKt.ok ⟨in1, fun z => absurd z (by decide), fun _ => ?_⟩)
    exact sp_X12_goes hG (by omega) (by omega) hX T.1 ⟨by omega, e.2.1⟩ T.2.1 (fun τ f T2 => slKt.ok (h1 _ _ (by unfold pNu; rw [if_pos k3, if_pos b]) b ⟨e.2.2 (by omega), e.2.1⟩ τ f T2))
set_option maxHeartbeats 1000000 in
set_option maxRecDepth 4000 in
theorem sp_X12_cellNext {G : slG} (hG : slGood G) {d K : Nat} (hd : 12 ≤ d) (hK : 0 ≤ K) {Φ : slPost} {σ : slM} {x1 : Int} {X : abX} {Q : abV} {p : Int} (hX : gdX X) (hp : 0 ≤ p ∧ p ≤ X.2) (T : isTm X p σ) (g : σ 12 0 21 = 0) (gq : gdR Q) (e32 : σ 12 0 32 = Q.1 0 0) (e33 : σ 12 0 33 = Q.1 0 1) (M : ∀ c : Int, 0 ≤ c → c < 144 → σ 74 0 c.toNat = Q.1 13 c) (h0 : ∀ k q, pCl X Q x1 p = .inl (k, q) → 1 ≤ k ∧ k ≤ 5 → ∀ τ v, mFr [] [21, 22, 25, 26, 27, 28, 29, 30, 31] σ τ → mBad k q τ → Φ (0, v) τ) (h1 : ∀ c p', pCl X Q x1 p = .inr (c, p') → 0 ≤ c ∧ c < 144 → p < p' ∧ p' ≤ X.2 → ∀ τ, mTF σ τ → isTm X p' τ → Φ (0, c) τ) :
    slCall G mX12_cellNext d K [sR 12 0, sI x1] σ Φ := by
  refine vc_X12_cellNext hG (by omega) hK  ?_
  have g0 := gq.1
  have g1 := gq.2.1
  have W : ∀ {k q : Int} {τ : slM}, mTF σ τ → mFr [] [21, 22, 25, 26, 27, 28, 29, 30, 31] σ (mWr k q τ) := fun f => mFr.up12 (mFr.up12 (f.mono (by decide) (by decide)) (by decide)) (by decide)
  rw [e32]
  refine sp_X12_number hG (by omega) (by omega) hX hp T g (by decide) ⟨by omega, by omega⟩ (by omega) (fun k q e hk B => slKt.ok (sp_nhf hG (by omega) B (slKt.ok ⟨in0, fun z => absurd rfl z, fun _ => h0 k q (by unfold pCl; rw [e]; rfl) hk _ _ (W mFr.id) B⟩))) (fun x p1 e0 bx hp1 τ f T2 => slKt.ok ?_)
  have g' : τ 12 0 21 = 0 := (f.2 21 (by decide)).trans g
  have ec : pCl X Q x1 p = rdB (pNh X 0 (Q.1 0 1 - 1) p1) fun y p2 => if sAnd (Q.1 13 (Q.1 0 0 * y + x)) x1 = 0 then .inr (Q.1 0 0 * y + x, lxE X p2) else .inl (4, lxB X p2) := by
    unfold pCl
    rw [e0]
    rfl
  have ep := lxE_p (X := X) hp1.2
  rw [f.2 33 (by decide), e33]
  refine sp_X12_numberHere hG (by omega) (by omega) T2 ⟨by omega, hp1.2⟩ hX g' (by decide) ⟨by omega, by omega⟩ (by omega) (fun k3 => slKt.ok ⟨in0, fun z => absurd rfl z, fun _ => h0 1 (lxB X p1) ?_ (by decide) _ _ (W f) (mBad.of T2 (by decide))⟩) (fun k3 n => slKt.ok ⟨in0, fun z => absurd rfl z, fun _ => h0 2 (lxB X p1) ?_ (by decide) _ _ (W f) (mBad.of T2 (by decide))⟩) (fun k3 b2 ev => slKt.ok ⟨in1, fun _ => ?_, fun z => absurd z (by decide)⟩)
  · rw [ec]; unfold pNh; rw [if_neg k3]; rfl
  · rw [ec]; unfold pNh; rw [if_pos k3, if_neg n]; rfl
  · have ec2 : pCl X Q x1 p = if sAnd (Q.1 13 (Q.1 0 0 * lxN X p1 + x)) x1 = 0 then .inr (Q.1 0 0 * lxN X p1 + x, lxE X p1) else .inl (4, lxB X p1) := by
      rw [ec]; unfold pNh; rw [if_pos k3, if_pos b2]; rfl
    have n := lxN_r k3
    rw [f.2 32 (by decide), e32, ev, f.1 74 0 (by decide) (by decide)]
    have c0 : 0 ≤ Q.1 0 0 * lxN X p1 := Int.mul_nonneg (by omega) n.1
    have c1 : Q.1 0 0 * lxN X p1 ≤ Q.1 0 0 * (Q.1 0 1 - 1) := Int.mul_le_mul_of_nonneg_left b2.2 (by omega)
    have c2 : Q.1 0 0 * Q.1 0 1 ≤ 12 * 12 := Int.mul_le_mul g0.2 g1.2 (by omega) (by omega)
    rw [Int.mul_sub, Int.mul_one] at c1
    have cr : 0 ≤ Q.1 0 0 * lxN X p1 + x ∧ Q.1 0 0 * lxN X p1 + x < 144 := ⟨by omega, by omega⟩
    clear c0 c1
    generalize Q.1 0 0 * lxN X p1 + x = c at *
    rw [M c cr.1 cr.2]
    refine ⟨cr, inAnd, fun z => ?_, fun z => ?_⟩
    · rw [if_pos z] at ec2
      refine sp_good hG g' (slKt.ok ⟨in1, fun z => absurd z (by decide), fun _ => ?_⟩)
      exact sp_X12_goes hG (by omega) (by omega) hX T2.1 ⟨by omega, ep.2.1⟩ T2.2.1 (fun τ2 f2 T3 => slKt.ok (h1 c _ ec2 cr ⟨by have := ep.2.2 (by omega); omega, ep.2.1⟩ τ2 (f.tr f2) T3))
    · rw [if_neg z] at ec2
      have B : mBad 4 (lxB X p1) (mWr 4 (lxB X p1) τ) := mBad.of T2 (by decide)
      exact sp_X12_wrong hG (by omega) (by omega) g' T2.2.2.2.1 (slKt.ok (sp_bb hG B (slKt.ok ⟨in0, fun _ => h0 4 (lxB X p1) ec2 (by decide) _ _ (W f) B, fun z => absurd rfl z⟩)))
set_option maxHeartbeats 1000000 in
set_option maxRecDepth 4000 in
theorem sp_X12_stepOf {G : slG} (hG : slGood G) {d K : Nat} (hd : 0 ≤ d) (hK : 0 ≤ K) {Φ : slPost} {σ : slM} {x0 : Int} (i : InR x0) (h : Φ (0, stF x0) σ) :
    slCall G mX12_stepOf d K [sI x0] σ Φ := by
  refine vc_X12_stepOf hG (by omega) hK  ?_
  unfold stF at h
  refine ⟨i, fun a => ⟨i, fun b => ⟨i, fun c => ⟨i, fun d => ⟨i, fun e => ?_, fun e => ?_⟩, fun d => ?_⟩, fun c => ?_⟩, fun b => ?_⟩, fun a => ?_⟩
  · rwa [if_neg a, if_neg b, if_neg c, if_neg d, if_neg e] at h
  · rwa [if_neg a, if_neg b, if_neg c, if_neg d, if_pos e] at h
  · rwa [if_neg a, if_neg b, if_neg c, if_pos d] at h
  · rwa [if_neg a, if_neg b, if_pos c] at h
  · rwa [if_neg a, if_pos b] at h
  · rwa [if_pos a] at h
set_option maxHeartbeats 1000000 in
set_option maxRecDepth 4000 in
theorem sp_X12_flashOf {G : slG} (hG : slGood G) {d K : Nat} (hd : 0 ≤ d) (hK : 0 ≤ K) {Φ : slPost} {σ : slM} {x0 : Int} (i : InR x0) (h : Φ (0, flF x0) σ) :
    slCall G mX12_flashOf d K [sI x0] σ Φ := by
  refine vc_X12_flashOf hG (by omega) hK  ?_
  unfold flF at h
  refine ⟨i, fun a => ⟨i, fun b => ?_, fun b => ?_⟩, fun a => ?_⟩
  · rwa [if_neg a, if_neg b] at h
  · rwa [if_neg a, if_pos b] at h
  · rwa [if_pos a] at h
