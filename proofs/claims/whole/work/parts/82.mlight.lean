/-! ===== lines read by the model ===== -/
def mRL : List Nat := [74, 75, 76, 77, 78, 79, 80, 81, 82, 83, 84, 85, 86, 87]
def mRS : List Nat := [21, 22, 25, 26, 27, 28, 29, 30, 31, 32, 33, 34, 35, 36, 37, 38, 39, 40, 41]
def mRF (σ τ : slM) : Prop := mFr mRL mRS σ τ
theorem mRF.id {σ : slM} : mRF σ σ := mFr.id
theorem mRF.tr {σ τ υ : slM} (h : mRF σ τ) (g : mRF τ υ) : mRF σ υ := mFr.tr h g
theorem mRF.of {L S : List Nat} {σ τ : slM} (h : mFr L S σ τ) (hL : ∀ r ∈ L, r ∈ mRL) (hS : ∀ r ∈ S, r ∈ mRS) : mRF σ τ := mFr.mono h hL hS
theorem mRF.u {σ τ : slM} {a j : Nat} {v : Int} (h : mRF σ τ) (ha : a ∈ mRL) : mRF σ (slU τ a 0 j v) := mFr.up h ha (fun z => by rw [z] at ha; exact absurd ha (by decide))
theorem mRF.k {σ τ : slM} {j : Nat} {v : Int} (h : mRF σ τ) (hj : j ∈ mRS) : mRF σ (slU τ 12 0 j v) := mFr.up12 h hj
theorem mRF.w {σ τ : slM} {k q : Int} (h : mRF σ τ) : mRF σ (mWr k q τ) := (h.k (by decide)).k (by decide)
theorem mBad.u {k q : Int} {σ : slM} {a j : Nat} {v : Int} (h : mBad k q σ) (ha : a ≠ 12 ∧ a ≠ 72) : mBad k q (slU σ a 0 j v) := h.c (fun j _ _ => by rw [slU_else (by omega)]) (by rw [slU_else (by omega)])
def nHd (Q : abV) (σ : slM) : Prop := σ 12 0 32 = Q.1 0 0 ∧ σ 12 0 33 = Q.1 0 1 ∧ σ 12 0 34 = Q.1 0 2 ∧ σ 12 0 35 = Q.1 0 3 ∧ σ 12 0 36 = Q.1 0 4 ∧ σ 12 0 37 = Q.1 0 5 ∧ σ 12 0 38 = Q.1 0 6
def nCp (Q : abV) (σ : slM) : Prop := ∀ i : Int, 0 ≤ i → i < Q.1 0 2 → σ 75 0 i.toNat = Q.1 1 i
def nMk (Q : abV) (σ : slM) : Prop := ∀ c : Int, 0 ≤ c → c < 144 → σ 74 0 c.toNat = Q.1 13 c
def nLt (Q : abV) (σ : slM) : Prop := ∀ l : Int, 0 ≤ l → l < Q.1 0 3 → (σ 84 0 (13 + l).toNat = Q.1 2 l ∧ σ 76 0 l.toNat = Q.1 3 l ∧ σ 84 0 (0 + l).toNat = Q.1 4 l ∧ σ 77 0 l.toNat = Q.1 5 l ∧ σ 78 0 l.toNat = Q.1 6 l ∧ σ 80 0 l.toNat = Q.1 8 l) ∧ (∀ k : Int, 0 ≤ k → k < Q.1 6 l → σ 79 0 (12 * l + k).toNat = Q.1 7 (l * 12 + k)) ∧ ∀ k : Int, 0 ≤ k → k < Q.1 8 l → σ 81 0 (6 * l + k).toNat = Q.1 9 (l * 6 + k)
def nSp (Q : abV) (σ : slM) : Prop := ∀ l : Int, 0 ≤ l → l < Q.1 0 4 → σ 84 0 (5 + l).toNat = Q.1 10 l ∧ σ 84 0 (19 + l).toNat = Q.1 11 l
def nFg (Q : abV) (σ : slM) : Prop := ∀ k : Int, 0 ≤ k → k < Q.1 0 5 → σ 82 0 k.toNat = Q.1 12 k
def nLw (Q : abV) (p : Int) (σ : slM) : Prop := (0 ≤ σ 12 0 39 ∧ σ 12 0 39 ≤ 2 * p ∧ σ 12 0 22 = -1) ∧ ∀ k : Int, 0 ≤ k → k < Q.1 0 6 → 0 ≤ σ 83 0 k.toNat ∧ ∃ b : Nat, isCd (σ 85 0) (σ 83 0 k.toNat).toNat (Q.2 k.toNat) b ∧ σ 85 0 b = 0 ∧ (b : Int) < σ 12 0 39
def isMq (Q : abV) (p : Int) (σ : slM) : Prop := nHd Q σ ∧ nCp Q σ ∧ nMk Q σ ∧ nLt Q σ ∧ nSp Q σ ∧ nFg Q σ ∧ nLw Q p σ
theorem nCp.c {Q Q' : abV} {σ τ : slM} (h : nCp Q σ) (e2 : Q'.1 0 2 = Q.1 0 2) (R : ∀ i, Q'.1 1 i = Q.1 1 i) (q : τ 75 0 = σ 75 0) : nCp Q' τ := fun i a b => by
  rw [q, R i]
  exact h i a (by omega)
theorem nMk.c {Q Q' : abV} {σ τ : slM} (h : nMk Q σ) (R : ∀ i, Q'.1 13 i = Q.1 13 i) (q : τ 74 0 = σ 74 0) : nMk Q' τ := fun i a b => by
  rw [q, R i]
  exact h i a b
theorem nLt.c {Q Q' : abV} {σ τ : slM} (h : nLt Q σ) (l5 : Q.1 0 3 ≤ 5) (e3 : Q'.1 0 3 = Q.1 0 3) (R : ∀ a i, 2 ≤ a → a ≤ 9 → Q'.1 a i = Q.1 a i) (q : ∀ a, 76 ≤ a → a ≤ 81 → τ a 0 = σ a 0) (q84 : ∀ j : Nat, j < 5 ∨ (13 ≤ j ∧ j < 18) → τ 84 0 j = σ 84 0 j) : nLt Q' τ := fun l a b => by
  rw [q84 (13 + l).toNat (by omega), q84 (0 + l).toNat (by omega), q 76 (by decide) (by decide), q 77 (by decide) (by decide), q 78 (by decide) (by decide), q 79 (by decide) (by decide), q 80 (by decide) (by decide), q 81 (by decide) (by decide), R 2 l (by decide) (by decide), R 3 l (by decide) (by decide), R 4 l (by decide) (by decide), R 5 l (by decide) (by decide), R 6 l (by decide) (by decide), R 8 l (by decide) (by decide)]
  have h := h l a (by omega)
  exact ⟨h.1, fun k a b => by rw [R 7 _ (by decide) (by decide)]; exact h.2.1 k a b, fun k a b => by rw [R 9 _ (by decide) (by decide)]; exact h.2.2 k a b⟩
theorem nSp.c {Q Q' : abV} {σ τ : slM} (h : nSp Q σ) (l8 : Q.1 0 4 ≤ 8) (e4 : Q'.1 0 4 = Q.1 0 4) (R10 : ∀ i, Q'.1 10 i = Q.1 10 i) (R11 : ∀ i, Q'.1 11 i = Q.1 11 i) (q84 : ∀ j : Nat, (5 ≤ j ∧ j < 13) ∨ 19 ≤ j → τ 84 0 j = σ 84 0 j) : nSp Q' τ := fun l a b => by
  rw [q84 (5 + l).toNat (by omega), q84 (19 + l).toNat (by omega), R10, R11]
  exact h l a (by omega)
theorem nFg.c {Q Q' : abV} {σ τ : slM} (h : nFg Q σ) (e5 : Q'.1 0 5 = Q.1 0 5) (R12 : ∀ i, Q'.1 12 i = Q.1 12 i) (q : τ 82 0 = σ 82 0) : nFg Q' τ := fun l a b => by
  rw [q, R12]
  exact h l a (by omega)
theorem nLw.c {Q Q' : abV} {p p' : Int} {σ τ : slM} (h : nLw Q p σ) (e6 : Q'.1 0 6 = Q.1 0 6) (R : Q'.2 = Q.2) (q39 : τ 12 0 39 = σ 12 0 39) (q22 : τ 12 0 22 = σ 12 0 22) (q83 : τ 83 0 = σ 83 0) (q85 : τ 85 0 = σ 85 0) (le : p ≤ p') : nLw Q' p' τ := by
  unfold nLw
  rw [e6, R, q39, q22, q83, q85]
  exact ⟨⟨h.1.1, by have := h.1.2.1; omega, h.1.2.2⟩, h.2⟩
theorem isMq.nx {Q : abV} {p p' : Int} {σ τ : slM} (g : gdR Q) (h : isMq Q p σ) (f : mTF σ τ) (le : p ≤ p') : isMq Q p' τ := by
  obtain ⟨h1, h2, h3, h4, h5, h6, h7⟩ := h
  have q : ∀ a, a ≠ 12 → τ a 0 = σ a 0 := fun a x => f.1 a 0 x (by simp)
  refine ⟨?_, h2.c rfl (fun _ => rfl) (q 75 (by decide)), h3.c (fun _ => rfl) (q 74 (by decide)), h4.c g.2.2.2.1.2 rfl (fun _ _ _ _ => rfl) (fun a x y => q a (by omega)) (fun j _ => by rw [q 84 (by decide)]), h5.c g.2.2.2.2.1.2 rfl (fun _ => rfl) (fun _ => rfl) (fun j _ => by rw [q 84 (by decide)]), h6.c rfl (fun _ => rfl) (q 82 (by decide)), h7.c rfl rfl (f.2 39 (by decide)) (f.2 22 (by decide)) (q 83 (by decide)) (q 85 (by decide)) le⟩
  unfold nHd
  rw [f.2 32 (by decide), f.2 33 (by decide), f.2 34 (by decide), f.2 35 (by decide), f.2 36 (by decide), f.2 37 (by decide), f.2 38 (by decide)]
  exact h1
set_option maxHeartbeats 4000000 in
set_option maxRecDepth 4000 in
theorem sp_X12_readsLight {G : slG} (hG : slGood G) {d K : Nat} (hd : 14 ≤ d) (hK : 0 ≤ K) {Φ : slPost} {σ : slM}  {X : abX} {Q : abV} {p : Int} (hX : gdX X) (hp : 0 ≤ p ∧ p ≤ X.2) (hk : lxK X p ≠ 0) (gq : gdR Q) (I : isMq Q p σ) (T : isTm X p σ) (g : σ 12 0 21 = 0) (h0 : ∀ k q, lnLi X Q p = .inl (k, q) → ∀ τ, mRF σ τ → mBad k q τ → Φ (0, 0) τ) (h1 : ∀ Q' p', lnLi X Q p = lnSg X p' Q' → p < p' ∧ p' ≤ X.2 → gdR Q' → ∀ τ, mRF σ τ → isMq Q' p' τ → isTm X p' τ → τ 12 0 21 = 0 → Φ (0, 0) τ) :
    slCall G mX12_readsLight d K [sR 12 0] σ Φ := by
  refine vc_X12_readsLight hG (by omega) hK  ?_
  have e := lxE_p (X := X) hp.2
  have e0 := e.2.2 hk
  have g3 := gq.2.2.2.1
  rw [I.1.2.2.2.1]
  refine ⟨⟨by omega, by omega⟩, fun z => ?_, fun z => ?_⟩
  rotate_left
  · have B : mBad 2 (lxB X p) (mWr 2 (lxB X p) σ) := mBad.of T (by decide)
    exact sp_X12_wrong hG (by omega) (by omega) g T.2.2.2.1 (slKt.ok (sp_bb hG B (slKt.ok ⟨in0, fun z => absurd rfl z, fun _ => h0 2 _ (by unfold lnLi; rw [if_pos (by omega)]) _ mRF.id.w B⟩)))
  refine sp_good hG g (slKt.ok ⟨in1, fun _ => ?_, fun z => absurd z (by decide)⟩)
  refine sp_X12_goes hG (by omega) (by omega) hX T.1 ⟨by omega, e.2.1⟩ T.2.1 (fun τ1 f1 T1 => slKt.ok ?_)
  have I1 := I.nx gq f1 (p' := lxE X p) (by omega)
  have F1 : mRF σ τ1 := mRF.of f1 (by decide) (by decide)
  have g1 : τ1 12 0 21 = 0 := (f1.2 21 (by decide)).trans g
  obtain ⟨hH, hC, hM, hL, hS, hF, hW⟩ := I1
  rw [hH.2.2.2.1]
  have eL : lnLi X Q p = rdB (pCl X Q 3 (lxE X p)) fun c p1 => rdB (pNu X 1 12 p1) fun re p2 => rdB (pNu X 0 200 p2) fun oi p3 => rdB (pNu X 0 9 p3) fun ra p4 => rdB (pWo X stF 12 p4) fun w p5 => rdB (pWo X flF 6 p5) fun f p6 => lnSg X p6 (qLi X Q c re oi ra w f) := by
    unfold lnLi
    rw [if_neg (by omega)]
  have n5 : 0 ≤ Q.1 0 3 ∧ Q.1 0 3 < 5 := by omega
  have n27 : 0 ≤ 0 + Q.1 0 3 ∧ 0 + Q.1 0 3 < 27 := by omega
  refine sp_X12_cellNext hG (by omega) (by omega) hX ⟨by omega, e.2.1⟩ T1 g1 gq hH.1 hH.2.1 hM (fun k q ee hk τ v f B => slKt.ok ?_) (fun c p1 ec cr hp1 τ2 f2 T2 => slKt.ok ?_)
  · have F := F1.tr (mRF.of f (by decide) (by decide))
    exact sp_nuf hG (by omega) B (slKt.ok ⟨n5, sp_nuf hG (by omega) (B.u (by decide)) (slKt.ok ⟨n27, sp_nuf hG (by omega) ((B.u (by decide)).u (by decide)) (slKt.ok ⟨n5, sp_rnf hG (by omega) rfl (((B.u (by decide)).u (by decide)).u (by decide)) (slKt.ok ⟨n5, sp_rnf hG (by omega) rfl ((((B.u (by decide)).u (by decide)).u (by decide)).u (by decide)) (slKt.ok ⟨n5, sp_bb hG (((((B.u (by decide)).u (by decide)).u (by decide)).u (by decide)).u (by decide)) (slKt.ok ⟨in0, fun z => absurd rfl z, fun _ => h0 k q (by rw [eL, ee]; rfl) _ (((((F.u (by decide)).u (by decide)).u (by decide)).u (by decide)).u (by decide)) (((((B.u (by decide)).u (by decide)).u (by decide)).u (by decide)).u (by decide))⟩)⟩)⟩)⟩)⟩)⟩)
  have oc := pCl_o gq ec
  rw [ec, rdB_o] at eL
  have F2 : mRF σ τ2 := F1.tr (mRF.of f2 (by decide) (by decide))
  have g2 : τ2 12 0 21 = 0 := (f2.2 21 (by decide)).trans g1
  refine sp_X12_number hG (by omega) (by omega) hX ⟨by omega, hp1.2⟩ T2 g2 (by decide) (by decide) (by decide) (fun k q ee hk B => slKt.ok ?_) (fun re p2 er bre hp2 τ3 f3 T3 => slKt.ok ⟨n5, ?_⟩)
  · have F := F2.w (k := k) (q := q)
    exact ⟨n5, sp_nuf hG (by omega) (B.u (by decide)) (slKt.ok ⟨n27, sp_nuf hG (by omega) ((B.u (by decide)).u (by decide)) (slKt.ok ⟨n5, sp_rnf hG (by omega) rfl (((B.u (by decide)).u (by decide)).u (by decide)) (slKt.ok ⟨n5, sp_rnf hG (by omega) rfl ((((B.u (by decide)).u (by decide)).u (by decide)).u (by decide)) (slKt.ok ⟨n5, sp_bb hG (((((B.u (by decide)).u (by decide)).u (by decide)).u (by decide)).u (by decide)) (slKt.ok ⟨in0, fun z => absurd rfl z, fun _ => h0 k q (by rw [eL, ee]; rfl) _ (((((F.u (by decide)).u (by decide)).u (by decide)).u (by decide)).u (by decide)) (((((B.u (by decide)).u (by decide)).u (by decide)).u (by decide)).u (by decide))⟩)⟩)⟩)⟩)⟩)⟩
  rw [er, rdB_o] at eL
  have q3 : ∀ a, a ≠ 12 → a ≠ 76 → slU τ3 76 0 (Q.1 0 3).toNat re a 0 = τ1 a 0 := fun a x y => by rw [slU_else (by omega), f3.1 a 0 x (by simp), f2.1 a 0 x (by simp)]
  have k3 : ∀ k, k ∉ [25, 26, 27, 28, 29, 30, 31] → slU τ3 76 0 (Q.1 0 3).toNat re 12 0 k = τ1 12 0 k := fun k x => by rw [slU_else (by decide), f3.2 k x, f2.2 k x]
  have A76 : slU τ3 76 0 (Q.1 0 3).toNat re 76 0 = fun j => if j = (Q.1 0 3).toNat then re else τ1 76 0 j := by rw [slU_fn, f3.1 76 0 (by decide) (by simp), f2.1 76 0 (by decide) (by simp)]
  have F3 : mRF σ (slU τ3 76 0 (Q.1 0 3).toNat re) := (F2.tr (mRF.of f3 (by decide) (by decide))).u (by decide)
  have T3' : isTm X p2 (slU τ3 76 0 (Q.1 0 3).toNat re) := T3.c (fun k _ _ => by rw [slU_else (by decide)]) (by rw [slU_else (by decide)])
  generalize slU τ3 76 0 (Q.1 0 3).toNat re = υ3 at *
  refine sp_X12_number hG (by omega) (by omega) hX ⟨by omega, hp2.2⟩ T3' ((k3 21 (by decide)).trans g1) (by decide) (by decide) (by decide) (fun k q ee hk B => slKt.ok ?_) (fun oi p3 eo boi hp3 τ4 f4 T4 => slKt.ok ⟨n27, ?_⟩)
  · have F := F3.w (k := k) (q := q)
    exact ⟨n27, sp_nuf hG (by omega) (B.u (by decide)) (slKt.ok ⟨n5, sp_rnf hG (by omega) rfl ((B.u (by decide)).u (by decide)) (slKt.ok ⟨n5, sp_rnf hG (by omega) rfl (((B.u (by decide)).u (by decide)).u (by decide)) (slKt.ok ⟨n5, sp_bb hG ((((B.u (by decide)).u (by decide)).u (by decide)).u (by decide)) (slKt.ok ⟨in0, fun z => absurd rfl z, fun _ => h0 k q (by rw [eL, ee]; rfl) _ ((((F.u (by decide)).u (by decide)).u (by decide)).u (by decide)) ((((B.u (by decide)).u (by decide)).u (by decide)).u (by decide))⟩)⟩)⟩)⟩)⟩
  rw [eo, rdB_o] at eL
  have q4 : ∀ a, a ≠ 12 → a ≠ 84 → slU τ4 84 0 (0 + Q.1 0 3).toNat oi a 0 = υ3 a 0 := fun a x y => by rw [slU_else (by omega), f4.1 a 0 x (by simp)]
  have k4 : ∀ k, k ∉ [25, 26, 27, 28, 29, 30, 31] → slU τ4 84 0 (0 + Q.1 0 3).toNat oi 12 0 k = τ1 12 0 k := fun k x => by rw [slU_else (by decide), f4.2 k x, k3 k x]
  have A84 : slU τ4 84 0 (0 + Q.1 0 3).toNat oi 84 0 = fun j => if j = (0 + Q.1 0 3).toNat then oi else τ1 84 0 j := by rw [slU_fn, f4.1 84 0 (by decide) (by simp), q3 84 (by decide) (by decide)]
  have F4 : mRF σ (slU τ4 84 0 (0 + Q.1 0 3).toNat oi) := (F3.tr (mRF.of f4 (by decide) (by decide))).u (by decide)
  have T4' : isTm X p3 (slU τ4 84 0 (0 + Q.1 0 3).toNat oi) := T4.c (fun k _ _ => by rw [slU_else (by decide)]) (by rw [slU_else (by decide)])
  generalize slU τ4 84 0 (0 + Q.1 0 3).toNat oi = υ4 at *
  refine sp_X12_number hG (by omega) (by omega) hX ⟨by omega, hp3.2⟩ T4' ((k4 21 (by decide)).trans g1) (by decide) (by decide) (by decide) (fun k q ee hk B => slKt.ok ?_) (fun ra p4 era bra hp4 τ5 f5 T5 => slKt.ok ⟨n5, ?_⟩)
  · have F := F4.w (k := k) (q := q)
    exact ⟨n5, sp_rnf hG (by omega) rfl (B.u (by decide)) (slKt.ok ⟨n5, sp_rnf hG (by omega) rfl ((B.u (by decide)).u (by decide)) (slKt.ok ⟨n5, sp_bb hG (((B.u (by decide)).u (by decide)).u (by decide)) (slKt.ok ⟨in0, fun z => absurd rfl z, fun _ => h0 k q (by rw [eL, ee]; rfl) _ (((F.u (by decide)).u (by decide)).u (by decide)) (((B.u (by decide)).u (by decide)).u (by decide))⟩)⟩)⟩)⟩
  rw [era, rdB_o] at eL
  have q5 : ∀ a, a ≠ 12 → a ≠ 77 → slU τ5 77 0 (Q.1 0 3).toNat ra a 0 = υ4 a 0 := fun a x y => by rw [slU_else (by omega), f5.1 a 0 x (by simp)]
  have k5 : ∀ k, k ∉ [25, 26, 27, 28, 29, 30, 31] → slU τ5 77 0 (Q.1 0 3).toNat ra 12 0 k = τ1 12 0 k := fun k x => by rw [slU_else (by decide), f5.2 k x, k4 k x]
  have A77 : slU τ5 77 0 (Q.1 0 3).toNat ra 77 0 = fun j => if j = (Q.1 0 3).toNat then ra else τ1 77 0 j := by rw [slU_fn, f5.1 77 0 (by decide) (by simp), q4 77 (by decide) (by decide), q3 77 (by decide) (by decide)]
  have F5 : mRF σ (slU τ5 77 0 (Q.1 0 3).toNat ra) := (F4.tr (mRF.of f5 (by decide) (by decide))).u (by decide)
  have T5' : isTm X p4 (slU τ5 77 0 (Q.1 0 3).toNat ra) := T5.c (fun k _ _ => by rw [slU_else (by decide)]) (by rw [slU_else (by decide)])
  generalize slU τ5 77 0 (Q.1 0 3).toNat ra = υ5 at *
  refine sp_X12_rowNext hG (by omega) (by omega) rfl (f := stF) hX ⟨by omega, hp4.2⟩ T5' ((k5 21 (by decide)).trans g1) (Or.inr ⟨rfl, rfl⟩) (by decide) (by decide) ⟨by omega, by show 12 * Q.1 0 3 + 12 ≤ (60 : Int); omega⟩ (fun k q ee hk B => slKt.ok ?_) (fun w p5 ew hp5 τ6 f6 c6 n6 T6 => slKt.ok ⟨n5, ?_⟩)
  · have F := F5.w (k := k) (q := q)
    exact ⟨n5, sp_rnf hG (by omega) rfl (B.u (by decide)) (slKt.ok ⟨n5, sp_bb hG ((B.u (by decide)).u (by decide)) (slKt.ok ⟨in0, fun z => absurd rfl z, fun _ => h0 k q (by rw [eL, ee]; rfl) _ ((F.u (by decide)).u (by decide)) ((B.u (by decide)).u (by decide))⟩)⟩)⟩
  rw [ew, rdB_o] at eL
  have ow := pWo_o (by omega) ew
  have q6 : ∀ a, a ≠ 12 → a ≠ 78 → a ≠ 79 → slU τ6 78 0 (Q.1 0 3).toNat w.2 a 0 = υ5 a 0 := fun a x y z => by rw [slU_else (by omega), f6.1 a 0 x (by simp; omega)]
  have k6 : ∀ k, k ∉ [25, 26, 27, 28, 29, 30, 31] → slU τ6 78 0 (Q.1 0 3).toNat w.2 12 0 k = τ1 12 0 k := fun k x => by rw [slU_else (by decide), f6.2 k x, k5 k x]
  have A78 : slU τ6 78 0 (Q.1 0 3).toNat w.2 78 0 = fun j => if j = (Q.1 0 3).toNat then w.2 else τ1 78 0 j := by rw [slU_fn, f6.1 78 0 (by decide) (by decide), q5 78 (by decide) (by decide), q4 78 (by decide) (by decide), q3 78 (by decide) (by decide)]
  have A79 : slU τ6 78 0 (Q.1 0 3).toNat w.2 79 0 = τ6 79 0 := slU_else (by decide)
  have F6 : mRF σ (slU τ6 78 0 (Q.1 0 3).toNat w.2) := (F5.tr (mRF.of f6 (by decide) (by decide))).u (by decide)
  have T6' : isTm X p5 (slU τ6 78 0 (Q.1 0 3).toNat w.2) := T6.c (fun k _ _ => by rw [slU_else (by decide)]) (by rw [slU_else (by decide)])
  generalize slU τ6 78 0 (Q.1 0 3).toNat w.2 = υ6 at *
  refine sp_X12_rowNext hG (by omega) (by omega) rfl (f := flF) hX ⟨by omega, hp5.2⟩ T6' ((k6 21 (by decide)).trans g1) (Or.inl ⟨rfl, rfl⟩) (by decide) (by decide) ⟨by omega, by show 6 * Q.1 0 3 + 6 ≤ (30 : Int); omega⟩ (fun k q ee hk B => slKt.ok ?_) (fun fl p6 efl hp6 τ7 f7 c7 n7 T7 => slKt.ok ⟨n5, ?_⟩)
  · have F := F6.w (k := k) (q := q)
    exact ⟨n5, sp_bb hG (B.u (by decide)) (slKt.ok ⟨in0, fun z => absurd rfl z, fun _ => h0 k q (by rw [eL, ee]; rfl) _ (F.u (by decide)) (B.u (by decide))⟩)⟩
  rw [efl, rdB_o] at eL
  have of := pWo_o (by omega) efl
  have q7 : ∀ a, a ≠ 12 → a ≠ 80 → a ≠ 81 → slU τ7 80 0 (Q.1 0 3).toNat fl.2 a 0 = υ6 a 0 := fun a x y z => by rw [slU_else (by omega), f7.1 a 0 x (by simp; omega)]
  have k7 : ∀ k, k ∉ [25, 26, 27, 28, 29, 30, 31] → slU τ7 80 0 (Q.1 0 3).toNat fl.2 12 0 k = τ1 12 0 k := fun k x => by rw [slU_else (by decide), f7.2 k x, k6 k x]
  have A80 : slU τ7 80 0 (Q.1 0 3).toNat fl.2 80 0 = fun j => if j = (Q.1 0 3).toNat then fl.2 else τ1 80 0 j := by rw [slU_fn, f7.1 80 0 (by decide) (by decide), q6 80 (by decide) (by decide) (by decide), q5 80 (by decide) (by decide), q4 80 (by decide) (by decide), q3 80 (by decide) (by decide)]
  have A81 : slU τ7 80 0 (Q.1 0 3).toNat fl.2 81 0 = τ7 81 0 := slU_else (by decide)
  have F7 : mRF σ (slU τ7 80 0 (Q.1 0 3).toNat fl.2) := (F6.tr (mRF.of f7 (by decide) (by decide))).u (by decide)
  have T7' : isTm X p6 (slU τ7 80 0 (Q.1 0 3).toNat fl.2) := T7.c (fun k _ _ => by rw [slU_else (by decide)]) (by rw [slU_else (by decide)])
  generalize slU τ7 80 0 (Q.1 0 3).toNat fl.2 = υ7 at *
  refine sp_good hG ((k7 21 (by decide)).trans g1) (slKt.ok ⟨in1, fun _ => ⟨⟨by omega, by omega⟩, cr, cr, ?_⟩, fun z => absurd z (by decide)⟩)
  have m := (gq.2.2.2.2.2.2.2.1 c).1
  have e74 : υ7 74 0 = τ1 74 0 := by rw [q7 74 (by decide) (by decide) (by decide), q6 74 (by decide) (by decide) (by decide), q5 74 (by decide) (by decide), q4 74 (by decide) (by decide), q3 74 (by decide) (by decide)]
  rw [slU_else (by decide), e74, hM c cr.1 cr.2, (mk_or m).2.1 ((mk_and (bar := 0) m).2.1.mp oc.2), slU_else (by decide), slU_else (by decide), k7 35 (by decide), hH.2.2.2.1]
  have gl := gq.li (X := X) (w := w) (f := fl) (by omega) oc.1 oc.2 bre boi bra ow.2.2.1 of.2.2.1 (fun k a b => by
    have := ow.2.1 k a (by rw [ow.2.2.2.1] at b; exact b)
    rw [ow.2.2.2.1]; exact this) (fun k a b => by
    have := of.2.1 k a (by rw [of.2.2.2.1] at b; exact b)
    rw [of.2.2.2.1]; exact this)
  have D : ∀ a, a ≠ 12 → a ≠ 84 → a ≠ 74 → slU (slU (slU υ7 84 0 (13 + Q.1 0 3).toNat c) 74 0 c.toNat (Q.1 13 c + 2)) 12 0 35 (Q.1 0 3 + 1) a 0 = υ7 a 0 := fun a x y z => by rw [slU_else (by omega), slU_else (by omega), slU_else (by omega)]
  have Dt : ∀ a, a ≠ 12 → a ≠ 74 → a ≠ 76 → a ≠ 77 → a ≠ 78 → a ≠ 79 → a ≠ 80 → a ≠ 81 → a ≠ 84 → slU (slU (slU υ7 84 0 (13 + Q.1 0 3).toNat c) 74 0 c.toNat (Q.1 13 c + 2)) 12 0 35 (Q.1 0 3 + 1) a 0 = τ1 a 0 := fun a x1 x2 x3 x4 x5 x6 x7 x8 x9 => by rw [D a x1 x9 x2, q7 a x1 x7 x8, q6 a x1 x5 x6, q5 a x1 x4, q4 a x1 x9, q3 a x1 x3]
  have Dk : ∀ k, k ≠ 35 → slU (slU (slU υ7 84 0 (13 + Q.1 0 3).toNat c) 74 0 c.toNat (Q.1 13 c + 2)) 12 0 35 (Q.1 0 3 + 1) 12 0 k = υ7 12 0 k := fun k x => by rw [slU_ne x, slU_else (by decide), slU_else (by decide)]
  have e84 : υ7 84 0 = fun j => if j = (0 + Q.1 0 3).toNat then oi else τ1 84 0 j := by rw [q7 84 (by decide) (by decide) (by decide), q6 84 (by decide) (by decide) (by decide), q5 84 (by decide) (by decide), A84]
  have D84 : ∀ j, slU (slU (slU υ7 84 0 (13 + Q.1 0 3).toNat c) 74 0 c.toNat (Q.1 13 c + 2)) 12 0 35 (Q.1 0 3 + 1) 84 0 j = if j = (13 + Q.1 0 3).toNat then c else if j = (0 + Q.1 0 3).toNat then oi else τ1 84 0 j := fun j => by
    rw [slU_else (by decide), slU_else (by decide), slU_fn, e84]
  have z76 : υ7 76 0 = fun j => if j = (Q.1 0 3).toNat then re else τ1 76 0 j := by rw [q7 76 (by decide) (by decide) (by decide), q6 76 (by decide) (by decide) (by decide), q5 76 (by decide) (by decide), q4 76 (by decide) (by decide), A76]
  have z77 : υ7 77 0 = fun j => if j = (Q.1 0 3).toNat then ra else τ1 77 0 j := by rw [q7 77 (by decide) (by decide) (by decide), q6 77 (by decide) (by decide) (by decide), A77]
  have z78 : υ7 78 0 = fun j => if j = (Q.1 0 3).toNat then w.2 else τ1 78 0 j := by rw [q7 78 (by decide) (by decide) (by decide), A78]
  have z79 : υ7 79 0 = τ6 79 0 := by rw [q7 79 (by decide) (by decide) (by decide), A79]
  have s79 : ∀ j, υ5 79 0 j = τ1 79 0 j := fun j => by rw [q5 79 (by decide) (by decide), q4 79 (by decide) (by decide), q3 79 (by decide) (by decide)]
  have s81 : ∀ j, υ6 81 0 j = τ1 81 0 j := fun j => by rw [q6 81 (by decide) (by decide) (by decide), q5 81 (by decide) (by decide), q4 81 (by decide) (by decide), q3 81 (by decide) (by decide)]
  refine h1 _ p6 eL ⟨by omega, hp6.2⟩ gl _ (((F7.u (by decide)).u (by decide)).k (by decide)) ⟨⟨?_, ?_, ?_, ?_, ?_, ?_, ?_⟩, ?_, ?_, ?_, ?_, ?_, ?_⟩ (T7'.c (fun k x y => Dk k (by omega)) (D 72 (by decide) (by decide) (by decide))) ((Dk 21 (by decide)).trans ((k7 21 (by decide)).trans g1))
  · rw [Dk 32 (by decide), k7 32 (by decide), qLi_0 (by decide)]; exact hH.1
  · rw [Dk 33 (by decide), k7 33 (by decide), qLi_0 (by decide)]; exact hH.2.1
  · rw [Dk 34 (by decide), k7 34 (by decide), qLi_0 (by decide)]; exact hH.2.2.1
  · rw [slU_same, qLi_03]
  · rw [Dk 36 (by decide), k7 36 (by decide), qLi_0 (by decide)]; exact hH.2.2.2.2.1
  · rw [Dk 37 (by decide), k7 37 (by decide), qLi_0 (by decide)]; exact hH.2.2.2.2.2.1
  · rw [Dk 38 (by decide), k7 38 (by decide), qLi_0 (by decide)]; exact hH.2.2.2.2.2.2
  · exact hC.c (qLi_0 (by decide)) (fun i => qLi_r (by decide)) (Dt 75 (by decide) (by decide) (by decide) (by decide) (by decide) (by decide) (by decide) (by decide) (by decide))
  · intro i a b
    rw [qLi_13, slU_else (by decide)]
    by_cases y : i = c
    · rw [if_pos y, y, slU_same]
    · rw [if_neg y, slU_ne (by omega), slU_else (by decide), e74]
      exact hM i a b
  · intro l a b
    rw [qLi_03] at b
    rw [D84, D84, D 76 (by decide) (by decide) (by decide), D 77 (by decide) (by decide) (by decide), D 78 (by decide) (by decide) (by decide), D 79 (by decide) (by decide) (by decide), D 80 (by decide) (by decide) (by decide), D 81 (by decide) (by decide) (by decide), z76, z77, z78, z79, A80, A81, qLi_2, qLi_3, qLi_4, qLi_5, qLi_6, qLi_8]
    by_cases y : l = Q.1 0 3
    · rw [if_pos y, if_pos y, if_pos y, if_pos y, if_pos y, if_pos y, y]
      refine ⟨⟨if_pos rfl, if_pos rfl, ?_, if_pos rfl, if_pos rfl, if_pos rfl⟩, fun k a b => ?_, fun k a b => ?_⟩
      · rw [if_neg (by omega), if_pos rfl]
      · rw [c6 k a b, qLi_7, if_pos ⟨by omega, by omega⟩, show Q.1 0 3 * 12 + k - Q.1 0 3 * 12 = k by omega]
      · rw [c7 k a b, qLi_9, if_pos ⟨by omega, by omega⟩, show Q.1 0 3 * 6 + k - Q.1 0 3 * 6 = k by omega]
    · have h := hL l a (by omega)
      have nn : ¬ l.toNat = (Q.1 0 3).toNat := by omega
      have gl := gq.2.2.2.2.2.2.2.2.2.1 l a (by omega)
      rw [if_neg y, if_neg y, if_neg y, if_neg y, if_neg y, if_neg y]
      refine ⟨⟨?_, (if_neg nn).trans h.1.2.1, ?_, (if_neg nn).trans h.1.2.2.2.1, (if_neg nn).trans h.1.2.2.2.2.1, (if_neg nn).trans h.1.2.2.2.2.2⟩, fun k a b => ?_, fun k a b => ?_⟩
      · rw [if_neg (by omega), if_neg (by omega)]; exact h.1.1
      · rw [if_neg (by omega), if_neg (by omega)]; exact h.1.2.2.1
      · rw [n6 _ (by omega), s79, qLi_7, if_neg (by omega)]; exact h.2.1 k a b
      · rw [n7 _ (by omega), s81, qLi_9, if_neg (by omega)]; exact h.2.2 k a b
  · exact hS.c gq.2.2.2.2.1.2 (qLi_0 (by decide)) (fun i => qLi_r (by decide)) (fun i => qLi_r (by decide)) (fun j hj => by rw [D84, if_neg (by omega), if_neg (by omega)])
  · exact hF.c (qLi_0 (by decide)) (fun i => qLi_r (by decide)) (Dt 82 (by decide) (by decide) (by decide) (by decide) (by decide) (by decide) (by decide) (by decide) (by decide))
  · exact hW.c (qLi_0 (by decide)) rfl ((Dk 39 (by decide)).trans (k7 39 (by decide))) ((Dk 22 (by decide)).trans (k7 22 (by decide))) (Dt 83 (by decide) (by decide) (by decide) (by decide) (by decide) (by decide) (by decide) (by decide) (by decide)) (Dt 85 (by decide) (by decide) (by decide) (by decide) (by decide) (by decide) (by decide) (by decide) (by decide)) (by omega)
