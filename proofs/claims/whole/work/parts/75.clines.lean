/-! ===== lines read by the class ===== -/
theorem qCp.c {r : Nat} {Q Q' : abV} {σ τ : slM} (h : qCp r Q σ) (e0 : Q'.1 0 0 = Q.1 0 0) (e2 : Q'.1 0 2 = Q.1 0 2) (R : ∀ i, Q'.1 1 i = Q.1 1 i) (q24 : τ 24 r = σ 24 r) (q25 : τ 25 r = σ 25 r) : qCp r Q' τ := fun i a b => by
  rw [q24, q25, R i, e0]
  exact h i a (by omega)
theorem qMk.c {r : Nat} {Q Q' : abV} {σ τ : slM} (h : qMk r Q σ) (R : ∀ i, Q'.1 13 i = Q.1 13 i) (q23 : τ 23 r = σ 23 r) (q50 : τ 50 0 = σ 50 0) : qMk r Q' τ := fun i a b => by
  rw [q23, q50, R i]
  exact h i a b
theorem qLt.c {r s : Nat} {Q Q' : abV} {σ τ : slM} (h : qLt r s Q σ) (e3 : Q'.1 0 3 = Q.1 0 3) (R : ∀ a i, 2 ≤ a → a ≤ 9 → Q'.1 a i = Q.1 a i) (q : ∀ a, 26 ≤ a → a ≤ 31 → τ a r = σ a r) (q51 : τ 51 s = σ 51 s) (q52 : τ 52 s = σ 52 s) : qLt r s Q' τ := fun l a b => by
  rw [q51, q52, q 26 (by decide) (by decide), q 27 (by decide) (by decide), q 28 (by decide) (by decide), q 29 (by decide) (by decide), q 30 (by decide) (by decide), q 31 (by decide) (by decide), R 2 l (by decide) (by decide), R 3 l (by decide) (by decide), R 4 l (by decide) (by decide), R 5 l (by decide) (by decide), R 6 l (by decide) (by decide), R 8 l (by decide) (by decide)]
  have h := h l a (by omega)
  exact ⟨h.1, fun k a b => by rw [R 7 _ (by decide) (by decide)]; exact h.2.1 k a b, h.2.2.1, fun k a b => by rw [R 9 _ (by decide) (by decide)]; exact h.2.2.2 k a b⟩
theorem qSp.c {s : Nat} {Q Q' : abV} {σ τ : slM} (h : qSp s Q σ) (e4 : Q'.1 0 4 = Q.1 0 4) (R10 : ∀ i, Q'.1 10 i = Q.1 10 i) (R11 : ∀ i, Q'.1 11 i = Q.1 11 i) (q53 : τ 53 s = σ 53 s) (q54 : τ 54 s = σ 54 s) : qSp s Q' τ := fun l a b => by
  rw [q53, q54, R10, R11]
  exact h l a (by omega)
theorem qFg.c {r : Nat} {Q Q' : abV} {σ τ : slM} (h : qFg r Q σ) (e5 : Q'.1 0 5 = Q.1 0 5) (R12 : ∀ i, Q'.1 12 i = Q.1 12 i) (q32 : τ 32 r = σ 32 r) : qFg r Q' τ := fun l a b => by
  rw [q32, R12]
  exact h l a (by omega)
theorem qLw.c {r : Nat} {Q Q' : abV} {p p' : Int} {σ τ : slM} (h : qLw r Q p σ) (e6 : Q'.1 0 6 = Q.1 0 6) (R : Q'.2 = Q.2) (q4 : τ 4 r 3 = σ 4 r 3) (q37 : τ 37 r = σ 37 r) (q38 : τ 38 r = σ 38 r) (le : p ≤ p') : qLw r Q' p' τ := by
  obtain ⟨oc, a, b, c⟩ := h
  unfold qLw qFm isOc
  rw [e6, R, q4, q37, q38]
  exact ⟨oc, a, by omega, c⟩
def rcO (X : abX) (r s : Nat) (R : abR abV) (p0 : Int) (σ : slM) (Φ : slPost) : Prop :=
  (∀ k q, R = .inl (k, q) → 1 ≤ k ∧ k ≤ 5 → ∀ τ, rcF r s σ τ → τ 7 0 5 = k → τ 7 0 6 = q → Φ (0, 0) τ) ∧ ∀ Q' p', R = .inr (Q', p') → p0 < p' ∧ p' ≤ X.2 → gdR Q' → ∀ τ, rcF r s σ τ → isRq r s Q' p' τ → isTk X p' τ → Φ (0, 1) τ
theorem rcO.e {X : abX} {r s : Nat} {R : abR abV} {p0 k q : Int} {σ σ1 τ : slM} {Φ : slPost} (O : rcO X r s R p0 σ Φ) (e : R = .inl (k, q)) (hk : 1 ≤ k ∧ k ≤ 5) (f : rcF r s σ σ1) (E : rcE k q σ1 τ) : Φ (0, 0) τ := O.1 k q e hk τ (f.tr E.rc) E.2.2.1 E.2.2.2
theorem rcO.mv {X : abX} {r s : Nat} {R : abR abV} {p0 : Int} {σ : slM} {Φ : slPost} (O : rcO X r s R p0 σ Φ) : rcO X r s R p0 σ (slKt (fun v τ => (v = 0 ∨ v = 1) ∧ Φ (0, v) τ) Φ) :=
  ⟨fun k q e hk τ f a b => slKt.ok ⟨Or.inl rfl, O.1 k q e hk τ f a b⟩, fun Q' p' e l g τ f I T => slKt.ok ⟨Or.inr rfl, O.2 Q' p' e l g τ f I T⟩⟩
theorem sp_sg {G : slG} (hG : slGood G) {d K : Nat} (hd : 16 ≤ d) {Φ : slPost} {σ0 σ : slM} {X : abX} {r s : Nat} {Q : abV} {p p0 : Int} (hX : gdX X) (hp : 0 ≤ p ∧ p ≤ X.2) (le : p0 ≤ p) (g : gdR Q) (f : rcF r s σ0 σ) (I : isRq r s Q p σ) (T : isTk X p σ) (O : rcO X r s (lnSg X p Q) p0 σ0 Φ) : slCall G mX7_readSign d K [sR 7 0, sI 59] σ (slKt (fun v τ => (v = 0 ∨ v = 1) ∧ Φ (0, v) τ) Φ) := by
  have e := lxE_p (X := X) hp.2
  refine sp_X7_readSign hG (by omega) (by omega) hX hp T (by decide) (fun n => slKt.ok ⟨Or.inl rfl, O.e (k := 1) (q := lxB X p) ?_ (by decide) f rcE.fl⟩) (fun y τ f2 T2 => slKt.ok ⟨Or.inr rfl, O.2 Q (lxE X p) ?_ ⟨by have := e.2.2 (by omega); omega, e.2.1⟩ g τ (f.tr (rcF.of f2 (by simp [rcL]) (by simp))) ((I.nx f2).up (by omega)) T2⟩)
  · unfold lnSg pSg
    rw [if_neg n]
    rfl
  · unfold lnSg pSg
    rw [if_pos y]
    rfl
set_option maxHeartbeats 1000000 in
set_option maxRecDepth 4000 in
theorem sp_X7_readSea {G : slG} (hG : slGood G) {d K : Nat} (hd : 22 ≤ d) (hK : 0 ≤ K) {Φ : slPost} {σ : slM}  {X : abX} {r s : Nat} {Q : abV} {p : Int} (hX : gdX X) (hp : 0 ≤ p ∧ p ≤ X.2) (hk : lxK X p ≠ 0) (g : gdR Q) (z2 : Q.1 0 2 = 0) (z3 : Q.1 0 3 = 0) (z4 : Q.1 0 4 = 0) (I : isRq r s Q p σ) (T : isTk X p σ) (O : rcO X r s (rdB (pNu X 1 12 (lxE X p)) fun w p1 => rdB (pNu X 1 12 p1) fun h p2 => lnSg X p2 (qU (qU Q 0 0 w) 0 1 h)) p σ Φ) :
    slCall G mX7_readSea d K [sR 7 0] σ Φ := by
  refine vc_X7_readSea hG (by omega) hK  ?_
  have e := lxE_p (X := X) hp.2
  have e0 := e.2.2 hk
  refine sp_X9_next hG (by omega) (by omega) hX T.1 ⟨by omega, e.2.1⟩ T.2.2.1 (fun τ1 f1 T1 => slKt.ok ?_)
  have F1 : rcF r s σ τ1 := rcF.of f1 (by simp [rcL]) (by simp)
  have I1 := I.nx f1
  refine sp_nu hG (by omega) hX ⟨by omega, e.2.1⟩ T1 (by decide) (by decide) (fun k q ee hk τ E => slKt.ok ⟨⟨by decide, by decide⟩, fun z => absurd rfl z, fun _ => O.e (by rw [ee]; rfl) hk F1 E⟩) (fun w p1 ew w0 bw hp1 τ2 f2 T2 => slKt.ok ⟨⟨by omega, by omega⟩, fun _ => ?_, fun z => by omega⟩)
  have F2 : rcF r s σ τ2 := F1.tr (rcF.of f2 (by simp [rcL]) (by simp))
  have I2 := I1.nx f2
  rw [ew, rdB_o] at O
  refine sp_nu hG (by omega) hX ⟨by omega, hp1.2⟩ T2 (by decide) (by decide) (fun k q ee hk τ E => slKt.ok ⟨⟨by decide, by decide⟩, fun z => absurd rfl z, fun _ => O.e (by rw [ee]; rfl) hk F2 E⟩) (fun h p2 eh h0 bh hp2 τ3 f3 T3 => slKt.ok ⟨⟨by omega, by omega⟩, fun _ => ?_, fun z => by omega⟩)
  have F3 : rcF r s σ τ3 := F2.tr (rcF.of f3 (by simp [rcL]) (by simp))
  have I3 := I2.nx f3
  rw [eh, rdB_o] at O
  obtain ⟨h1, hH, hC, hM, hL, hS, hF, hW⟩ := I3
  rw [slU_else (by omega), h1.1, Int.toNat_natCast]
  refine sp_sg hG (by omega) hX ⟨by omega, hp2.2⟩ (by omega) (g.sea bw bh z2 z3 z4) ((F3.up (by simp [rcL]) (by decide)).up (by simp [rcL]) (by decide)) ⟨?_, ⟨⟨?_, ?_, ?_, ?_, ?_, ?_⟩, ?_, ?_⟩, ?_, ?_, ?_, ?_, ?_, ?_⟩ (T3.c ?_ ?_) O
  · rw [slU_else (by omega), slU_else (by omega)]; exact h1
  · rw [slU_ne (by decide), slU_same, qU_i (by decide), qU_y]
  · rw [slU_same, qU_y]
  · rw [slU_ne (by decide), slU_ne (by decide), qU_i (by decide), qU_i (by decide)]; exact hH.1.2.2.1
  · rw [slU_ne (by decide), slU_ne (by decide), qU_i (by decide), qU_i (by decide)]; exact hH.1.2.2.2.1
  · rw [slU_ne (by decide), slU_ne (by decide), qU_i (by decide), qU_i (by decide)]; exact hH.1.2.2.2.2.1
  · rw [slU_ne (by decide), slU_ne (by decide), qU_i (by decide), qU_i (by decide)]; exact hH.1.2.2.2.2.2
  · rw [slU_else (by omega), slU_else (by omega), qU_i (by decide), qU_i (by decide)]; exact hH.2.1
  · rw [slU_else (by omega), slU_else (by omega), qU_i (by decide), qU_i (by decide)]; exact hH.2.2
  · intro i a b
    rw [qU_i (by decide), qU_i (by decide)] at b
    omega
  · exact hM.c (fun i => by rw [qU_r (by decide), qU_r (by decide)]) (by rw [slU_else (by omega), slU_else (by omega)]) (by rw [slU_else (by omega), slU_else (by omega)])
  · intro i a b
    rw [qU_i (by decide), qU_i (by decide)] at b
    omega
  · intro i a b
    rw [qU_i (by decide), qU_i (by decide)] at b
    omega
  · exact hF.c (by rw [qU_i (by decide), qU_i (by decide)]) (fun i => by rw [qU_r (by decide), qU_r (by decide)]) (by rw [slU_else (by omega), slU_else (by omega)])
  · exact hW.c (by rw [qU_i (by decide), qU_i (by decide)]) rfl (by rw [slU_else (by omega), slU_else (by omega)]) (by rw [slU_else (by omega), slU_else (by omega)]) (by rw [slU_else (by omega), slU_else (by omega)]) (by omega)
  · rw [slU_else (by omega), slU_else (by omega)]
  · rw [slU_else (by omega), slU_else (by omega)]
set_option maxHeartbeats 1000000 in
set_option maxRecDepth 4000 in
theorem sp_X7_readCape {G : slG} (hG : slGood G) {d K : Nat} (hd : 24 ≤ d) (hK : 0 ≤ K) {Φ : slPost} {σ : slM}  {X : abX} {r s : Nat} {Q : abV} {p : Int} (hX : gdX X) (hp : 0 ≤ p ∧ p ≤ X.2) (hk : lxK X p ≠ 0) (g : gdR Q) (I : isRq r s Q p σ) (T : isTk X p σ) (O : rcO X r s (lnCa X Q p) p σ Φ) :
    slCall G mX7_readCape d K [sR 7 0] σ Φ := by
  refine vc_X7_readCape hG (by omega) hK  ?_
  have e := lxE_p (X := X) hp.2
  have e0 := e.2.2 hk
  have g2 := g.2.2.1
  rw [I.1.1, Int.toNat_natCast, I.2.1.1.2.2.1]
  refine ⟨⟨by omega, by omega⟩, fun z => ?_, fun z => sp_X7_refuse hG (by omega) (by omega) T (slKt.ok ⟨Or.inl rfl, O.e (k := 2) (q := lxB X p) (by unfold lnCa; rw [if_pos (by omega)]) (by decide) rcF.id rcE.fl⟩)⟩
  unfold lnCa at O
  rw [if_neg (by omega)] at O
  refine sp_X9_next hG (by omega) (by omega) hX T.1 ⟨by omega, e.2.1⟩ T.2.2.1 (fun τ1 f1 T1 => slKt.ok ?_)
  have F1 : rcF r s σ τ1 := rcF.of f1 (by simp [rcL]) (by simp)
  have I1 := (I.nx f1).up (p' := lxE X p) (by omega)
  refine sp_X7_readCell hG (by omega) (by omega) hX ⟨by omega, e.2.1⟩ T1 I1 g (Or.inl ⟨rfl, rfl⟩) (fun k q ee hk τ E => slKt.ok ⟨⟨by decide, by decide⟩, fun z => absurd rfl z, fun _ => O.e (by rw [ee]; rfl) hk F1 E⟩) (fun c p1 ec cr hp1 τ f M T2 => slKt.ok ⟨⟨by omega, by omega⟩, fun _ => ⟨cr, ?_⟩, fun z => by omega⟩)
  have F2 : rcF r s σ τ := F1.tr (rcF.of f (by simp [rcL]) (by simp))
  rw [ec, rdB_o] at O
  have oc := pCl_o g ec
  have q : ∀ a i, a ≠ 9 → a ≠ 50 → τ a i = τ1 a i := fun a i h1 h2 => f a i (by simp; omega)
  obtain ⟨h1, hH, hC, hM, hL, hS, hF, hW⟩ := I1
  have e7 : τ 7 0 2 = r := by rw [q 7 0 (by decide) (by decide)]; exact h1.1
  have w7 : ∀ (A : slM), A 7 0 = τ 7 0 → A 7 0 2 = r := fun A z => by rw [z]; exact e7
  rw [e7, Int.toNat_natCast, slU_else (by omega), e7, Int.toNat_natCast, slU_else (by omega), q 1 r (by decide) (by decide), hH.1.2.2.1]
  have g0 := g.1
  refine sp_X1_columnOf hG (by omega) (by omega) ⟨by omega, by omega⟩ ?_ (slKt.ok ⟨⟨by omega, by omega⟩, ?_⟩)
  · rw [slU_else (by omega), q 1 r (by decide) (by decide), hH.1.1]
    omega
  rw [slU_else (by omega), slU_else (by omega), e7, Int.toNat_natCast, slU_else (by omega), q 1 r (by decide) (by decide), hH.1.1, slU_else (by omega), slU_else (by omega), q 1 r (by decide) (by decide), hH.1.2.2.1]
  refine sp_X1_rowOf hG (by omega) (by omega) ⟨by omega, by omega⟩ ?_ (slKt.ok ⟨⟨by omega, by omega⟩, ?_⟩)
  · rw [slU_else (by omega), slU_else (by omega), q 1 r (by decide) (by decide), hH.1.1]
    omega
  rw [slU_else (by omega), slU_else (by omega), slU_else (by omega), q 1 r (by decide) (by decide), hH.1.1, slU_else (by omega), slU_else (by omega), e7, Int.toNat_natCast, slU_else (by omega), slU_else (by omega), slU_else (by omega), q 1 r (by decide) (by decide), hH.1.2.2.1]
  have B : ∀ a i, a ≠ 1 → a ≠ 23 → a ≠ 24 → a ≠ 25 → slU (slU (slU (slU τ 23 r c.toNat 1) 24 r (Q.1 0 2).toNat (c % Q.1 0 0)) 25 r (Q.1 0 2).toNat (c / Q.1 0 0)) 1 r 2 (Q.1 0 2 + 1) a i = τ a i := fun a i h1 h2 h3 h4 => by
    rw [slU_else (by omega), slU_else (by omega), slU_else (by omega), slU_else (by omega)]
  have B1 : ∀ k, k ≠ 2 → slU (slU (slU (slU τ 23 r c.toNat 1) 24 r (Q.1 0 2).toNat (c % Q.1 0 0)) 25 r (Q.1 0 2).toNat (c / Q.1 0 0)) 1 r 2 (Q.1 0 2 + 1) 1 r k = τ1 1 r k := fun k h => by
    rw [slU_ne h, slU_else (by omega), slU_else (by omega), slU_else (by omega), q 1 r (by decide) (by decide)]
  have Fz : rcF r s σ (slU (slU (slU (slU τ 23 r c.toNat 1) 24 r (Q.1 0 2).toNat (c % Q.1 0 0)) 25 r (Q.1 0 2).toNat (c / Q.1 0 0)) 1 r 2 (Q.1 0 2 + 1)) := (((F2.up (by simp [rcL]) (by decide)).up (by simp [rcL]) (by decide)).up (by simp [rcL]) (by decide)).up (by simp [rcL]) (by decide)
  refine sp_sg hG (by omega) hX ⟨by omega, hp1.2⟩ (by omega) (g.ca (by omega) oc.1 oc.2) Fz ⟨?_, ⟨⟨?_, ?_, ?_, ?_, ?_, ?_⟩, ?_, ?_⟩, ?_, ?_, ?_, ?_, ?_, ?_⟩ (T2.c (B 9 0 (by decide) (by decide) (by decide) (by decide)) (B 58 0 (by decide) (by decide) (by decide) (by decide))) O
  · rw [B 7 0 (by decide) (by decide) (by decide) (by decide), q 7 0 (by decide) (by decide)]; exact h1
  · rw [B1 0 (by decide), qCa_0 (by decide)]; exact hH.1.1
  · rw [B1 1 (by decide), qCa_0 (by decide)]; exact hH.1.2.1
  · rw [slU_same, qCa_02]
  · rw [B1 3 (by decide), qCa_0 (by decide)]; exact hH.1.2.2.2.1
  · rw [B1 4 (by decide), qCa_0 (by decide)]; exact hH.1.2.2.2.2.1
  · rw [B1 5 (by decide), qCa_0 (by decide)]; exact hH.1.2.2.2.2.2
  · rw [B 4 r (by decide) (by decide) (by decide) (by decide), q 4 r (by decide) (by decide), qCa_0 (by decide)]; exact hH.2.1
  · rw [B 7 0 (by decide) (by decide) (by decide) (by decide), q 7 0 (by decide) (by decide), qCa_0 (by decide)]; exact hH.2.2
  · intro i a b
    rw [qCa_02] at b
    rw [qCa_1, qCa_0 (by decide)]
    by_cases y : i = Q.1 0 2
    · rw [if_pos y, y]
      exact ⟨by rw [slU_else (by omega), slU_else (by omega), slU_same], by rw [slU_else (by omega), slU_same]⟩
    · rw [if_neg y]
      have h := hC i a (by omega)
      exact ⟨by rw [slU_else (by omega), slU_else (by omega), slU_ne (by omega), slU_else (by omega), q 24 r (by decide) (by decide)]; exact h.1, by rw [slU_else (by omega), slU_ne (by omega), slU_else (by omega), slU_else (by omega), q 25 r (by decide) (by decide)]; exact h.2⟩
  · intro i a b
    have m0 := (mk_and (bar := 0) (g.2.2.2.2.2.2.2.1 c).1).1.mp oc.2
    have mi := M i a b
    rw [qCa_13, slU_else (by omega), slU_else (by omega), slU_else (by omega), B 50 0 (by decide) (by decide) (by decide) (by decide), mi]
    by_cases y : i = c
    · rw [if_pos y, y, slU_same, qU_y, m0]
      exact ⟨by decide, rfl⟩
    · rw [if_neg y, slU_ne (by omega), qU_i y, q 23 r (by decide) (by decide)]
      exact ⟨(hM i a b).1, rfl⟩
  · exact hL.c (qCa_0 (by decide)) (fun a i h1 h2 => qCa_r (by omega) (by omega) (by omega)) (fun a h1 h2 => by rw [B a r (by omega) (by omega) (by omega) (by omega), q a r (by omega) (by omega)]) (by rw [B 51 s (by decide) (by decide) (by decide) (by decide), q 51 s (by decide) (by decide)]) (by rw [B 52 s (by decide) (by decide) (by decide) (by decide), q 52 s (by decide) (by decide)])
  · exact hS.c (qCa_0 (by decide)) (fun i => qCa_r (by decide) (by decide) (by decide)) (fun i => qCa_r (by decide) (by decide) (by decide)) (by rw [B 53 s (by decide) (by decide) (by decide) (by decide), q 53 s (by decide) (by decide)]) (by rw [B 54 s (by decide) (by decide) (by decide) (by decide), q 54 s (by decide) (by decide)])
  · exact hF.c (qCa_0 (by decide)) (fun i => qCa_r (by decide) (by decide) (by decide)) (by rw [B 32 r (by decide) (by decide) (by decide) (by decide), q 32 r (by decide) (by decide)])
  · exact hW.c (qCa_0 (by decide)) rfl (by rw [B 4 r (by decide) (by decide) (by decide) (by decide), q 4 r (by decide) (by decide)]) (by rw [B 37 r (by decide) (by decide) (by decide) (by decide), q 37 r (by decide) (by decide)]) (by rw [B 38 r (by decide) (by decide) (by decide) (by decide), q 38 r (by decide) (by decide)]) (by omega)
