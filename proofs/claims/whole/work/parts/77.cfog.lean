/-! ===== fogs read by the class ===== -/
theorem foR_s {X : abX} {n : Nat} {Q : abV} {p : Int} : foR X (n + 1) Q p = if Q.1 0 5 = 8 then .inl (2, lxB X p) else rdB (pNu X 0 9 p) fun v p1 => if lxK X p1 = 3 then foR X n (qFo Q v) p1 else .inr (qFo Q v, p1) := rfl
/-- fogs are being read -/
def isFq (r s : Nat) (Q : abV) (p : Int) (σ : slM) : Prop := (σ 7 0 2 = r ∧ σ 7 0 3 = s ∧ σ 7 0 5 = 0) ∧ ((σ 1 r 0 = Q.1 0 0 ∧ σ 1 r 1 = Q.1 0 1 ∧ σ 1 r 2 = Q.1 0 2 ∧ σ 1 r 3 = Q.1 0 3 ∧ σ 1 r 4 = Q.1 0 4 ∧ σ 1 r 5 = Q.1 0 5) ∧ σ 4 r 4 = Q.1 0 6 ∧ σ 7 0 4 = 1) ∧ qCp r Q σ ∧ qMk r Q σ ∧ qLt r s Q σ ∧ qSp s Q σ ∧ qFg r Q σ ∧ qLw r Q p σ
theorem isFq.rq {r s : Nat} {Q : abV} {p : Int} {σ : slM} (h : isFq r s Q p σ) (h5 : 0 < Q.1 0 5) : isRq r s Q p σ := by
  obtain ⟨h1, h2, h3⟩ := h
  exact ⟨h1, ⟨h2.1, h2.2.1, by rw [if_pos h5]; exact h2.2.2⟩, h3⟩
set_option maxHeartbeats 1000000 in
set_option maxRecDepth 4000 in
theorem sp_X7_readFog {G : slG} (hG : slGood G) {d K : Nat} (hd : 24 ≤ d) (hK : 0 ≤ K) {Φ : slPost} {σ : slM}  {X : abX} {r s : Nat} {Q : abV} {p : Int} (hX : gdX X) (hp : 0 ≤ p ∧ p ≤ X.2) (hk : lxK X p ≠ 0) (g : gdR Q) (I : isRq r s Q p σ) (T : isTk X p σ) (O : rcO X r s (lnFo X Q p) p σ Φ) :
    slCall G mX7_readFog d K [sR 7 0] σ Φ := by
  refine vc_X7_readFog hG (by omega) hK (fun μ y1 σ' => ¬ 0 < Q.1 0 5 ∧ ∃ Q' p', rcF r s σ σ' ∧ isFq r s Q' p' σ' ∧ isTk X p' σ' ∧ gdR Q' ∧ (p < p' ∧ p' ≤ X.2) ∧ Q'.1 0 5 = y1 ∧ (0 ≤ y1 ∧ y1 ≤ 8) ∧ ((y1 = 0 ∨ lxK X p' = 3) ∧ rdB (foR X (8 - y1.toNat + 1) Q' p') (fun Q1 p1 => lnSg X p1 Q1) = lnFo X Q p ∨ 1 ≤ y1 ∧ lxK X p' ≠ 3 ∧ lnSg X p' Q' = lnFo X Q p) ∧ μ = ((9 - y1).toNat, 0, 0)) ?_ ?_
  · have e := lxE_p (X := X) hp.2
    have e0 := e.2.2 hk
    have g5 := g.2.2.2.2.2.1
    have h74 := I.2.1.2.2
    by_cases f5 : 0 < Q.1 0 5
    · rw [if_pos f5] at h74
      rw [h74]
      exact ⟨in1, fun z => absurd z (by decide), fun _ => sp_X7_refuse hG (by omega) (by omega) T (slKt.ok ⟨Or.inl rfl, O.e (k := 5) (q := lxB X p) (by unfold lnFo; rw [if_pos f5]) (by decide) rcF.id rcE.fl⟩)⟩
    · rw [if_neg f5] at h74
      rw [h74]
      refine ⟨in0, fun _ => ?_, fun z => absurd rfl z⟩
      have q : ∀ a i, a ≠ 7 → slU σ 7 0 4 1 a i = σ a i := fun a i h => slU_else (by omega)
      have T0 : isTk X p (slU σ 7 0 4 1) := T.c (q 9 0 (by decide)) (q 58 0 (by decide))
      refine sp_X9_next hG (by omega) (by omega) hX T0.1 ⟨by omega, e.2.1⟩ T0.2.2.1 (fun τ1 f1 T1 => slKt.ok ?_)
      have q1 : ∀ a i, a ≠ 9 → a ≠ 7 → τ1 a i = σ a i := fun a i x y => (f1 a i (by simp; omega)).trans (q a i y)
      have q7 : ∀ k, k ≠ 4 → τ1 7 0 k = σ 7 0 k := fun k x => by rw [f1 7 0 (by simp), slU_ne x]
      obtain ⟨h1, hH, hC, hM, hL, hS, hF, hW⟩ := I
      refine ⟨_, f5, Q, lxE X p, ⟨(slFr.id.up (by simp [rcL])).tr (f1.mono (by simp [rcL])), fun k x _ _ => q7 k x, fun x => by rw [q1 4 r (by decide) (by decide)]; exact x⟩, ⟨?_, ⟨?_, ?_, ?_⟩, ?_, ?_, ?_, ?_, ?_, ?_⟩, T1, g, ⟨e0, e.2.1⟩, by omega, ⟨by omega, by omega⟩, Or.inl ⟨Or.inl rfl, ?_⟩, rfl⟩
      · exact ⟨(q7 2 (by decide)).trans h1.1, (q7 3 (by decide)).trans h1.2.1, (q7 5 (by decide)).trans h1.2.2⟩
      · rw [q1 1 r (by decide) (by decide)]; exact hH.1
      · rw [q1 4 r (by decide) (by decide)]; exact hH.2.1
      · rw [f1 7 0 (by simp), slU_same]
      · exact hC.c rfl rfl (fun _ => rfl) (q1 24 r (by decide) (by decide)) (q1 25 r (by decide) (by decide))
      · exact hM.c (fun _ => rfl) (q1 23 r (by decide) (by decide)) (q1 50 0 (by decide) (by decide))
      · exact hL.c rfl (fun _ _ _ _ => rfl) (fun a x y => q1 a r (by omega) (by omega)) (q1 51 s (by decide) (by decide)) (q1 52 s (by decide) (by decide))
      · exact hS.c rfl (fun _ => rfl) (fun _ => rfl) (q1 53 s (by decide) (by decide)) (q1 54 s (by decide) (by decide))
      · exact hF.c rfl (fun _ => rfl) (q1 32 r (by decide) (by decide))
      · exact hW.c rfl rfl (by rw [q1 4 r (by decide) (by decide)]) (q1 37 r (by decide) (by decide)) (q1 38 r (by decide) (by decide)) (by omega)
      · unfold lnFo
        rw [if_neg f5]
        rfl
  · rintro μ y1 σ' ⟨f5, Q', p', F, I', T', g', hp', e5, hy, cs, rfl⟩
    have kr := lxK_r (X := X) (p := p')
    have sign : 1 ≤ y1 → lnSg X p' Q' = lnFo X Q p → slCall G mX7_readSign (d - 1) 0 [sR 7 0, sI 59] σ' (slKt (fun v17 τ18 => (v17 = 0 ∨ v17 = 1) ∧ Φ (0, v17) τ18) Φ) := fun y1 ee => by
      rw [← ee] at O
      exact sp_sg hG (by omega) hX ⟨by omega, hp'.2⟩ (by omega) g' F (I'.rq (by omega)) T' O
    suffices blk : y1 = 0 ∨ lxK X p' = 3 → _ from by
      refine ⟨⟨by omega, by omega⟩, fun z => by omega, fun z => ⟨⟨by omega, by omega⟩, fun y0 => blk (Or.inl y0), fun y0 => ?_⟩⟩
      rw [T'.2.2.2.1]
      refine ⟨⟨by omega, by omega⟩, fun n3 => ?_, fun k3 => blk (Or.inr k3)⟩
      rcases cs with z | z
      · exact absurd z.1 (by omega)
      · exact sign z.1 z.2.2
    intro rd
    have ef : rdB (foR X (8 - y1.toNat + 1) Q' p') (fun Q1 p1 => lnSg X p1 Q1) = lnFo X Q p := by
      rcases cs with z | z
      · exact z.2
      · exact absurd rd (by omega)
    rw [foR_s] at ef
    refine ⟨⟨by omega, by omega⟩, fun n8 => ?_, fun y8 => ?_⟩
    · rw [if_neg (by omega)] at ef
      refine sp_nu hG (by omega) hX ⟨by omega, hp'.2⟩ T' (by decide) (by decide) (fun k q ee hk τ E => slKt.ok ⟨⟨by decide, by decide⟩, fun z => absurd rfl z, fun _ => O.e (by rw [← ef, ee]; rfl) hk F E⟩) (fun v p2 ev v0 bv hp2 τ f T2 => slKt.ok ⟨⟨by omega, by omega⟩, fun _ => ⟨⟨by omega, by omega⟩, ?_⟩, fun z => by omega⟩)
      rw [ev, rdB_o] at ef
      have q : ∀ a i, a ≠ 9 → τ a i = σ' a i := fun a i x => f a i (by simp; omega)
      obtain ⟨h1, hH, hC, hM, hL, hS, hF, hW⟩ := I'
      rw [q 7 0 (by decide), h1.1, Int.toNat_natCast, slU_else (by omega), q 7 0 (by decide), h1.1, Int.toNat_natCast, slU_else (by omega), q 1 r (by decide), hH.1.2.2.2.2.2]
      have B : ∀ a i, a ≠ 9 → a ≠ 32 → a ≠ 1 → slU (slU τ 32 r y1.toNat v) 1 r 5 (Q'.1 0 5 + 1) a i = σ' a i := fun a i x y z => by
        rw [slU_else (by omega), slU_else (by omega), q a i x]
      have B1 : ∀ k, k ≠ 5 → slU (slU τ 32 r y1.toNat v) 1 r 5 (Q'.1 0 5 + 1) 1 r k = σ' 1 r k := fun k x => by
        rw [slU_ne x, slU_else (by omega), q 1 r (by decide)]
      have R : ∀ a i, a ≠ 0 → a ≠ 12 → (qFo Q' v).1 a i = Q'.1 a i := fun a i x y => qFo_r x y
      refine ⟨((9 - (y1 + 1)).toNat, 0, 0), Or.inl (by show (9 - (y1 + 1)).toNat < (9 - y1).toNat; omega), f5, qFo Q' v, p2, ((F.tr (rcF.of f (by simp [rcL]) (by simp))).up (by simp [rcL]) (by decide)).up (by simp [rcL]) (by decide), ⟨?_, ⟨⟨?_, ?_, ?_, ?_, ?_, ?_⟩, ?_, ?_⟩, ?_, ?_, ?_, ?_, ?_, ?_⟩, T2.c ?_ ?_, g'.fo (by omega) bv, ⟨by omega, hp2.2⟩, by rw [qFo_05]; omega, ⟨by omega, by omega⟩, ?_, rfl⟩
      · rw [B 7 0 (by decide) (by decide) (by decide)]; exact h1
      · rw [B1 0 (by decide), qFo_0 (by decide)]; exact hH.1.1
      · rw [B1 1 (by decide), qFo_0 (by decide)]; exact hH.1.2.1
      · rw [B1 2 (by decide), qFo_0 (by decide)]; exact hH.1.2.2.1
      · rw [B1 3 (by decide), qFo_0 (by decide)]; exact hH.1.2.2.2.1
      · rw [B1 4 (by decide), qFo_0 (by decide)]; exact hH.1.2.2.2.2.1
      · rw [slU_same, qFo_05]
      · rw [B 4 r (by decide) (by decide) (by decide), qFo_0 (by decide)]; exact hH.2.1
      · rw [B 7 0 (by decide) (by decide) (by decide)]; exact hH.2.2
      · exact hC.c (qFo_0 (by decide)) (qFo_0 (by decide)) (fun i => R 1 i (by decide) (by decide)) (B 24 r (by decide) (by decide) (by decide)) (B 25 r (by decide) (by decide) (by decide))
      · exact hM.c (fun i => R 13 i (by decide) (by decide)) (B 23 r (by decide) (by decide) (by decide)) (B 50 0 (by decide) (by decide) (by decide))
      · exact hL.c (qFo_0 (by decide)) (fun a i x y => R a i (by omega) (by omega)) (fun a x y => B a r (by omega) (by omega) (by omega)) (B 51 s (by decide) (by decide) (by decide)) (B 52 s (by decide) (by decide) (by decide))
      · exact hS.c (qFo_0 (by decide)) (fun i => R 10 i (by decide) (by decide)) (fun i => R 11 i (by decide) (by decide)) (B 53 s (by decide) (by decide) (by decide)) (B 54 s (by decide) (by decide) (by decide))
      · intro k a b
        rw [qFo_05] at b
        rw [qFo_12, slU_else (by omega)]
        by_cases y : k = Q'.1 0 5
        · rw [if_pos y, y, e5, slU_same]
        · rw [if_neg y, slU_ne (by omega), q 32 r (by decide)]
          exact hF k a (by omega)
      · exact hW.c (qFo_0 (by decide)) rfl (by rw [B 4 r (by decide) (by decide) (by decide)]) (B 37 r (by decide) (by decide) (by decide)) (B 38 r (by decide) (by decide) (by decide)) (by omega)
      · rw [slU_else (by omega), slU_else (by omega)]
      · rw [slU_else (by omega), slU_else (by omega)]
      · by_cases k3 : lxK X p2 = 3
        · rw [if_pos k3] at ef
          refine Or.inl ⟨Or.inr k3, ?_⟩
          rw [show 8 - (y1 + 1).toNat + 1 = 8 - y1.toNat by omega]
          exact ef
        · rw [if_neg k3, rdB_o] at ef
          exact Or.inr ⟨by omega, k3, ef⟩
    · rw [if_pos (by omega)] at ef
      exact sp_X7_refuse hG (by omega) (by omega) T' (slKt.ok ⟨Or.inl rfl, O.e (k := 2) (q := lxB X p') (by rw [← ef]; rfl) (by decide) F rcE.fl⟩)
