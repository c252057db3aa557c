/-! ===== lights read by the class ===== -/
theorem slU_fn {σ : slM} {a i k : Nat} {v : Int} : slU σ a i k v a i = fun j => if j = k then v else σ a i j := by
  funext j
  by_cases z : j = k
  · rw [if_pos z, z, slU_same]
  · rw [if_neg z, slU_ne z]
set_option maxHeartbeats 4000000 in
set_option maxRecDepth 4000 in
theorem sp_X7_readLight {G : slG} (hG : slGood G) {d K : Nat} (hd : 26 ≤ d) (hK : 0 ≤ K) {Φ : slPost} {σ : slM}  {X : abX} {r s : Nat} {Q : abV} {p : Int} (hX : gdX X) (hp : 0 ≤ p ∧ p ≤ X.2) (hk : lxK X p ≠ 0) (g : gdR Q) (I : isRq r s Q p σ) (T : isTk X p σ) (O : rcO X r s (lnLi X Q p) p σ Φ) :
    slCall G mX7_readLight d K [sR 7 0] σ Φ := by
  refine vc_X7_readLight hG (by omega) hK  ?_
  have e := lxE_p (X := X) hp.2
  have e0 := e.2.2 hk
  have g3 := g.2.2.2.1
  rw [I.1.1, Int.toNat_natCast, I.2.1.1.2.2.2.1]
  refine ⟨⟨by omega, by omega⟩, fun z => ?_, fun z => sp_X7_refuse hG (by omega) (by omega) T (slKt.ok ⟨Or.inl rfl, O.e (k := 2) (q := lxB X p) (by unfold lnLi; rw [if_pos (by omega)]) (by decide) rcF.id rcE.fl⟩)⟩
  unfold lnLi at O
  rw [if_neg (by omega)] at O
  refine sp_X9_next hG (by omega) (by omega) hX T.1 ⟨by omega, e.2.1⟩ T.2.2.1 (fun τ1 f1 T1 => slKt.ok ?_)
  have F1 : rcF r s σ τ1 := rcF.of f1 (by simp [rcL]) (by simp)
  have I1 := (I.nx f1).up (p' := lxE X p) (by omega)
  rw [I1.1.2.1, Int.toNat_natCast]
  have im : InR (-1) := ⟨by decide, by decide⟩
  refine sp_X7_readCell hG (by omega) (by omega) hX ⟨by omega, e.2.1⟩ T1 I1 g (Or.inr (Or.inl ⟨rfl, rfl⟩)) (fun k q ee hk τ E => slKt.ok ⟨⟨by omega, by omega⟩, ?_⟩) (fun c p1 ec cr hp1 τ f M T2 => slKt.ok ⟨⟨by omega, by omega⟩, ?_⟩)
  · rw [slU_else (by omega), E.2.2.1]
    have ik : InR k := ⟨by omega, by omega⟩
    refine ⟨ik, fun _ => ⟨ik, fun _ => ⟨ik, fun _ => ⟨ik, fun _ => ?_, fun z => by omega⟩, fun z => by omega⟩, fun z => by omega⟩, fun z => by omega⟩
    exact O.1 k q (by rw [ee]; rfl) hk _ ((F1.tr E.rc).up (by simp [rcL]) (by decide)) (by rw [slU_else (by omega)]; exact E.2.2.1) (by rw [slU_else (by omega)]; exact E.2.2.2)
  have F2 : rcF r s σ (slU τ 51 s (Q.1 0 3).toNat c) := (F1.tr (rcF.of f (by simp [rcL]) (by simp))).up (by simp [rcL]) (by decide)
  rw [ec, rdB_o] at O
  have oc := pCl_o g ec
  have q : ∀ a i, a ≠ 9 → a ≠ 50 → a ≠ 51 → slU τ 51 s (Q.1 0 3).toNat c a i = τ1 a i := fun a i h1 h2 h3 => by rw [slU_else (by omega), f a i (by simp; omega)]
  obtain ⟨h1, hH, hC, hM, hL, hS, hF, hW⟩ := I1
  have T3 : isTk X p1 (slU τ 51 s (Q.1 0 3).toNat c) := T2.c (slU_else (by omega)) (slU_else (by omega))
  have A51 : slU τ 51 s (Q.1 0 3).toNat c 51 s = fun j => if j = (Q.1 0 3).toNat then c else τ1 51 s j := by rw [slU_fn, f 51 s (by simp)]
  have M' : ∀ c' : Int, 0 ≤ c' → c' < 144 → slU τ 51 s (Q.1 0 3).toNat c 50 0 c'.toNat = (qU Q 13 c (Q.1 13 c + 2)).1 13 c' := fun c' a b => by rw [slU_else (by omega)]; exact M c' a b
  clear M
  generalize slU τ 51 s (Q.1 0 3).toNat c = υ at *
  rw [q 7 0 (by decide) (by decide) (by decide), h1.2.2, h1.1, h1.2.1, Int.toNat_natCast, Int.toNat_natCast]
  refine ⟨in0, fun z => absurd rfl z, fun _ => ?_⟩
  refine sp_nu hG (by omega) hX ⟨by omega, hp1.2⟩ T3 (by decide) (by decide) (fun k q' ee hk τ' E => slKt.ok ⟨⟨by omega, by omega⟩, ?_⟩) (fun re p2 er re0 bre hp2 τ2 f2 T4 => slKt.ok ⟨⟨by omega, by omega⟩, ?_⟩)
  · rw [slU_else (by omega), E.2.2.1]
    have ik : InR k := ⟨by omega, by omega⟩
    refine ⟨ik, fun _ => ⟨ik, fun _ => ⟨ik, fun _ => ?_, fun z => by omega⟩, fun z => by omega⟩, fun z => by omega⟩
    exact O.1 k q' (by rw [ee]; rfl) hk _ ((F2.tr E.rc).up (by simp [rcL]) (by decide)) (by rw [slU_else (by omega)]; exact E.2.2.1) (by rw [slU_else (by omega)]; exact E.2.2.2)
  rw [er, rdB_o] at O
  have F3 : rcF r s σ (slU τ2 26 r (Q.1 0 3).toNat re) := (F2.tr (rcF.of f2 (by simp [rcL]) (by simp))).up (by simp [rcL]) (by decide)
  have q2 : ∀ a i, a ≠ 9 → a ≠ 26 → slU τ2 26 r (Q.1 0 3).toNat re a i = υ a i := fun a i x y => by rw [slU_else (by omega), f2 a i (by simp; omega)]
  have T5 : isTk X p2 (slU τ2 26 r (Q.1 0 3).toNat re) := T4.c (slU_else (by omega)) (slU_else (by omega))
  have A26 : slU τ2 26 r (Q.1 0 3).toNat re 26 r = fun j => if j = (Q.1 0 3).toNat then re else τ1 26 r j := by rw [slU_fn, f2 26 r (by simp), q 26 r (by decide) (by decide) (by decide)]
  generalize slU τ2 26 r (Q.1 0 3).toNat re = υ2 at *
  rw [q2 7 0 (by decide) (by decide), q 7 0 (by decide) (by decide) (by decide), h1.2.2, h1.1, h1.2.1, Int.toNat_natCast, Int.toNat_natCast]
  refine ⟨in0, fun z => absurd rfl z, fun _ => ?_⟩
  refine sp_nu hG (by omega) hX ⟨by omega, hp2.2⟩ T5 (by decide) (by decide) (fun k q' ee hk τ' E => slKt.ok ⟨⟨by omega, by omega⟩, ?_⟩) (fun oi p3 eo oi0 boi hp3 τ3 f3 T6 => slKt.ok ⟨⟨by omega, by omega⟩, ?_⟩)
  · rw [slU_else (by omega), E.2.2.1]
    have ik : InR k := ⟨by omega, by omega⟩
    refine ⟨ik, fun _ => ⟨ik, fun _ => ?_, fun z => by omega⟩, fun z => by omega⟩
    exact O.1 k q' (by rw [ee]; rfl) hk _ ((F3.tr E.rc).up (by simp [rcL]) (by decide)) (by rw [slU_else (by omega)]; exact E.2.2.1) (by rw [slU_else (by omega)]; exact E.2.2.2)
  rw [eo, rdB_o] at O
  have F4 : rcF r s σ (slU τ3 52 s (Q.1 0 3).toNat oi) := (F3.tr (rcF.of f3 (by simp [rcL]) (by simp))).up (by simp [rcL]) (by decide)
  have q3 : ∀ a i, a ≠ 9 → a ≠ 52 → slU τ3 52 s (Q.1 0 3).toNat oi a i = υ2 a i := fun a i x y => by rw [slU_else (by omega), f3 a i (by simp; omega)]
  have T7 : isTk X p3 (slU τ3 52 s (Q.1 0 3).toNat oi) := T6.c (slU_else (by omega)) (slU_else (by omega))
  have A52 : slU τ3 52 s (Q.1 0 3).toNat oi 52 s = fun j => if j = (Q.1 0 3).toNat then oi else τ1 52 s j := by rw [slU_fn, f3 52 s (by simp), q2 52 s (by decide) (by decide), q 52 s (by decide) (by decide) (by decide)]
  generalize slU τ3 52 s (Q.1 0 3).toNat oi = υ3 at *
  rw [q3 7 0 (by decide) (by decide), q2 7 0 (by decide) (by decide), q 7 0 (by decide) (by decide) (by decide), h1.2.2, h1.1, Int.toNat_natCast]
  refine ⟨in0, fun z => absurd rfl z, fun _ => ?_⟩
  refine sp_nu hG (by omega) hX ⟨by omega, hp3.2⟩ T7 (by decide) (by decide) (fun k q' ee hk τ' E => slKt.ok ⟨⟨by omega, by omega⟩, ?_⟩) (fun ra p4 era ra0 bra hp4 τ4 f4 T8 => slKt.ok ⟨⟨by omega, by omega⟩, ?_⟩)
  · rw [slU_else (by omega), E.2.2.1]
    have ik : InR k := ⟨by omega, by omega⟩
    refine ⟨ik, fun _ => ?_, fun z => by omega⟩
    exact O.1 k q' (by rw [ee]; rfl) hk _ ((F4.tr E.rc).up (by simp [rcL]) (by decide)) (by rw [slU_else (by omega)]; exact E.2.2.1) (by rw [slU_else (by omega)]; exact E.2.2.2)
  rw [era, rdB_o] at O
  have F5 : rcF r s σ (slU τ4 27 r (Q.1 0 3).toNat ra) := (F4.tr (rcF.of f4 (by simp [rcL]) (by simp))).up (by simp [rcL]) (by decide)
  have q4 : ∀ a i, a ≠ 9 → a ≠ 27 → slU τ4 27 r (Q.1 0 3).toNat ra a i = υ3 a i := fun a i x y => by rw [slU_else (by omega), f4 a i (by simp; omega)]
  have T9 : isTk X p4 (slU τ4 27 r (Q.1 0 3).toNat ra) := T8.c (slU_else (by omega)) (slU_else (by omega))
  have A27 : slU τ4 27 r (Q.1 0 3).toNat ra 27 r = fun j => if j = (Q.1 0 3).toNat then ra else τ1 27 r j := by rw [slU_fn, f4 27 r (by simp), q3 27 r (by decide) (by decide), q2 27 r (by decide) (by decide), q 27 r (by decide) (by decide) (by decide)]
  have q4' : ∀ a i, a ≠ 9 → a ≠ 27 → a ≠ 52 → a ≠ 26 → a ≠ 50 → a ≠ 51 → slU τ4 27 r (Q.1 0 3).toNat ra a i = τ1 a i := fun a i x1 x2 x3 x4 x5 x6 => by rw [q4 a i x1 x2, q3 a i x1 x3, q2 a i x1 x4, q a i x1 x5 x6]
  generalize slU τ4 27 r (Q.1 0 3).toNat ra = υ4 at *
  rw [q4' 7 0 (by decide) (by decide) (by decide) (by decide) (by decide) (by decide), h1.2.2]
  refine ⟨in0, fun z => absurd rfl z, fun _ => ?_⟩
  refine sp_X7_readWay hG (by omega) (by omega) (r := r) hX ⟨by omega, hp4.2⟩ T9 (by rw [q4' 7 0 (by decide) (by decide) (by decide) (by decide) (by decide) (by decide)]; exact h1.1) ⟨by omega, by omega⟩ (fun k q' ee hk τ' E => slKt.ok ⟨in0, fun _ => O.e (by rw [ee]; rfl) hk F5 E, fun z => absurd rfl z⟩) (fun w p5 ew hp5 τ5 f5 c28 n28 c29 n29 T10 => slKt.ok ⟨in1, fun z => absurd z (by decide), fun _ => ?_⟩)
  rw [ew, rdB_o] at O
  have F6 : rcF r s σ τ5 := F5.tr (rcF.of f5 (by simp [rcL]) (by simp))
  have q5 : ∀ a i, a ≠ 9 → a ≠ 28 → a ≠ 29 → τ5 a i = υ4 a i := fun a i x y z => f5 a i (by simp; omega)
  have ow := pWo_o (by omega) ew
  refine sp_X7_readFlashes hG (by omega) (by omega) (r := r) hX ⟨by omega, hp5.2⟩ T10 (by rw [q5 7 0 (by decide) (by decide) (by decide), q4' 7 0 (by decide) (by decide) (by decide) (by decide) (by decide) (by decide)]; exact h1.1) ⟨by omega, by omega⟩ (fun k q' ee hk τ' E => slKt.ok ⟨in0, fun z => absurd rfl z, fun _ => O.e (by rw [ee]; rfl) hk F6 E⟩) (fun fl p6 efl hp6 τ6 f6 c30 n30 b31 c31 T11 => slKt.ok ⟨in1, fun _ => ?_, fun z => absurd z (by decide)⟩)
  rw [efl, rdB_o] at O
  have of := pWo_o (by omega) efl
  have F7 : rcF r s σ (slU τ6 1 r 3 (Q.1 0 3 + 1)) := (F6.tr (rcF.of f6 (by simp [rcL]) (by simp))).up (by simp [rcL]) (by decide)
  have q6 : ∀ a i, a ≠ 9 → a ≠ 30 → a ≠ 31 → τ6 a i = τ5 a i := fun a i x y z => f6 a i (by simp; omega)
  have q6' : ∀ a i, a ≠ 9 → a ≠ 26 → a ≠ 27 → a ≠ 28 → a ≠ 29 → a ≠ 30 → a ≠ 31 → a ≠ 50 → a ≠ 51 → a ≠ 52 → τ6 a i = τ1 a i := fun a i x1 x2 x3 x4 x5 x6 x7 x8 x9 x10 => by rw [q6 a i x1 x6 x7, q5 a i x1 x4 x5, q4' a i x1 x3 x10 x2 x8 x9]
  have D : ∀ a i, a ≠ 9 → a ≠ 26 → a ≠ 27 → a ≠ 28 → a ≠ 29 → a ≠ 30 → a ≠ 31 → a ≠ 50 → a ≠ 51 → a ≠ 52 → a ≠ 1 → slU τ6 1 r 3 (Q.1 0 3 + 1) a i = τ1 a i := fun a i x1 x2 x3 x4 x5 x6 x7 x8 x9 x10 x11 => by rw [slU_else (by omega), q6' a i x1 x2 x3 x4 x5 x6 x7 x8 x9 x10]
  have D1 : ∀ k, k ≠ 3 → slU τ6 1 r 3 (Q.1 0 3 + 1) 1 r k = τ1 1 r k := fun k x => by rw [slU_ne x, q6' 1 r (by decide) (by decide) (by decide) (by decide) (by decide) (by decide) (by decide) (by decide) (by decide) (by decide)]
  have Ds : ∀ a i, a ≠ 1 → slU τ6 1 r 3 (Q.1 0 3 + 1) a i = τ6 a i := fun a i x => slU_else (by omega)
  rw [q6' 7 0 (by decide) (by decide) (by decide) (by decide) (by decide) (by decide) (by decide) (by decide) (by decide) (by decide), h1.1, Int.toNat_natCast, q6' 1 r (by decide) (by decide) (by decide) (by decide) (by decide) (by decide) (by decide) (by decide) (by decide) (by decide), hH.1.2.2.2.1]
  have gq := g.li (X := X) (w := w) (f := fl) (by omega) oc.1 oc.2 bre boi bra ow.2.2.1 of.2.2.1 (fun k a b => by
    have := ow.2.1 k a (by rw [ow.2.2.2.1] at b; exact b)
    rw [ow.2.2.2.1]; exact this) (fun k a b => by
    have := of.2.1 k a (by rw [of.2.2.2.1] at b; exact b)
    rw [of.2.2.2.1]; exact this)
  have e51 : τ6 51 s = fun j => if j = (Q.1 0 3).toNat then c else τ1 51 s j := by rw [q6 51 s (by decide) (by decide) (by decide), q5 51 s (by decide) (by decide) (by decide), q4 51 s (by decide) (by decide), q3 51 s (by decide) (by decide), q2 51 s (by decide) (by decide), A51]
  have e26 : τ6 26 r = fun j => if j = (Q.1 0 3).toNat then re else τ1 26 r j := by rw [q6 26 r (by decide) (by decide) (by decide), q5 26 r (by decide) (by decide) (by decide), q4 26 r (by decide) (by decide), q3 26 r (by decide) (by decide), A26]
  have e52 : τ6 52 s = fun j => if j = (Q.1 0 3).toNat then oi else τ1 52 s j := by rw [q6 52 s (by decide) (by decide) (by decide), q5 52 s (by decide) (by decide) (by decide), q4 52 s (by decide) (by decide), A52]
  have e27 : τ6 27 r = fun j => if j = (Q.1 0 3).toNat then ra else τ1 27 r j := by rw [q6 27 r (by decide) (by decide) (by decide), q5 27 r (by decide) (by decide) (by decide), A27]
  have e50 : τ6 50 0 = υ 50 0 := by rw [q6 50 0 (by decide) (by decide) (by decide), q5 50 0 (by decide) (by decide) (by decide), q4 50 0 (by decide) (by decide), q3 50 0 (by decide) (by decide), q2 50 0 (by decide) (by decide)]
  have v28 : ∀ k, υ4 28 r k = τ1 28 r k := fun k => by rw [q4' 28 r (by decide) (by decide) (by decide) (by decide) (by decide) (by decide)]
  have v29 : ∀ k, υ4 29 r k = τ1 29 r k := fun k => by rw [q4' 29 r (by decide) (by decide) (by decide) (by decide) (by decide) (by decide)]
  have v30 : ∀ k, τ5 30 r k = τ1 30 r k := fun k => by rw [q5 30 r (by decide) (by decide) (by decide), q4' 30 r (by decide) (by decide) (by decide) (by decide) (by decide) (by decide)]
  have v31 : ∀ k, τ5 31 r k = τ1 31 r k := fun k => by rw [q5 31 r (by decide) (by decide) (by decide), q4' 31 r (by decide) (by decide) (by decide) (by decide) (by decide) (by decide)]
  refine sp_sg hG (by omega) hX ⟨by omega, hp6.2⟩ (by omega) gq F7 ⟨?_, ⟨⟨?_, ?_, ?_, ?_, ?_, ?_⟩, ?_, ?_⟩, ?_, ?_, ?_, ?_, ?_, ?_⟩ (T11.c (Ds 9 0 (by decide)) (Ds 58 0 (by decide))) O
  · rw [D 7 0 (by decide) (by decide) (by decide) (by decide) (by decide) (by decide) (by decide) (by decide) (by decide) (by decide) (by decide)]; exact h1
  · rw [D1 0 (by decide), qLi_0 (by decide)]; exact hH.1.1
  · rw [D1 1 (by decide), qLi_0 (by decide)]; exact hH.1.2.1
  · rw [D1 2 (by decide), qLi_0 (by decide)]; exact hH.1.2.2.1
  · rw [slU_same, qLi_03]
  · rw [D1 4 (by decide), qLi_0 (by decide)]; exact hH.1.2.2.2.2.1
  · rw [D1 5 (by decide), qLi_0 (by decide)]; exact hH.1.2.2.2.2.2
  · rw [D 4 r (by decide) (by decide) (by decide) (by decide) (by decide) (by decide) (by decide) (by decide) (by decide) (by decide) (by decide), qLi_0 (by decide)]; exact hH.2.1
  · rw [D 7 0 (by decide) (by decide) (by decide) (by decide) (by decide) (by decide) (by decide) (by decide) (by decide) (by decide) (by decide), qLi_0 (by decide)]; exact hH.2.2
  · exact hC.c (qLi_0 (by decide)) (qLi_0 (by decide)) (fun i => qLi_r (by decide)) (D 24 r (by decide) (by decide) (by decide) (by decide) (by decide) (by decide) (by decide) (by decide) (by decide) (by decide) (by decide)) (D 25 r (by decide) (by decide) (by decide) (by decide) (by decide) (by decide) (by decide) (by decide) (by decide) (by decide) (by decide))
  · intro i a b
    have m0 := (mk_and (bar := 0) (g.2.2.2.2.2.2.2.1 c).1).2.1.mp oc.2
    rw [qLi_13, D 23 r (by decide) (by decide) (by decide) (by decide) (by decide) (by decide) (by decide) (by decide) (by decide) (by decide) (by decide), Ds 50 0 (by decide), e50, M' i a b]
    by_cases y : i = c
    · rw [if_pos y, y, qU_y]
      exact ⟨by rw [(hM c cr.1 cr.2).1]; omega, rfl⟩
    · rw [if_neg y, qU_i y]
      exact ⟨(hM i a b).1, rfl⟩
  · intro l a b
    rw [qLi_03] at b
    rw [Ds 51 s (by decide), Ds 26 r (by decide), Ds 52 s (by decide), Ds 27 r (by decide), Ds 28 r (by decide), Ds 30 r (by decide), Ds 29 r (by decide), Ds 31 r (by decide), e51, e26, e52, e27, q6 28 r (by decide) (by decide) (by decide), q6 29 r (by decide) (by decide) (by decide), qLi_2, qLi_3, qLi_4, qLi_5, qLi_6, qLi_8]
    by_cases y : l = Q.1 0 3
    · rw [if_pos y, if_pos y, if_pos y, if_pos y, if_pos y, if_pos y, y]
      refine ⟨⟨if_pos rfl, if_pos rfl, if_pos rfl, if_pos rfl, c28, c30⟩, fun k a b => ?_, b31, fun k a b => ?_⟩
      · rw [c29 k a b, qLi_7, if_pos ⟨by omega, by omega⟩, show Q.1 0 3 * 12 + k - Q.1 0 3 * 12 = k by omega]
      · rw [c31 k a b, qLi_9, if_pos ⟨by omega, by omega⟩, show Q.1 0 3 * 6 + k - Q.1 0 3 * 6 = k by omega]
    · have h := hL l a (by omega)
      have nn : ¬ l.toNat = (Q.1 0 3).toNat := by omega
      have gl := g.2.2.2.2.2.2.2.2.2.1 l a (by omega)
      rw [if_neg y, if_neg y, if_neg y, if_neg y, if_neg y, if_neg y]
      refine ⟨⟨(if_neg nn).trans h.1.1, (if_neg nn).trans h.1.2.1, (if_neg nn).trans h.1.2.2.1, (if_neg nn).trans h.1.2.2.2.1, ?_, ?_⟩, fun k a b => ?_, ?_, fun k a b => ?_⟩
      · rw [n28 _ nn, v28]; exact h.1.2.2.2.2.1
      · rw [(n30 _ nn).1, v30]; exact h.1.2.2.2.2.2
      · rw [n29 _ (by omega), v29, qLi_7, if_neg (by omega)]; exact h.2.1 k a b
      · rw [(n30 _ nn).2, v31]; exact h.2.2.1
      · rw [(n30 _ nn).2, v31, qLi_9, if_neg (by omega)]; exact h.2.2.2 k a b
  · exact hS.c (qLi_0 (by decide)) (fun i => qLi_r (by decide)) (fun i => qLi_r (by decide)) (D 53 s (by decide) (by decide) (by decide) (by decide) (by decide) (by decide) (by decide) (by decide) (by decide) (by decide) (by decide)) (D 54 s (by decide) (by decide) (by decide) (by decide) (by decide) (by decide) (by decide) (by decide) (by decide) (by decide) (by decide))
  · exact hF.c (qLi_0 (by decide)) (fun i => qLi_r (by decide)) (D 32 r (by decide) (by decide) (by decide) (by decide) (by decide) (by decide) (by decide) (by decide) (by decide) (by decide) (by decide))
  · exact hW.c (qLi_0 (by decide)) rfl (by rw [D 4 r (by decide) (by decide) (by decide) (by decide) (by decide) (by decide) (by decide) (by decide) (by decide) (by decide) (by decide)]) (D 37 r (by decide) (by decide) (by decide) (by decide) (by decide) (by decide) (by decide) (by decide) (by decide) (by decide) (by decide)) (D 38 r (by decide) (by decide) (by decide) (by decide) (by decide) (by decide) (by decide) (by decide) (by decide) (by decide) (by decide)) (by omega)
