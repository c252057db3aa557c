/-! ===== a line read by the model ===== -/
set_option maxHeartbeats 4000000 in
set_option maxRecDepth 4000 in
theorem sp_X12_line {G : slG} (hG : slGood G) {d K : Nat} (hd : 20 ≤ d) (hK : 0 ≤ K) {Φ : slPost} {σ : slM}  {X : abX} {Q : abV} {p : Int} (hX : gdX X) (hp : 0 ≤ p ∧ p ≤ X.2) (hk : lxK X p ≠ 0) (gq : gdR Q) (I : isMq Q p σ) (T : isTm X p σ) (g : σ 12 0 21 = 0) (O : mcO X (lnLine X Q p) p σ Φ) :
    slCall G mX12_line d K [sR 12 0] σ Φ := by
  refine vc_X12_line hG (by omega) hK  ?_
  have e := lxE_p (X := X) hp.2
  have e0 := e.2.2 hk
  have wr := lxW_r (X := X) (p := p)
  have iw : InR (lxW X p) := ⟨by omega, by omega⟩
  have g2 := gq.2.2.1
  have g4 := gq.2.2.2.2.1
  have g6 := gq.2.2.2.2.2.2.1
  unfold lnLine at O
  refine sp_X12_knownWord hG (by omega) (by omega) hX hp T (slKt.ok ⟨iw, fun n7 => ⟨iw, fun n2 => ⟨iw, fun n8 => ⟨iw, fun n9 => ⟨iw, fun n10 => ?_, fun y10 => ?_⟩, fun y9 => ?_⟩, fun y8 => ?_⟩, fun y2 => ?_⟩, fun y7 => ?_⟩)
  · rw [if_neg n7, if_neg n2, if_neg n8, if_neg n9, if_neg n10] at O
    have B : mBad 1 (lxB X p) (mWr 1 (lxB X p) σ) := mBad.of T (by decide)
    exact sp_X12_wrong hG (by omega) (by omega) g T.2.2.2.1 (slKt.ok (sp_ndf hG (by omega) B (O.1 1 _ rfl _ mRF.id.w B)))
  · rw [if_neg n7, if_neg n2, if_neg n8, if_neg n9, if_pos y10] at O
    unfold lnLa at O
    rw [I.1.2.2.2.2.2.2]
    refine ⟨⟨by omega, by omega⟩, fun n3 => ?_, fun y3 => ?_⟩
    rotate_left
    · rw [if_pos (by omega)] at O
      have B : mBad 2 (lxB X p) (mWr 2 (lxB X p) σ) := mBad.of T (by decide)
      exact sp_X12_wrong hG (by omega) (by omega) g T.2.2.2.1 (slKt.ok (sp_bb hG B (slKt.ok ⟨in0, fun z => absurd rfl z, fun _ => O.1 2 _ rfl _ mRF.id.w B⟩)))
    rw [if_neg (by omega)] at O
    refine sp_good hG g (slKt.ok ⟨in1, fun _ => ?_, fun z => absurd z (by decide)⟩)
    refine sp_X12_goes hG (by omega) (by omega) hX T.1 ⟨by omega, e.2.1⟩ T.2.1 (fun τ1 f1 T1 => slKt.ok ?_)
    have F1 : mRF σ τ1 := mRF.of f1 (by decide) (by decide)
    have g1 : τ1 12 0 21 = 0 := (f1.2 21 (by decide)).trans g
    have b39 : 0 ≤ τ1 12 0 39 ∧ τ1 12 0 39 ≤ 2 * p ∧ τ1 12 0 22 = -1 := by
      rw [f1.2 39 (by decide), f1.2 22 (by decide)]
      exact I.2.2.2.2.2.2.1
    obtain ⟨hH, hC, hM, hL, hS, hF, hW⟩ := I.nx gq f1 (p' := lxE X p) (by omega)
    have x38 : slU τ1 83 0 (Q.1 0 6).toNat (τ1 12 0 39) 12 0 38 = Q.1 0 6 := by rw [slU_else (by decide)]; exact hH.2.2.2.2.2.2
    rw [hH.2.2.2.2.2.2, x38]
    refine ⟨⟨by omega, by omega⟩, ?_⟩
    have F2 : mRF σ (slU (slU τ1 83 0 (Q.1 0 6).toNat (τ1 12 0 39)) 12 0 38 (Q.1 0 6 + 1)) := (F1.u (by decide)).k (by decide)
    have D : ∀ a, a ≠ 12 → a ≠ 83 → slU (slU τ1 83 0 (Q.1 0 6).toNat (τ1 12 0 39)) 12 0 38 (Q.1 0 6 + 1) a 0 = τ1 a 0 := fun a x y => by rw [slU_else (by omega), slU_else (by omega)]
    have Dk : ∀ k, k ≠ 38 → slU (slU τ1 83 0 (Q.1 0 6).toNat (τ1 12 0 39)) 12 0 38 (Q.1 0 6 + 1) 12 0 k = τ1 12 0 k := fun k x => by rw [slU_ne x, slU_else (by decide)]
    have D38 : slU (slU τ1 83 0 (Q.1 0 6).toNat (τ1 12 0 39)) 12 0 38 (Q.1 0 6 + 1) 12 0 38 = Q.1 0 6 + 1 := slU_same _ _ _ _ _
    have D83 : slU (slU τ1 83 0 (Q.1 0 6).toNat (τ1 12 0 39)) 12 0 38 (Q.1 0 6 + 1) 83 0 = fun j => if j = (Q.1 0 6).toNat then τ1 12 0 39 else τ1 83 0 j := by rw [slU_else (by decide), slU_fn]
    generalize slU (slU τ1 83 0 (Q.1 0 6).toNat (τ1 12 0 39)) 12 0 38 (Q.1 0 6 + 1) = υ at *
    have fe : ∀ {τ : slM}, mEF υ τ → mRF υ τ := fun f => mRF.of f.1 (by decide) (by decide)
    refine sp_X12_expression hG (by omega) (by omega) hX ⟨by omega, e.2.1⟩ (T1.c (fun k x y => Dk k (by omega)) (D 72 (by decide) (by decide))) ((Dk 21 (by decide)).trans g1) ((Dk 22 (by decide)).trans b39.2.2) (by rw [Dk 39 (by decide)]; omega) (fun τ k q f re Fa => slKt.ok ?_) (fun τ p' o' f re T2 t21 t22 hp' cd cz ct => slKt.ok ?_)
    · have ev := exV_eq re (by show 2 ≤ 3; decide)
      rw [ev] at O
      exact sp_ndf hG (by omega) Fa.bad (O.1 k q (if_pos rfl) τ (F2.tr (fe f)) Fa.bad)
    · have ev := exV_eq re (by show 2 ≤ 2; decide)
      rw [ev, if_neg (by show ¬ (2 : Nat) = 3; decide)] at O
      rw [Dk 39 (by decide)] at cd ct
      have q : ∀ a, a ≠ 12 → a ≠ 85 → a ≠ 86 → a ≠ 87 → τ a 0 = υ a 0 := fun a x1 x2 x3 x4 => f.1.1 a 0 x1 (by simp; omega)
      have qk : ∀ k, 32 ≤ k → k ≤ 38 → τ 12 0 k = υ 12 0 k := fun k x y => f.1.2 k (by simp; omega)
      have R : ∀ a i, a ≠ 0 → (qLa Q o').1 a i = Q.1 a i := fun a i x => if_neg (fun z => x z.1)
      have R0 : ∀ i, i ≠ 6 → (qLa Q o').1 0 i = Q.1 0 i := fun i x => if_neg (fun z => x z.2)
      have R6 : (qLa Q o').1 0 6 = Q.1 0 6 + 1 := by simp [qLa]
      refine sp_nd hG (by omega) hX ⟨by omega, hp'.2⟩ (by omega) (gq.la (o := o') (by omega)) (F2.tr (fe f)) ⟨⟨?_, ?_, ?_, ?_, ?_, ?_, ?_⟩, ?_, ?_, ?_, ?_, ?_, ⟨⟨by omega, ct.2, t22⟩, fun k a b => ?_⟩⟩ T2 t21 O
      · rw [qk 32 (by decide) (by decide), Dk 32 (by decide), R0 0 (by decide)]; exact hH.1
      · rw [qk 33 (by decide) (by decide), Dk 33 (by decide), R0 1 (by decide)]; exact hH.2.1
      · rw [qk 34 (by decide) (by decide), Dk 34 (by decide), R0 2 (by decide)]; exact hH.2.2.1
      · rw [qk 35 (by decide) (by decide), Dk 35 (by decide), R0 3 (by decide)]; exact hH.2.2.2.1
      · rw [qk 36 (by decide) (by decide), Dk 36 (by decide), R0 4 (by decide)]; exact hH.2.2.2.2.1
      · rw [qk 37 (by decide) (by decide), Dk 37 (by decide), R0 5 (by decide)]; exact hH.2.2.2.2.2.1
      · rw [qk 38 (by decide) (by decide), D38, R6]
      · exact hC.c (R0 2 (by decide)) (fun i => R 1 i (by decide)) ((q 75 (by decide) (by decide) (by decide) (by decide)).trans (D 75 (by decide) (by decide)))
      · exact hM.c (fun i => R 13 i (by decide)) ((q 74 (by decide) (by decide) (by decide) (by decide)).trans (D 74 (by decide) (by decide)))
      · exact hL.c gq.2.2.2.1.2 (R0 3 (by decide)) (fun a i x y => R a i (by omega)) (fun a x y => (q a (by omega) (by omega) (by omega) (by omega)).trans (D a (by omega) (by omega))) (fun j _ => by rw [q 84 (by decide) (by decide) (by decide) (by decide), D 84 (by decide) (by decide)])
      · exact hS.c gq.2.2.2.2.1.2 (R0 4 (by decide)) (fun i => R 10 i (by decide)) (fun i => R 11 i (by decide)) (fun j _ => by rw [q 84 (by decide) (by decide) (by decide) (by decide), D 84 (by decide) (by decide)])
      · exact hF.c (R0 5 (by decide)) (fun i => R 12 i (by decide)) ((q 82 (by decide) (by decide) (by decide) (by decide)).trans (D 82 (by decide) (by decide)))
      · rw [R6] at b
        rw [q 83 (by decide) (by decide) (by decide) (by decide), D83]
        by_cases y : k = Q.1 0 6
        · have ql : (qLa Q o').2 k.toNat = o' := if_pos (by omega)
          have e83 : (fun j : Nat => if j = (Q.1 0 6).toNat then τ1 12 0 39 else τ1 83 0 j) k.toNat = τ1 12 0 39 := if_pos (by rw [y])
          rw [ql, e83]
          exact ⟨b39.1, _, cd, cz, by omega⟩
        · have ql : (qLa Q o').2 k.toNat = Q.2 k.toNat := if_neg (by omega)
          obtain ⟨h1, bb, h2, h3, h4⟩ := hW.2 k a (by omega)
          have e83 : (fun j : Nat => if j = (Q.1 0 6).toNat then τ1 12 0 39 else τ1 83 0 j) k.toNat = τ1 83 0 k.toNat := if_neg (by omega)
          rw [ql, e83]
          have e85 : ∀ j : Nat, (j : Int) < τ1 12 0 39 → τ 85 0 j = τ1 85 0 j := fun j hj => by rw [f.2.1 j (by rw [Dk 39 (by decide)]; exact hj), D 85 (by decide) (by decide)]
          exact ⟨h1, bb, h2.c (fun j x y => e85 j (by omega)), by rw [e85 bb h4]; exact h3, by omega⟩
  · rw [if_neg n7, if_neg n2, if_neg n8, if_pos y9] at O
    exact sp_X12_readsFogs hG (by omega) (by omega) hX hp hk gq I T g (fun k q ee τ f B => slKt.ok (sp_ndf hG (by omega) B (O.1 k q ee τ f B))) (fun Q' p' ee hp' g' τ f I' T' t21 => slKt.ok (sp_nd hG (by omega) (p0 := p) hX ⟨by omega, hp'.2⟩ (by omega) g' f I' T' t21 (by rw [← ee]; exact O)))
  · rw [if_neg n7, if_neg n2, if_pos y8] at O
    unfold lnSh at O
    rw [I.1.2.2.2.2.1]
    refine ⟨⟨by omega, by omega⟩, fun n3 => ?_, fun y3 => ?_⟩
    rotate_left
    · rw [if_pos (by omega)] at O
      have B : mBad 2 (lxB X p) (mWr 2 (lxB X p) σ) := mBad.of T (by decide)
      exact sp_X12_wrong hG (by omega) (by omega) g T.2.2.2.1 (slKt.ok (sp_bb hG B (slKt.ok ⟨in0, fun z => absurd rfl z, fun _ => O.1 2 _ rfl _ mRF.id.w B⟩)))
    rw [if_neg (by omega)] at O
    refine sp_good hG g (slKt.ok ⟨in1, fun _ => ?_, fun z => absurd z (by decide)⟩)
    refine sp_X12_goes hG (by omega) (by omega) hX T.1 ⟨by omega, e.2.1⟩ T.2.1 (fun τ1 f1 T1 => slKt.ok ?_)
    have F1 : mRF σ τ1 := mRF.of f1 (by decide) (by decide)
    have g1 : τ1 12 0 21 = 0 := (f1.2 21 (by decide)).trans g
    obtain ⟨hH, hC, hM, hL, hS, hF, hW⟩ := I.nx gq f1 (p' := lxE X p) (by omega)
    refine sp_X12_cellNext hG (by omega) (by omega) hX ⟨by omega, e.2.1⟩ T1 g1 gq hH.1 hH.2.1 hM (fun k q ee hk τ v f B => slKt.ok ?_) (fun c p1 ec cr hp1 τ2 f2 T2 => slKt.ok ?_)
    · have F := F1.tr (mRF.of f (by decide) (by decide))
      rw [f.2 36 (by decide), hH.2.2.2.2.1]
      exact sp_nuf hG (by omega) B (slKt.ok ⟨⟨by omega, by omega⟩, sp_bb hG (B.u (by decide)) (slKt.ok ⟨in0, fun z => absurd rfl z, fun _ => O.1 k q (by rw [ee]; rfl) _ (F.u (by decide)) (B.u (by decide))⟩)⟩)
    have oc := pCl_o gq ec
    rw [ec, rdB_o] at O
    have F2 : mRF σ τ2 := F1.tr (mRF.of f2 (by decide) (by decide))
    have g2 : τ2 12 0 21 = 0 := (f2.2 21 (by decide)).trans g1
    rw [f2.2 36 (by decide), hH.2.2.2.2.1]
    refine sp_X12_number hG (by omega) (by omega) hX ⟨by omega, hp1.2⟩ T2 g2 (by decide) (by decide) (by decide) (fun k q ee hk B => slKt.ok ?_) (fun wa p2 ew bw hp2 τ3 f3 T3 => slKt.ok ⟨⟨by omega, by omega⟩, ?_⟩)
    · exact ⟨⟨by omega, by omega⟩, sp_bb hG (B.u (by decide)) (slKt.ok ⟨in0, fun z => absurd rfl z, fun _ => O.1 k q (by rw [ee]; rfl) _ (F2.w.u (by decide)) (B.u (by decide))⟩)⟩
    rw [ew, rdB_o] at O
    have q3 : ∀ a, a ≠ 12 → a ≠ 84 → slU τ3 84 0 (19 + Q.1 0 4).toNat wa a 0 = τ1 a 0 := fun a x y => by rw [slU_else (by omega), f3.1 a 0 x (by simp), f2.1 a 0 x (by simp)]
    have k3 : ∀ k, k ∉ [25, 26, 27, 28, 29, 30, 31] → slU τ3 84 0 (19 + Q.1 0 4).toNat wa 12 0 k = τ1 12 0 k := fun k x => by rw [slU_else (by decide), f3.2 k x, f2.2 k x]
    have A84 : slU τ3 84 0 (19 + Q.1 0 4).toNat wa 84 0 = fun j => if j = (19 + Q.1 0 4).toNat then wa else τ1 84 0 j := by rw [slU_fn, f3.1 84 0 (by decide) (by simp), f2.1 84 0 (by decide) (by simp)]
    have F3 : mRF σ (slU τ3 84 0 (19 + Q.1 0 4).toNat wa) := (F2.tr (mRF.of f3 (by decide) (by decide))).u (by decide)
    have T3' : isTm X p2 (slU τ3 84 0 (19 + Q.1 0 4).toNat wa) := T3.c (fun k _ _ => by rw [slU_else (by decide)]) (by rw [slU_else (by decide)])
    generalize slU τ3 84 0 (19 + Q.1 0 4).toNat wa = υ at *
    refine sp_good hG ((k3 21 (by decide)).trans g1) (slKt.ok ⟨in1, fun _ => ?_, fun z => absurd z (by decide)⟩)
    have m := (gq.2.2.2.2.2.2.2.1 c).1
    rw [k3 36 (by decide), hH.2.2.2.2.1]
    refine ⟨⟨by omega, by omega⟩, cr, cr, ?_⟩
    have x74 : slU υ 84 0 (5 + Q.1 0 4).toNat c 74 0 c.toNat = Q.1 13 c := by rw [slU_else (by decide), q3 74 (by decide) (by decide)]; exact hM c cr.1 cr.2
    rw [x74, (mk_or m).2.2 ((mk_and (bar := 0) m).2.2.1.mp oc.2).2]
    have x36 : slU (slU υ 84 0 (5 + Q.1 0 4).toNat c) 74 0 c.toNat (Q.1 13 c + 4) 12 0 36 = Q.1 0 4 := by rw [slU_else (by decide), slU_else (by decide), k3 36 (by decide)]; exact hH.2.2.2.2.1
    rw [x36]
    have D : ∀ a, a ≠ 12 → a ≠ 84 → a ≠ 74 → slU (slU (slU υ 84 0 (5 + Q.1 0 4).toNat c) 74 0 c.toNat (Q.1 13 c + 4)) 12 0 36 (Q.1 0 4 + 1) a 0 = τ1 a 0 := fun a x y z => by rw [slU_else (by omega), slU_else (by omega), slU_else (by omega), q3 a x y]
    have Dk : ∀ k, k ≠ 36 → slU (slU (slU υ 84 0 (5 + Q.1 0 4).toNat c) 74 0 c.toNat (Q.1 13 c + 4)) 12 0 36 (Q.1 0 4 + 1) 12 0 k = υ 12 0 k := fun k x => by rw [slU_ne x, slU_else (by decide), slU_else (by decide)]
    have D84 : ∀ j, slU (slU (slU υ 84 0 (5 + Q.1 0 4).toNat c) 74 0 c.toNat (Q.1 13 c + 4)) 12 0 36 (Q.1 0 4 + 1) 84 0 j = if j = (5 + Q.1 0 4).toNat then c else if j = (19 + Q.1 0 4).toNat then wa else τ1 84 0 j := fun j => by
      rw [slU_else (by decide), slU_else (by decide), slU_fn, A84]
    refine sp_nd hG (by omega) hX ⟨by omega, hp2.2⟩ (by omega) (gq.sh (wa := wa) (by omega) oc.1 oc.2 bw) (((F3.u (by decide)).u (by decide)).k (by decide)) ⟨⟨?_, ?_, ?_, ?_, ?_, ?_, ?_⟩, ?_, ?_, ?_, ?_, ?_, ?_⟩ (T3'.c (fun k x y => Dk k (by omega)) (by rw [slU_else (by decide), slU_else (by decide), slU_else (by decide)])) ((Dk 21 (by decide)).trans ((k3 21 (by decide)).trans g1)) O
    · rw [Dk 32 (by decide), k3 32 (by decide), qSh_0 (by decide)]; exact hH.1
    · rw [Dk 33 (by decide), k3 33 (by decide), qSh_0 (by decide)]; exact hH.2.1
    · rw [Dk 34 (by decide), k3 34 (by decide), qSh_0 (by decide)]; exact hH.2.2.1
    · rw [Dk 35 (by decide), k3 35 (by decide), qSh_0 (by decide)]; exact hH.2.2.2.1
    · rw [slU_same, qSh_04]
    · rw [Dk 37 (by decide), k3 37 (by decide), qSh_0 (by decide)]; exact hH.2.2.2.2.2.1
    · rw [Dk 38 (by decide), k3 38 (by decide), qSh_0 (by decide)]; exact hH.2.2.2.2.2.2
    · exact hC.c (qSh_0 (by decide)) (fun i => qSh_r (by decide) (by decide) (by decide) (by decide)) (D 75 (by decide) (by decide) (by decide))
    · intro i a b
      rw [qSh_13, slU_else (by decide)]
      by_cases y : i = c
      · rw [if_pos y, y, slU_same]
      · rw [if_neg y, slU_ne (by omega), slU_else (by decide), q3 74 (by decide) (by decide)]
        exact hM i a b
    · exact hL.c gq.2.2.2.1.2 (qSh_0 (by decide)) (fun a i x y => qSh_r (by omega) (by omega) (by omega) (by omega)) (fun a x y => D a (by omega) (by omega) (by omega)) (fun j hj => by rw [D84, if_neg (by omega), if_neg (by omega)])
    · intro l a b
      rw [qSh_04] at b
      rw [D84, D84, qSh_10, qSh_11]
      by_cases y : l = Q.1 0 4
      · rw [if_pos y, if_pos y, y]
        exact ⟨if_pos rfl, by rw [if_neg (by omega), if_pos rfl]⟩
      · have h := hS l a (by omega)
        rw [if_neg y, if_neg y]
        exact ⟨by rw [if_neg (by omega), if_neg (by omega)]; exact h.1, by rw [if_neg (by omega), if_neg (by omega)]; exact h.2⟩
    · exact hF.c (qSh_0 (by decide)) (fun i => qSh_r (by decide) (by decide) (by decide) (by decide)) (D 82 (by decide) (by decide) (by decide))
    · exact hW.c (qSh_0 (by decide)) rfl ((Dk 39 (by decide)).trans (k3 39 (by decide))) ((Dk 22 (by decide)).trans (k3 22 (by decide))) (D 83 (by decide) (by decide) (by decide)) (D 85 (by decide) (by decide) (by decide)) (by omega)
  · rw [if_neg n7, if_pos y2] at O
    exact sp_X12_readsLight hG (by omega) (by omega) hX hp hk gq I T g (fun k q ee τ f B => slKt.ok (sp_ndf hG (by omega) B (O.1 k q ee τ f B))) (fun Q' p' ee hp' g' τ f I' T' t21 => slKt.ok (sp_nd hG (by omega) (p0 := p) hX ⟨by omega, hp'.2⟩ (by omega) g' f I' T' t21 (by rw [← ee]; exact O)))
  · rw [if_pos y7] at O
    unfold lnCa at O
    rw [I.1.2.2.1]
    refine ⟨⟨by omega, by omega⟩, fun n3 => ?_, fun y3 => ?_⟩
    rotate_left
    · rw [if_pos (by omega)] at O
      have B : mBad 2 (lxB X p) (mWr 2 (lxB X p) σ) := mBad.of T (by decide)
      exact sp_X12_wrong hG (by omega) (by omega) g T.2.2.2.1 (slKt.ok (sp_bb hG B (slKt.ok ⟨in0, fun z => absurd rfl z, fun _ => O.1 2 _ rfl _ mRF.id.w B⟩)))
    rw [if_neg (by omega)] at O
    refine sp_good hG g (slKt.ok ⟨in1, fun _ => ?_, fun z => absurd z (by decide)⟩)
    refine sp_X12_goes hG (by omega) (by omega) hX T.1 ⟨by omega, e.2.1⟩ T.2.1 (fun τ1 f1 T1 => slKt.ok ?_)
    have F1 : mRF σ τ1 := mRF.of f1 (by decide) (by decide)
    have g1 : τ1 12 0 21 = 0 := (f1.2 21 (by decide)).trans g
    obtain ⟨hH, hC, hM, hL, hS, hF, hW⟩ := I.nx gq f1 (p' := lxE X p) (by omega)
    refine sp_X12_cellNext hG (by omega) (by omega) hX ⟨by omega, e.2.1⟩ T1 g1 gq hH.1 hH.2.1 hM (fun k q ee hk τ v f B => slKt.ok ?_) (fun c p1 ec cr hp1 τ2 f2 T2 => slKt.ok ?_)
    · have F := F1.tr (mRF.of f (by decide) (by decide))
      exact sp_bb hG B (slKt.ok ⟨in0, fun z => absurd rfl z, fun _ => O.1 k q (by rw [ee]; rfl) _ F B⟩)
    have oc := pCl_o gq ec
    rw [ec, rdB_o] at O
    have F2 : mRF σ τ2 := F1.tr (mRF.of f2 (by decide) (by decide))
    have g2' : τ2 12 0 21 = 0 := (f2.2 21 (by decide)).trans g1
    refine sp_good hG g2' (slKt.ok ⟨in1, fun _ => ⟨cr, cr, ?_⟩, fun z => absurd z (by decide)⟩)
    have m := (gq.2.2.2.2.2.2.2.1 c).1
    rw [f2.1 74 0 (by decide) (by simp), hM c cr.1 cr.2, (mk_or m).1 ((mk_and (bar := 0) m).1.mp oc.2)]
    have x34 : slU τ2 74 0 c.toNat (Q.1 13 c + 1) 12 0 34 = Q.1 0 2 := by rw [slU_else (by decide), f2.2 34 (by decide)]; exact hH.2.2.1
    rw [x34]
    have y34 : slU (slU τ2 74 0 c.toNat (Q.1 13 c + 1)) 75 0 (Q.1 0 2).toNat c 12 0 34 = Q.1 0 2 := by rw [slU_else (by decide)]; exact x34
    rw [y34]
    refine ⟨⟨by omega, by omega⟩, ?_⟩
    have D : ∀ a, a ≠ 12 → a ≠ 75 → a ≠ 74 → slU (slU (slU τ2 74 0 c.toNat (Q.1 13 c + 1)) 75 0 (Q.1 0 2).toNat c) 12 0 34 (Q.1 0 2 + 1) a 0 = τ1 a 0 := fun a x y z => by rw [slU_else (by omega), slU_else (by omega), slU_else (by omega), f2.1 a 0 x (by simp)]
    have Dk : ∀ k, k ≠ 34 → slU (slU (slU τ2 74 0 c.toNat (Q.1 13 c + 1)) 75 0 (Q.1 0 2).toNat c) 12 0 34 (Q.1 0 2 + 1) 12 0 k = τ2 12 0 k := fun k x => by rw [slU_ne x, slU_else (by decide), slU_else (by decide)]
    refine sp_nd hG (by omega) hX ⟨by omega, hp1.2⟩ (by omega) (gq.ca (by omega) oc.1 oc.2) (((F2.u (by decide)).u (by decide)).k (by decide)) ⟨⟨?_, ?_, ?_, ?_, ?_, ?_, ?_⟩, ?_, ?_, ?_, ?_, ?_, ?_⟩ (T2.c (fun k x y => Dk k (by omega)) (by rw [slU_else (by decide), slU_else (by decide), slU_else (by decide)])) ((Dk 21 (by decide)).trans g2') O
    · rw [Dk 32 (by decide), f2.2 32 (by decide), qCa_0 (by decide)]; exact hH.1
    · rw [Dk 33 (by decide), f2.2 33 (by decide), qCa_0 (by decide)]; exact hH.2.1
    · rw [slU_same, qCa_02]
    · rw [Dk 35 (by decide), f2.2 35 (by decide), qCa_0 (by decide)]; exact hH.2.2.2.1
    · rw [Dk 36 (by decide), f2.2 36 (by decide), qCa_0 (by decide)]; exact hH.2.2.2.2.1
    · rw [Dk 37 (by decide), f2.2 37 (by decide), qCa_0 (by decide)]; exact hH.2.2.2.2.2.1
    · rw [Dk 38 (by decide), f2.2 38 (by decide), qCa_0 (by decide)]; exact hH.2.2.2.2.2.2
    · intro i a b
      rw [qCa_02] at b
      rw [qCa_1, slU_else (by decide)]
      by_cases y : i = Q.1 0 2
      · rw [if_pos y, y, slU_same]
      · rw [if_neg y, slU_ne (by omega), slU_else (by decide), f2.1 75 0 (by decide) (by simp)]
        exact hC i a (by omega)
    · intro i a b
      rw [qCa_13, slU_else (by decide), slU_else (by decide)]
      by_cases y : i = c
      · rw [if_pos y, y, slU_same]
      · rw [if_neg y, slU_ne (by omega), f2.1 74 0 (by decide) (by simp)]
        exact hM i a b
    · exact hL.c gq.2.2.2.1.2 (qCa_0 (by decide)) (fun a i x y => qCa_r (by omega) (by omega) (by omega)) (fun a x y => D a (by omega) (by omega) (by omega)) (fun j hj => by rw [D 84 (by decide) (by decide) (by decide)])
    · exact hS.c gq.2.2.2.2.1.2 (qCa_0 (by decide)) (fun i => qCa_r (by decide) (by decide) (by decide)) (fun i => qCa_r (by decide) (by decide) (by decide)) (fun j hj => by rw [D 84 (by decide) (by decide) (by decide)])
    · exact hF.c (qCa_0 (by decide)) (fun i => qCa_r (by decide) (by decide) (by decide)) (D 82 (by decide) (by decide) (by decide))
    · exact hW.c (qCa_0 (by decide)) rfl ((Dk 39 (by decide)).trans (f2.2 39 (by decide))) ((Dk 22 (by decide)).trans (f2.2 22 (by decide))) (D 83 (by decide) (by decide) (by decide)) (D 85 (by decide) (by decide) (by decide)) (by omega)
