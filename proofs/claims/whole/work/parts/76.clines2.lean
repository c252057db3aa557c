/-! ===== ships, fogs and laws read by the class ===== -/
set_option maxHeartbeats 1000000 in
set_option maxRecDepth 4000 in
theorem sp_X7_readShip {G : slG} (hG : slGood G) {d K : Nat} (hd : 24 ≤ d) (hK : 0 ≤ K) {Φ : slPost} {σ : slM}  {X : abX} {r s : Nat} {Q : abV} {p : Int} (hX : gdX X) (hp : 0 ≤ p ∧ p ≤ X.2) (hk : lxK X p ≠ 0) (g : gdR Q) (I : isRq r s Q p σ) (T : isTk X p σ) (O : rcO X r s (lnSh X Q p) p σ Φ) :
    slCall G mX7_readShip d K [sR 7 0] σ Φ := by
  refine vc_X7_readShip hG (by omega) hK  ?_
  have e := lxE_p (X := X) hp.2
  have e0 := e.2.2 hk
  have g4 := g.2.2.2.2.1
  rw [I.1.1, Int.toNat_natCast, I.2.1.1.2.2.2.2.1]
  refine ⟨⟨by omega, by omega⟩, fun z => ?_, fun z => sp_X7_refuse hG (by omega) (by omega) T (slKt.ok ⟨Or.inl rfl, O.e (k := 2) (q := lxB X p) (by unfold lnSh; rw [if_pos (by omega)]) (by decide) rcF.id rcE.fl⟩)⟩
  unfold lnSh at O
  rw [if_neg (by omega)] at O
  refine sp_X9_next hG (by omega) (by omega) hX T.1 ⟨by omega, e.2.1⟩ T.2.2.1 (fun τ1 f1 T1 => slKt.ok ?_)
  have F1 : rcF r s σ τ1 := rcF.of f1 (by simp [rcL]) (by simp)
  have I1 := (I.nx f1).up (p' := lxE X p) (by omega)
  rw [I1.1.2.1, Int.toNat_natCast]
  refine sp_X7_readCell hG (by omega) (by omega) hX ⟨by omega, e.2.1⟩ T1 I1 g (Or.inr (Or.inr ⟨rfl, rfl⟩)) (fun k q ee hk τ E => slKt.ok ⟨⟨by omega, by omega⟩, ?_⟩) (fun c p1 ec cr hp1 τ f M T2 => slKt.ok ⟨⟨by omega, by omega⟩, ?_⟩)
  · rw [slU_else (by omega), E.2.2.1]
    refine ⟨⟨by omega, by omega⟩, fun _ => ⟨⟨by omega, by omega⟩, fun z => by omega, fun _ => ?_⟩, fun z => by omega⟩
    exact O.1 k q (by rw [ee]; rfl) hk _ ((F1.tr E.rc).up (by simp [rcL]) (by decide)) (by rw [slU_else (by omega)]; exact E.2.2.1) (by rw [slU_else (by omega)]; exact E.2.2.2)
  have F2 : rcF r s σ (slU τ 53 s (Q.1 0 4).toNat c) := (F1.tr (rcF.of f (by simp [rcL]) (by simp))).up (by simp [rcL]) (by decide)
  rw [ec, rdB_o] at O
  have oc := pCl_o g ec
  have q : ∀ a i, a ≠ 9 → a ≠ 50 → a ≠ 53 → slU τ 53 s (Q.1 0 4).toNat c a i = τ1 a i := fun a i h1 h2 h3 => by rw [slU_else (by omega), f a i (by simp; omega)]
  obtain ⟨h1, hH, hC, hM, hL, hS, hF, hW⟩ := I1
  have T3 : isTk X p1 (slU τ 53 s (Q.1 0 4).toNat c) := T2.c (slU_else (by omega)) (slU_else (by omega))
  have s53 : ∀ l : Int, 0 ≤ l → l < Q.1 0 4 + 1 → slU τ 53 s (Q.1 0 4).toNat c 53 s l.toNat = (qSh Q c 0).1 10 l := fun l a b => by
    rw [qSh_10]
    by_cases y : l = Q.1 0 4
    · rw [if_pos y, y, slU_same]
    · rw [if_neg y, slU_ne (by omega), f 53 s (by simp)]
      exact (hS l a (by omega)).1
  have M' : ∀ c' : Int, 0 ≤ c' → c' < 144 → slU τ 53 s (Q.1 0 4).toNat c 50 0 c'.toNat = (qU Q 13 c (Q.1 13 c + 4)).1 13 c' := fun c' a b => by rw [slU_else (by omega)]; exact M c' a b
  clear M
  generalize slU τ 53 s (Q.1 0 4).toNat c = υ at *
  rw [q 7 0 (by decide) (by decide) (by decide), h1.2.2]
  refine ⟨in0, fun z => absurd rfl z, fun _ => ?_⟩
  refine sp_nu hG (by omega) hX ⟨by omega, hp1.2⟩ T3 (by decide) (by decide) (fun k q' ee hk τ' E => slKt.ok ⟨⟨by omega, by omega⟩, ?_⟩) (fun wa p2 ew w0 bw hp2 τ2 f2 T4 => slKt.ok ⟨⟨by omega, by omega⟩, ?_⟩)
  · rw [slU_else (by omega), E.2.2.1]
    refine ⟨⟨by omega, by omega⟩, fun z => by omega, fun _ => ?_⟩
    rw [h1.2.1, Int.toNat_natCast]
    exact O.1 k q' (by rw [ee]; rfl) hk _ ((F2.tr E.rc).up (by simp [rcL]) (by decide)) (by rw [slU_else (by omega)]; exact E.2.2.1) (by rw [slU_else (by omega)]; exact E.2.2.2)
  rw [ew, rdB_o] at O
  have q2 : ∀ a i, a ≠ 9 → τ2 a i = υ a i := fun a i h => f2 a i (by simp; omega)
  rw [slU_else (by omega), q2 7 0 (by decide), q 7 0 (by decide) (by decide) (by decide), h1.2.2]
  refine ⟨in0, fun _ => ?_, fun z => absurd rfl z⟩
  rw [h1.2.1, Int.toNat_natCast, slU_else (by omega), h1.1, Int.toNat_natCast, q2 1 r (by decide), q 1 r (by decide) (by decide) (by decide), hH.1.2.2.2.2.1]
  have B : ∀ a i, a ≠ 1 → a ≠ 54 → a ≠ 9 → a ≠ 50 → a ≠ 53 → slU (slU τ2 54 s (Q.1 0 4).toNat wa) 1 r 4 (Q.1 0 4 + 1) a i = τ1 a i := fun a i x1 x2 x3 x4 x5 => by
    rw [slU_else (by omega), slU_else (by omega), q2 a i x3, q a i x3 x4 x5]
  have B1 : ∀ k, k ≠ 4 → slU (slU τ2 54 s (Q.1 0 4).toNat wa) 1 r 4 (Q.1 0 4 + 1) 1 r k = τ1 1 r k := fun k h => by
    rw [slU_ne h, slU_else (by omega), q2 1 r (by decide), q 1 r (by decide) (by decide) (by decide)]
  have F4 : rcF r s σ (slU (slU τ2 54 s (Q.1 0 4).toNat wa) 1 r 4 (Q.1 0 4 + 1)) := ((F2.tr (rcF.of f2 (by simp [rcL]) (by simp))).up (by simp [rcL]) (by decide)).up (by simp [rcL]) (by decide)
  refine sp_sg hG (by omega) hX ⟨by omega, hp2.2⟩ (by omega) (g.sh (wa := wa) (by omega) oc.1 oc.2 bw) F4 ⟨?_, ⟨⟨?_, ?_, ?_, ?_, ?_, ?_⟩, ?_, ?_⟩, ?_, ?_, ?_, ?_, ?_, ?_⟩ (T4.c ?_ ?_) O
  · rw [B 7 0 (by decide) (by decide) (by decide) (by decide) (by decide)]; exact h1
  · rw [B1 0 (by decide), qSh_0 (by decide)]; exact hH.1.1
  · rw [B1 1 (by decide), qSh_0 (by decide)]; exact hH.1.2.1
  · rw [B1 2 (by decide), qSh_0 (by decide)]; exact hH.1.2.2.1
  · rw [B1 3 (by decide), qSh_0 (by decide)]; exact hH.1.2.2.2.1
  · rw [slU_same, qSh_04]
  · rw [B1 5 (by decide), qSh_0 (by decide)]; exact hH.1.2.2.2.2.2
  · rw [B 4 r (by decide) (by decide) (by decide) (by decide) (by decide), qSh_0 (by decide)]; exact hH.2.1
  · rw [B 7 0 (by decide) (by decide) (by decide) (by decide) (by decide), qSh_0 (by decide)]; exact hH.2.2
  · exact hC.c (qSh_0 (by decide)) (qSh_0 (by decide)) (fun i => qSh_r (by decide) (by decide) (by decide) (by decide)) (B 24 r (by decide) (by decide) (by decide) (by decide) (by decide)) (B 25 r (by decide) (by decide) (by decide) (by decide) (by decide))
  · intro i a b
    have mi := M' i a b
    have m0 := (mk_and (bar := 0) (g.2.2.2.2.2.2.2.1 c).1).2.2.1.mp oc.2
    rw [qSh_13, B 23 r (by decide) (by decide) (by decide) (by decide) (by decide), slU_else (by omega), slU_else (by omega), q2 50 0 (by decide), mi]
    by_cases y : i = c
    · rw [if_pos y, y, qU_y]
      exact ⟨by rw [(hM c cr.1 cr.2).1]; omega, rfl⟩
    · rw [if_neg y, qU_i y]
      exact ⟨(hM i a b).1, rfl⟩
  · exact hL.c (qSh_0 (by decide)) (fun a i x1 x2 => qSh_r (by omega) (by omega) (by omega) (by omega)) (fun a x1 x2 => B a r (by omega) (by omega) (by omega) (by omega) (by omega)) (B 51 s (by decide) (by decide) (by decide) (by decide) (by decide)) (B 52 s (by decide) (by decide) (by decide) (by decide) (by decide))
  · intro i a b
    rw [qSh_04] at b
    have x53 := s53 i a b
    rw [qSh_10] at x53
    rw [qSh_10, qSh_11, slU_else (by omega)]
    refine ⟨?_, ?_⟩
    · rw [slU_else (by omega), q2 53 s (by decide)]; exact x53
    · by_cases y : i = Q.1 0 4
      · rw [if_pos y, y, slU_else (by omega), slU_same]
      · rw [if_neg y, slU_else (by omega), slU_ne (by omega), q2 54 s (by decide), q 54 s (by decide) (by decide) (by decide)]
        exact (hS i a (by omega)).2
  · exact hF.c (qSh_0 (by decide)) (fun i => qSh_r (by decide) (by decide) (by decide) (by decide)) (B 32 r (by decide) (by decide) (by decide) (by decide) (by decide))
  · exact hW.c (qSh_0 (by decide)) rfl (by rw [B 4 r (by decide) (by decide) (by decide) (by decide) (by decide)]) (B 37 r (by decide) (by decide) (by decide) (by decide) (by decide)) (B 38 r (by decide) (by decide) (by decide) (by decide) (by decide)) (by omega)
  · rw [slU_else (by omega), slU_else (by omega)]
  · rw [slU_else (by omega), slU_else (by omega)]
set_option maxHeartbeats 1000000 in
set_option maxRecDepth 4000 in
theorem sp_X4_close {G : slG} (hG : slGood G) {d K : Nat} (hd : 0 ≤ d) (hK : 0 ≤ K) {Φ : slPost} {σ : slM} {i0 : Nat} (h0 : 0 ≤ σ 4 i0 4 ∧ σ 4 i0 4 < 3) (h : Φ (0, 0) (slU (slU σ 38 i0 (σ 4 i0 4).toNat (σ 4 i0 3)) 4 i0 4 (σ 4 i0 4 + 1))) :
    slCall G mX4_close d K [sR 4 i0] σ Φ := by
  refine vc_X4_close hG (by omega) hK  ?_
  rw [slU_else (by omega)]
  exact ⟨⟨by omega, by omega⟩, fun z => by omega, fun _ => ⟨h0, h⟩⟩
theorem exV_c {X : abX} {p p' f' : Int} {W' o' e : List Int} (h : exRe X (0, p, [], [0], [], 1, 0) (1, p', W', [f'], o', 0, 0)) (hd : exDr 1 W' o' = ([], e)) (x : exEx X 1 p' f') : exV X p = (2, p', [], [], e, 0, 0) := by
  refine exV_eq (h.st (exStep_1.trans ?_)) (by show 2 ≤ 2; decide)
  have e0 : exDr 0 W' o' = ([], e) := exDr_of (by decide) hd
  have c := (exDr_cnt (l := 1) W' o').1
  rw [hd] at c
  have n14 : ¬ 14 ∈ W' := fun m => by
    have := List.count_pos_iff.mpr m
    have c : 0 = List.count 14 W' := c
    omega
  rw [exB_no (T := [f']) (x.2.2.2.1 (by decide)) (x.2.2.2.2 (by decide)) (fun z => x.2.2.1 (by decide) z.1 z.2) (fun z => by have := x.2.1 (by decide); omega) (fun z => by have := x.1 (by decide); omega) (fun z => n14 z.2), if_neg (by simp), e0]
set_option maxHeartbeats 1000000 in
set_option maxRecDepth 4000 in
theorem sp_X7_readLaw {G : slG} (hG : slGood G) {d K : Nat} (hd : 64 ≤ d) (hK : 0 ≤ K) {Φ : slPost} {σ : slM}  {X : abX} {r s : Nat} {Q : abV} {p : Int} (hX : gdX X) (hp : 0 ≤ p ∧ p ≤ X.2) (hk : lxK X p ≠ 0) (g : gdR Q) (I : isRq r s Q p σ) (T : isTk X p σ) (O : rcO X r s (lnLa X Q p) p σ Φ) :
    slCall G mX7_readLaw d K [sR 7 0] σ Φ := by
  refine vc_X7_readLaw hG (by omega) hK  ?_
  have e := lxE_p (X := X) hp.2
  have e0 := e.2.2 hk
  have g6 := g.2.2.2.2.2.2.1
  rw [I.1.1, Int.toNat_natCast, I.2.1.2.1]
  refine ⟨⟨by omega, by omega⟩, fun z => ?_, fun z => sp_X7_refuse hG (by omega) (by omega) T (slKt.ok ⟨Or.inl rfl, O.e (k := 2) (q := lxB X p) (by unfold lnLa; rw [if_pos (by omega)]) (by decide) rcF.id rcE.fl⟩)⟩
  unfold lnLa at O
  rw [if_neg (by omega)] at O
  refine sp_X9_next hG (by omega) (by omega) hX T.1 ⟨by omega, e.2.1⟩ T.2.2.1 (fun τ1 f1 T1 => slKt.ok ?_)
  have F1 : rcF r s σ τ1 := rcF.of f1 (by simp [rcL]) (by simp)
  obtain ⟨h1, hH, hC, hM, hL, hS, hF, oc, hO, hl, he, hk⟩ := (I.nx f1).up (p' := lxE X p) (by omega)
  have rf : ∀ {τ τ' : slM}, rdF r τ τ' → rcF r s τ τ' := fun f => ⟨f.1.mono (by simp [rcL]), fun k _ b c => f.2.2 k b c, fun x => by rw [f.2.1 4 (by decide)]; exact x⟩
  refine ct_expr hG (X := X) (r := r) 5 0 (by decide) (p := lxE X p) (W := []) (T := []) (f := 0) (o := []) (oc := oc) (b := 1) (c := 0) (by omega) ⟨⟨hX, by omega, e.2.1⟩, T1, hO, hl, h1.1, h1.2.2, trivial, rfl, by decide, fun _ => ⟨rfl, rfl, rfl⟩, fun z => absurd z (by decide), fun z => absurd z (by decide)⟩ ⟨fun τ p' W' f' o' ee X1 x => slKt.ok ⟨in1, fun _ => ?_, fun z => absurd z (by decide)⟩, fun τ k q re hk f a b => slKt.ok ⟨in0, fun z => absurd rfl z, fun _ => ?_⟩⟩
  · obtain ⟨re, dr, -, pp, el, rn, f, t5, T2, O2⟩ := X1
    have ev := exV_c re dr x
    rw [ev, if_neg (by show ¬ (2 : Nat) = 3; decide)] at O
    have q : ∀ a i, a ≠ 9 → a ≠ 37 → a ≠ 4 → a ≠ 7 → τ a i = τ1 a i := fun a i x1 x2 x3 x4 => f.1 a i (by simp; omega)
    have q7 : τ 7 0 2 = r ∧ τ 7 0 3 = s ∧ τ 7 0 5 = 0 := ⟨(f.2.2 2 (by decide) (by decide)).trans h1.1, (f.2.2 3 (by decide) (by decide)).trans h1.2.1, t5⟩
    have e44 : τ 4 r 4 = Q.1 0 6 := (f.2.1 4 (by decide)).trans hH.2.1
    have e43 : τ 4 r 3 = (oc ++ ee).length := O2.1
    rw [q7.1, Int.toNat_natCast]
    refine sp_X4_close hG (by omega) (by omega) (by rw [e44]; omega) (slKt.ok ?_)
    rw [e44, e43]
    have B : ∀ a i, a ≠ 4 → a ≠ 38 → slU (slU τ 38 r (Q.1 0 6).toNat ((oc ++ ee).length : Int)) 4 r 4 (Q.1 0 6 + 1) a i = τ a i := fun a i x1 x2 => by
      rw [slU_else (by omega), slU_else (by omega)]
    have B4 : ∀ k, k ≠ 4 → slU (slU τ 38 r (Q.1 0 6).toNat ((oc ++ ee).length : Int)) 4 r 4 (Q.1 0 6 + 1) 4 r k = τ 4 r k := fun k x => by
      rw [slU_ne x, slU_else (by omega)]
    have B38 : slU (slU τ 38 r (Q.1 0 6).toNat ((oc ++ ee).length : Int)) 4 r 4 (Q.1 0 6 + 1) 38 r (Q.1 0 6).toNat = ((oc ++ ee).length : Int) := by
      rw [slU_else (by omega), slU_same]
    have B38n : ∀ k, k ≠ (Q.1 0 6).toNat → slU (slU τ 38 r (Q.1 0 6).toNat ((oc ++ ee).length : Int)) 4 r 4 (Q.1 0 6 + 1) 38 r k = τ1 38 r k := fun k x => by
      rw [slU_else (by omega), slU_ne x, q 38 r (by decide) (by decide) (by decide) (by decide)]
    have B44 : slU (slU τ 38 r (Q.1 0 6).toNat ((oc ++ ee).length : Int)) 4 r 4 (Q.1 0 6 + 1) 4 r 4 = Q.1 0 6 + 1 := slU_same _ _ _ _ _
    have F2 : rcF r s σ (slU (slU τ 38 r (Q.1 0 6).toNat ((oc ++ ee).length : Int)) 4 r 4 (Q.1 0 6 + 1)) := ((F1.tr (rf f)).up (by simp [rcL]) (by decide)).up4 ⟨by omega, by omega⟩
    generalize slU (slU τ 38 r (Q.1 0 6).toNat ((oc ++ ee).length : Int)) 4 r 4 (Q.1 0 6 + 1) = υ at *
    have R : ∀ a i, a ≠ 0 → (qLa Q ee).1 a i = Q.1 a i := fun a i x => if_neg (fun z => x z.1)
    have R0 : ∀ i, i ≠ 6 → (qLa Q ee).1 0 i = Q.1 0 i := fun i x => if_neg (fun z => x z.2)
    have R6 : (qLa Q ee).1 0 6 = Q.1 0 6 + 1 := by simp [qLa]
    have la : (oc ++ ee).length = oc.length + ee.length := List.length_append
    refine sp_sg hG (by omega) hX ⟨by omega, pp.2⟩ (by omega) (g.la (o := ee) (by omega)) F2 ⟨?_, ⟨⟨?_, ?_, ?_, ?_, ?_, ?_⟩, ?_, ?_⟩, ?_, ?_, ?_, ?_, ?_, oc ++ ee, ?_, ?_, ?_, ?_⟩ (T2.c (B 9 0 (by decide) (by decide)) (B 58 0 (by decide) (by decide))) O
    · rw [B 7 0 (by decide) (by decide)]; exact q7
    · rw [B 1 r (by decide) (by decide), q 1 r (by decide) (by decide) (by decide) (by decide), R0 0 (by decide)]; exact hH.1.1
    · rw [B 1 r (by decide) (by decide), q 1 r (by decide) (by decide) (by decide) (by decide), R0 1 (by decide)]; exact hH.1.2.1
    · rw [B 1 r (by decide) (by decide), q 1 r (by decide) (by decide) (by decide) (by decide), R0 2 (by decide)]; exact hH.1.2.2.1
    · rw [B 1 r (by decide) (by decide), q 1 r (by decide) (by decide) (by decide) (by decide), R0 3 (by decide)]; exact hH.1.2.2.2.1
    · rw [B 1 r (by decide) (by decide), q 1 r (by decide) (by decide) (by decide) (by decide), R0 4 (by decide)]; exact hH.1.2.2.2.2.1
    · rw [B 1 r (by decide) (by decide), q 1 r (by decide) (by decide) (by decide) (by decide), R0 5 (by decide)]; exact hH.1.2.2.2.2.2
    · rw [B44, R6]
    · rw [B 7 0 (by decide) (by decide), R0 5 (by decide), f.2.2 4 (by decide) (by decide)]; exact hH.2.2
    · exact hC.c (R0 0 (by decide)) (R0 2 (by decide)) (fun i => R 1 i (by decide)) ((B 24 r (by decide) (by decide)).trans (q 24 r (by decide) (by decide) (by decide) (by decide))) ((B 25 r (by decide) (by decide)).trans (q 25 r (by decide) (by decide) (by decide) (by decide)))
    · exact hM.c (fun i => R 13 i (by decide)) ((B 23 r (by decide) (by decide)).trans (q 23 r (by decide) (by decide) (by decide) (by decide))) ((B 50 0 (by decide) (by decide)).trans (q 50 0 (by decide) (by decide) (by decide) (by decide)))
    · exact hL.c (R0 3 (by decide)) (fun a i x1 x2 => R a i (by omega)) (fun a x1 x2 => (B a r (by omega) (by omega)).trans (q a r (by omega) (by omega) (by omega) (by omega))) ((B 51 s (by decide) (by decide)).trans (q 51 s (by decide) (by decide) (by decide) (by decide))) ((B 52 s (by decide) (by decide)).trans (q 52 s (by decide) (by decide) (by decide) (by decide)))
    · exact hS.c (R0 4 (by decide)) (fun i => R 10 i (by decide)) (fun i => R 11 i (by decide)) ((B 53 s (by decide) (by decide)).trans (q 53 s (by decide) (by decide) (by decide) (by decide))) ((B 54 s (by decide) (by decide)).trans (q 54 s (by decide) (by decide) (by decide) (by decide)))
    · exact hF.c (R0 5 (by decide)) (fun i => R 12 i (by decide)) ((B 32 r (by decide) (by decide)).trans (q 32 r (by decide) (by decide) (by decide) (by decide)))
    · unfold isOc
      rw [B 37 r (by decide) (by decide), B4 3 (by decide)]
      exact O2
    · rw [la]; omega
    · rw [R6]
      unfold qFm
      rw [if_neg (by omega), show (Q.1 0 6 + 1 - 1).toNat = (Q.1 0 6).toNat by omega, B38]
    · intro k a b
      rw [R6] at b
      have fm : ∀ j : Int, 0 ≤ j → j ≤ Q.1 0 6 → qFm r υ j = qFm r τ1 j := fun j a b => by
        unfold qFm
        by_cases y : j = 0
        · rw [if_pos y, if_pos y]
        · rw [if_neg y, if_neg y, B38n _ (by omega)]
      have t37 : ∀ t : Nat, t < oc.length → υ 37 r t = τ1 37 r t := fun t ht => by
        rw [B 37 r (by decide) (by decide), O2.2 t (by rw [la]; omega), hO.2 t ht, getD_app, if_pos ht]
      rw [fm k a (by omega)]
      by_cases y : k = Q.1 0 6
      · have ql : (qLa Q ee).2 k.toNat = ee := if_pos (by omega)
        rw [ql, y, B38, ← he, la]
        refine ⟨⟨by omega, by omega, by omega⟩, ?_, rn 0 (by decide)⟩
        rw [show (((oc.length + ee.length : Nat) : Int) - (oc.length : Int)).toNat = ee.length by omega, Int.toNat_natCast]
        refine abSeg_eq (fun t ht => ?_)
        rw [B 37 r (by decide) (by decide), O2.2 _ (by rw [la]; omega), getD_app, if_neg (by omega), show oc.length + t - oc.length = t by omega]
      · have ql : (qLa Q ee).2 k.toNat = Q.2 k.toNat := if_neg (by omega)
        have h := hk k a (by omega)
        rw [ql, B38n _ (by omega)]
        refine ⟨⟨h.1.1, h.1.2.1, by rw [la]; omega⟩, ?_, h.2.2⟩
        rw [← h.2.1]
        exact abSeg_c (fun t ht => t37 _ (by omega))
  · have ev := exV_eq re (by show 2 ≤ 3; decide)
    rw [ev] at O
    exact O.1 k q (if_pos rfl) hk τ (F1.tr (rf f)) a b
