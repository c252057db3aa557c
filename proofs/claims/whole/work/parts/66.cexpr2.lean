/-! ===== laws read by the class: the levels above a part ===== -/
theorem exIn.lift {X : abX} {r : Nat} {lv lvn w : Int} {s : exS} {p : Int} {W T : List Int} {f : Int} {o oc : List Int} {σ : slM} {p' : Int} {W' : List Int} {f' : Int} {o' e : List Int} {τ : slM} (i : exIn X r lvn w s p W T f o oc σ p' W' f' o' e τ) (le : lv ≤ lvn) (top : exTop lv W) (hb : exBd lv w ≤ exBd lvn w) (h5 : 5 ≤ lv → 5 ≤ lvn) : exIn X r lv w s p W T f o oc σ p' W' f' o' e τ := by
  obtain ⟨g1, g2, g3, g4, g5, g6, g7, g8, g9, g10⟩ := i
  refine ⟨g1, ?_, fun z => g3 (h5 z), g4, g5, fun d hd => g6 d (by omega), g7, g8, g9, g10⟩
  rw [exDr_of le g2]
  exact exDr_top top
theorem exIn.bin {X : abX} {r : Nat} {lv lvn w : Int} {s : exS} {p : Int} {W T : List Int} {f : Int} {o oc : List Int} {σ : slM} {p' : Int} {W' : List Int} {f' : Int} {o' e : List Int} {τ τ1 τ2 τ3 : slM} {a f1 b1 p2 f2 : Int} {W2 o2 e2 : List Int}
    (i : exIn X r lv w s p W T f o oc σ p' W' f' o' e τ) (st : exStep X (1, p', W', f' :: T, o', 0, 0) = (0, lxE X p', a :: W, f1 :: T, o ++ e, b1, 0)) (n1 : slFr [(9, 0)] τ τ1) (i2 : exIn X r lvn w (0, lxE X p', a :: W, f1 :: T, o ++ e, b1, 0) (lxE X p') (a :: W) T f1 (o ++ e) (oc ++ e) τ1 p2 W2 f2 o2 e2 τ2)
    (hlv : lv < lvn) (hb : exBd lv w + 1 ≤ exBd lvn w) (ha : a < 14) (hs : lv ≤ exSt a) (hop : -15 ≤ exOp a ∧ exOp a ≤ -8) (top : exTop lv W) (h5 : 5 ≤ lv → f1 = f') (k0 : lxK X p' ≠ 0)
    (f3 : slFr [(37, r), (4, r)] τ2 τ3) (g3 : ∀ k, k ≠ 3 → τ3 4 r k = τ2 4 r k) (O3 : isOc r ((oc ++ e) ++ e2 ++ [exOp a]) τ3) : exIn X r lv w s p W T f o oc σ p2 W2 f2 o2 (e ++ e2 ++ [exOp a]) τ3 := by
  obtain ⟨g1, g2, g3', g4, g5, g6, g7, g8, g9, g10⟩ := i
  obtain ⟨q1, q2, q3, q4, q5, q6, q7, q8, q9, q10⟩ := i2
  have ep := lxE_p (X := X) g4.2
  have lt := ep.2.2 k0
  refine ⟨(g1.st st).tr q1, ?_, fun z => ?_, ⟨by omega, q4.2⟩, ?_, fun d hd => ?_, (g7.tr (rdF.nx n1)).tr (q7.tr (rdF.pu f3 g3)), ?_, q9.c (f3 9 0 (by simp)) (f3 58 0 (by simp)), ?_⟩
  · rw [exDr_of (by omega) q2, exDr_push ha hs top]
    simp
  · rw [q3 (by omega), h5 z, g3' z]
  · rw [List.length_append, List.length_append]
    show ((e.length + e2.length + 1 : Nat) : Int) ≤ _
    omega
  · have a1 := g6 d hd
    have a2 := q6 (d + 1) (by omega)
    exact (a1.app a2).app (abRn_2 hop (by omega))
  · rw [f3 7 0 (by simp)]; exact q8
  · have e9 : oc ++ (e ++ e2 ++ [exOp a]) = (oc ++ e) ++ e2 ++ [exOp a] := by simp
    rw [e9]
    exact O3
set_option maxHeartbeats 4000000 in
theorem ex_body {G : slG} (hG : slGood G) {M : slMt} {X : abX} {r : Nat} {lv lvn w : Int} {D d : Nat} (C : CtX G M X r lvn w D) (hd : D ≤ d) (hd' : 16 ≤ d) {Φ : slPost} {s : exS} {p : Int} {W T : List Int} {f : Int} {o oc : List Int} {σ : slM} {p' : Int} {W' : List Int} {f' : Int} {o' e : List Int} {τ : slM} {a f1 b1 v : Int} {A : slM → Prop}
    (hX : gdX X) (hp : 0 ≤ p) (er : σ 7 0 2 = r) (ol : (oc.length : Int) ≤ p) (tl : (T.length : Int) = w) (hw : 0 ≤ w ∧ w ≤ 5) (i : exIn X r lv w s p W T f o oc σ p' W' f' o' e τ) (st : exStep X (1, p', W', f' :: T, o', 0, 0) = (0, lxE X p', a :: W, f1 :: T, o ++ e, b1, 0))
    (hlv : lv < lvn) (hb : exBd lv w + 1 ≤ exBd lvn w) (ha : a < 14) (hs : exSt a = lv) (hop : -15 ≤ exOp a ∧ exOp a ≤ -8) (top : exTop lv W) (h5 : 5 ≤ lv → f1 = f') (k0 : lxK X p' ≠ 0) (hv : v = exOp a)
    (c3 : lvn ≤ 3 → b1 = 1 ∧ f1 = 0) (c4 : 4 ≤ lvn → b1 = 0) (c5 : lvn = 4 → f1 = 0)
    (hF : exFa X r s σ Φ) (hA : ∀ τ3 p2 W2 f2 o2 e2, exIn X r lv w s p W T f o oc σ p2 W2 f2 o2 e2 τ3 → exEx X lvn p2 f2 → p' < p2 → (5 ≤ lvn → f2 = f1) → A τ3) :
    slCall G mX9_next d 0 [sR 9 0] τ (slKt (fun _ τ19 => slCall G M d 0 [sR 7 0, sI w] τ19 (slKt (fun v21 τ22 => ((InR v21)) ∧ (¬ v21 = 0 → slCall G mX4_put d 0 [sR 4 (Int.toNat (τ22 7 0 2)), sI v] τ22 (slKt (fun _ τ27 => A τ27) Φ)) ∧ (v21 = 0 → Φ (0, 0) τ22)) Φ)) Φ) := by
  have i0 := i
  obtain ⟨g1, g2, g3', g4, g5, g6, g7, g8, g9, g10⟩ := i
  have hx := hX.1
  have ep := lxE_p (X := X) g4.2
  have lt := ep.2.2 k0
  refine sp_X9_next hG (by omega) (by omega) hX g9.1 ⟨by omega, ep.2.1⟩ g9.2.2.1 (fun τ1 n1 T1 => slKt.ok ?_)
  have O1 : isOc r (oc ++ e) τ1 := by
    unfold isOc
    rw [n1 4 r (by simp), n1 37 r (by simp)]
    exact g10
  have er1 : τ1 7 0 2 = r := by rw [n1 7 0 (by simp), g7.2.2 2 (by decide) (by decide)]; exact er
  refine C (W := a :: W) (T := T) (f := f1) (o := o ++ e) (oc := oc ++ e) (b := b1) (c := 0) (p := lxE X p') hd ⟨⟨hX, by omega, ep.2.1⟩, T1, O1, by rw [List.length_append]; omega, er1, by rw [n1 7 0 (by simp)]; exact g8, Or.inr (by rw [hs]; exact hlv), tl, hw, fun z => ⟨(c3 z).1, rfl, (c3 z).2⟩, c5, fun z => Or.inl (c4 z)⟩ ⟨fun τ2 p2 W2 f2 o2 e2 i2 x => ?_, hF.sub (g1.st st) (g7.tr (rdF.nx n1)) (fun τ2 z => ⟨in0, fun u => absurd rfl u, fun _ => z⟩)⟩
  refine slKt.ok ⟨in1, fun _ => ?_, fun z => absurd z (by decide)⟩
  have q := i2
  obtain ⟨q1, q2, q3, q4, q5, q6, q7, q8, q9, q10⟩ := i2
  have er2 : τ2 7 0 2 = r := by rw [q7.2.2 2 (by decide) (by decide)]; exact er1
  rw [er2, Int.toNat_natCast, hv]
  refine sp_X4_put hG (by omega) (by omega) q10 (by rw [List.length_append, List.length_append]; omega) (fun τ3 f3 g3 O3 => slKt.ok (hA τ3 p2 W2 f2 o2 _ (i0.bin st n1 q hlv hb ha (by omega) hop top h5 k0 f3 g3 O3) x (by omega) q3))
set_option maxHeartbeats 4000000 in
theorem ex_body2 {G : slG} (hG : slGood G) {M : slMt} {X : abX} {r : Nat} {lv lvn w : Int} {D d : Nat} (C : CtX G M X r lvn w D) (hd : D ≤ d) (hd' : 16 ≤ d) {Φ : slPost} {s : exS} {p : Int} {W T : List Int} {f : Int} {o oc : List Int} {σ : slM} {p' : Int} {W' : List Int} {f' : Int} {o' e : List Int} {τ : slM} {a f1 b1 v kk : Int} (ik : InR kk) {A : slM → Prop}
    (hX : gdX X) (hp : 0 ≤ p) (er : σ 7 0 2 = r) (ol : (oc.length : Int) ≤ p) (tl : (T.length : Int) = w) (hw : 0 ≤ w ∧ w ≤ 5) (i : exIn X r lv w s p W T f o oc σ p' W' f' o' e τ) (st : exStep X (1, p', W', f' :: T, o', 0, 0) = (0, lxE X p', a :: W, f1 :: T, o ++ e, b1, 0))
    (hlv : lv < lvn) (hb : exBd lv w + 1 ≤ exBd lvn w) (ha : a < 14) (hs : exSt a = lv) (hop : -15 ≤ exOp a ∧ exOp a ≤ -8) (top : exTop lv W) (h5 : 5 ≤ lv → f1 = f') (k0 : lxK X p' ≠ 0) (hv : v = exOp a)
    (c3 : lvn ≤ 3 → b1 = 1 ∧ f1 = 0) (c4 : 4 ≤ lvn → b1 = 0) (c5 : lvn = 4 → f1 = 0)
    (hF : exFa X r s σ Φ) (hA : ∀ τ3 p2 W2 f2 o2 e2, exIn X r lv w s p W T f o oc σ p2 W2 f2 o2 e2 τ3 → exEx X lvn p2 f2 → p' < p2 → (5 ≤ lvn → f2 = f1) → A τ3) :
    slCall G mX9_next d 0 [sR 9 0] τ (slKt (fun _ τ19 => slCall G M d 0 [sR 7 0, sI w] τ19 (slKt (fun v21 τ22 => ((InR v21)) ∧ (¬ v21 = 0 → ((InR kk)) ∧ slCall G mX4_put d 0 [sR 4 (Int.toNat (τ22 7 0 2)), sI v] τ22 (slKt (fun _ τ27 => A τ27) Φ)) ∧ (v21 = 0 → Φ (0, 0) τ22)) Φ)) Φ) := by
  have i0 := i
  obtain ⟨g1, g2, g3', g4, g5, g6, g7, g8, g9, g10⟩ := i
  have hx := hX.1
  have ep := lxE_p (X := X) g4.2
  have lt := ep.2.2 k0
  refine sp_X9_next hG (by omega) (by omega) hX g9.1 ⟨by omega, ep.2.1⟩ g9.2.2.1 (fun τ1 n1 T1 => slKt.ok ?_)
  have O1 : isOc r (oc ++ e) τ1 := by
    unfold isOc
    rw [n1 4 r (by simp), n1 37 r (by simp)]
    exact g10
  have er1 : τ1 7 0 2 = r := by rw [n1 7 0 (by simp), g7.2.2 2 (by decide) (by decide)]; exact er
  refine C (W := a :: W) (T := T) (f := f1) (o := o ++ e) (oc := oc ++ e) (b := b1) (c := 0) (p := lxE X p') hd ⟨⟨hX, by omega, ep.2.1⟩, T1, O1, by rw [List.length_append]; omega, er1, by rw [n1 7 0 (by simp)]; exact g8, Or.inr (by rw [hs]; exact hlv), tl, hw, fun z => ⟨(c3 z).1, rfl, (c3 z).2⟩, c5, fun z => Or.inl (c4 z)⟩ ⟨fun τ2 p2 W2 f2 o2 e2 i2 x => ?_, hF.sub (g1.st st) (g7.tr (rdF.nx n1)) (fun τ2 z => ⟨in0, fun u => absurd rfl u, fun _ => z⟩)⟩
  refine slKt.ok ⟨in1, fun _ => ⟨ik, ?_⟩, fun z => absurd z (by decide)⟩
  have q := i2
  obtain ⟨q1, q2, q3, q4, q5, q6, q7, q8, q9, q10⟩ := i2
  have er2 : τ2 7 0 2 = r := by rw [q7.2.2 2 (by decide) (by decide)]; exact er1
  rw [er2, Int.toNat_natCast, hv]
  refine sp_X4_put hG (by omega) (by omega) q10 (by rw [List.length_append, List.length_append]; omega) (fun τ3 f3 g3 O3 => slKt.ok (hA τ3 p2 W2 f2 o2 _ (i0.bin st n1 q hlv hb ha (by omega) hop top h5 k0 f3 g3 O3) x (by omega) q3))
theorem exB_md {X : abX} {p : Int} {W T o : List Int} (h : lxK X p = 42 ∨ lxK X p = 47) : exB X p W T o = exPu 6 (if lxK X p = 42 then 10 else 11) (lxE X p) W T o 0 := by
  have w := lxW_2 (X := X) (p := p) (by omega)
  unfold exB
  rw [if_neg (by omega), if_neg (by omega), if_neg (fun z => by have := z.1; omega), if_neg (by omega), if_pos h]
theorem exB_pm {X : abX} {p : Int} {W T o : List Int} (h : lxK X p = 43 ∨ lxK X p = 45) : exB X p W T o = exPu 5 (if lxK X p = 43 then 8 else 9) (lxE X p) W T o 0 := by
  have w := lxW_2 (X := X) (p := p) (by omega)
  unfold exB
  rw [if_neg (by omega), if_neg (by omega), if_neg (fun z => by have := z.1; omega), if_pos h]
theorem exB_ls {X : abX} {p : Int} {W T o : List Int} (h : lxK X p = 60 ∨ lxK X p = 61) : exB X p W (0 :: T) o = exPu 4 (if lxK X p = 60 then 6 else 7) (lxE X p) W (1 :: T) o 0 := by
  have w := lxW_2 (X := X) (p := p) (by omega)
  unfold exB
  rw [if_neg (by omega), if_neg (by omega), if_pos ⟨h, rfl⟩]
  rfl
theorem exB_and {X : abX} {p f : Int} {W T o : List Int} (h : lxW X p = 11) : exB X p W (f :: T) o = exPu 2 4 (lxE X p) W (0 :: T) o 1 := by
  unfold exB
  rw [if_pos h]
  rfl
theorem exB_or {X : abX} {p f : Int} {W T o : List Int} (h : lxW X p = 12) : exB X p W (f :: T) o = exPu 1 5 (lxE X p) W (0 :: T) o 1 := by
  unfold exB
  rw [if_neg (by omega), if_pos h]
  rfl
theorem exPu_e {l a p : Int} {W T o W1 o1 : List Int} {b : Int} (h : exDr l W o = (W1, o1)) : exPu l a p W T o b = (0, p, a :: W1, T, o1, b, 0) := by
  unfold exPu
  rw [h]
theorem ex_700 {X : abX} {p' y : Int} (hX : gdX X) (h : y ≤ p' ∧ p' ≤ X.2) (q : 700 ≤ y) : lxK X p' = 0 := by
  have hx := hX.1
  have b := lxB_r (X := X) h.2
  unfold lxK
  rw [if_pos (by omega)]
set_option maxHeartbeats 8000000 in
theorem ct_prod {G : slG} (hG : slGood G) {X : abX} {r : Nat} {w : Int} {D : Nat} (hD : 20 ≤ D) (C : CtX G mX7_readPart X r 7 w D) : CtX G mX7_readProduct X r 6 w (D + 1) := by
  intro d K Φ σ p W T f o oc b c hd pre h
  obtain ⟨⟨hX, hp⟩, tk, O, ol, er, e5, top, tl, hw, -, -, hn⟩ := pre
  refine vc_X7_readProduct hG (by omega) (by omega) (fun μ y2 σ' => ∃ p' W' f' o' e, exIn X r 6 w (0, p, W, f :: T, o, b, c) p W T f o oc σ p' W' f' o' e σ' ∧ exEx X 7 p' f' ∧ (0 ≤ y2 ∧ y2 ≤ p') ∧ μ = ((700 - y2).toNat, 0, 0)) ?_ ?_
  · refine C (by omega) ⟨⟨hX, hp⟩, tk, O, ol, er, e5, top.mono (by decide), tl, hw, fun z => absurd z (by decide), fun z => absurd z (by decide), fun _ => hn (by decide)⟩ ⟨fun τ p' W' f' o' e i x => slKt.ok ⟨in1, fun _ => ⟨_, p', W', f', o', e, i.lift (by decide) top (by unfold exBd; rw [if_neg (by decide), if_neg (by decide)]; omega) (fun _ => by decide), x, ⟨by decide, by have := i.2.2.2.1.1; omega⟩, rfl⟩, fun z => absurd z (by decide)⟩, h.2.sub exRe.rf rdF.id (fun τ z => ⟨in0, fun u => absurd rfl u, fun _ => z⟩)⟩
  · rintro μ y2 σ' ⟨p', W', f', o', e, i, x, hy, rfl⟩
    have T1 := i.2.2.2.2.2.2.2.2.1
    have g4 := i.2.2.2.1
    have hx := hX.1
    have kr := lxK_r (X := X) (p := p')
    have iK : InR (lxK X p') := ⟨by omega, by omega⟩
    rw [T1.2.2.2.1]
    have fin : lxK X p' ≠ 42 → lxK X p' ≠ 47 → Φ (0, 1) σ' := fun a1 a2 => h.1 σ' p' W' f' o' e i ⟨fun _ => ⟨a1, a2⟩, fun z => absurd z (by decide), fun z => absurd z (by decide), fun z => absurd z (by decide), fun z => absurd z (by decide)⟩
    have go : ¬ 700 ≤ y2 → ∀ a v : Int, lxK X p' = 42 ∨ lxK X p' = 47 → a = (if lxK X p' = 42 then 10 else 11) → v = exOp a → exSt a = 6 → a < 14 → -15 ≤ exOp a ∧ exOp a ≤ -8 → _ := fun q a v hk ea hv hs h14 hop => ex_body (A := fun τ => ∃ μ29, slLt μ29 ((700 - y2).toNat, 0, 0) ∧ ∃ p' W' f' o' e, exIn X r 6 w (0, p, W, f :: T, o, b, c) p W T f o oc σ p' W' f' o' e τ ∧ exEx X 7 p' f' ∧ (0 ≤ y2 + 1 ∧ y2 + 1 ≤ p') ∧ μ29 = ((700 - (y2 + 1)).toNat, 0, 0)) hG C (d := d - 1) (by omega) (by omega) hX hp.1 er ol tl hw i (st := by rw [exStep_B, exB_md hk, exPu_e i.2.1, ← ea]) (by decide) (by unfold exBd; rw [if_neg (by decide), if_neg (by decide)]; omega) h14 hs hop top (fun _ => rfl) (by omega) hv (fun z => absurd z (by decide)) (fun _ => rfl) (fun z => absurd z (by decide)) h.2 (fun τ3 p2 W2 f2 o2 e2 i3 x3 lt _ => ⟨_, Or.inl (by show (700 - (y2 + 1)).toNat < (700 - y2).toNat; omega), p2, W2, f2, o2, e2, i3, x3, ⟨by omega, by omega⟩, rfl⟩)
    refine ⟨⟨by omega, by omega⟩, fun q => ?_, fun q => ⟨iK, fun k => ⟨iK, ?_⟩, fun k => ⟨iK, fun k2 => fin k k2, fun k2 => ⟨iK, ?_⟩⟩⟩⟩
    · have := ex_700 hX ⟨hy.2, g4.2⟩ q
      exact fin (by omega) (by omega)
    · rw [if_neg (fun u => u k)]
      exact go q 10 (-14) (Or.inl k) (by rw [if_pos k]) (by decide) (by decide) (by decide) (by decide)
    · rw [if_pos k]
      exact go q 11 (-15) (Or.inr k2) (by rw [if_neg k]) (by decide) (by decide) (by decide) (by decide)
set_option maxHeartbeats 8000000 in
theorem ct_sum9 {G : slG} (hG : slGood G) {X : abX} {r : Nat} {w : Int} {D : Nat} (hD : 20 ≤ D) (C : CtX G mX7_readProduct X r 6 w D) : CtX G mX7_readSum X r 5 w (D + 1) := by
  intro d K Φ σ p W T f o oc b c hd pre h
  obtain ⟨⟨hX, hp⟩, tk, O, ol, er, e5, top, tl, hw, -, -, hn⟩ := pre
  refine vc_X7_readSum hG (by omega) (by omega) (fun μ y2 σ' => ∃ p' W' f' o' e, exIn X r 5 w (0, p, W, f :: T, o, b, c) p W T f o oc σ p' W' f' o' e σ' ∧ exEx X 6 p' f' ∧ (0 ≤ y2 ∧ y2 ≤ p') ∧ μ = ((700 - y2).toNat, 0, 0)) ?_ ?_
  · refine C (by omega) ⟨⟨hX, hp⟩, tk, O, ol, er, e5, top.mono (by decide), tl, hw, fun z => absurd z (by decide), fun z => absurd z (by decide), fun _ => hn (by decide)⟩ ⟨fun τ p' W' f' o' e i x => slKt.ok ⟨in1, fun _ => ⟨_, p', W', f', o', e, i.lift (by decide) top (by unfold exBd; rw [if_neg (by decide), if_neg (by decide)]; omega) (fun _ => by decide), x, ⟨by decide, by have := i.2.2.2.1.1; omega⟩, rfl⟩, fun z => absurd z (by decide)⟩, h.2.sub exRe.rf rdF.id (fun τ z => ⟨in0, fun u => absurd rfl u, fun _ => z⟩)⟩
  · rintro μ y2 σ' ⟨p', W', f', o', e, i, x, hy, rfl⟩
    have T1 := i.2.2.2.2.2.2.2.2.1
    have g4 := i.2.2.2.1
    have hx := hX.1
    have kr := lxK_r (X := X) (p := p')
    have iK : InR (lxK X p') := ⟨by omega, by omega⟩
    rw [T1.2.2.2.1]
    have fin : lxK X p' ≠ 43 → lxK X p' ≠ 45 → Φ (0, 1) σ' := fun a1 a2 => h.1 σ' p' W' f' o' e i ⟨fun _ => x.1 (by decide), fun _ => ⟨a1, a2⟩, fun z => absurd z (by decide), fun z => absurd z (by decide), fun z => absurd z (by decide)⟩
    have go : ¬ 700 ≤ y2 → ∀ a v : Int, lxK X p' = 43 ∨ lxK X p' = 45 → a = (if lxK X p' = 43 then 8 else 9) → v = exOp a → exSt a = 5 → a < 14 → -15 ≤ exOp a ∧ exOp a ≤ -8 → _ := fun q a v hk ea hv hs h14 hop => ex_body (A := fun τ => ∃ μ29, slLt μ29 ((700 - y2).toNat, 0, 0) ∧ ∃ p' W' f' o' e, exIn X r 5 w (0, p, W, f :: T, o, b, c) p W T f o oc σ p' W' f' o' e τ ∧ exEx X 6 p' f' ∧ (0 ≤ y2 + 1 ∧ y2 + 1 ≤ p') ∧ μ29 = ((700 - (y2 + 1)).toNat, 0, 0)) hG C (d := d - 1) (by omega) (by omega) hX hp.1 er ol tl hw i (st := by rw [exStep_B, exB_pm hk, exPu_e i.2.1, ← ea]) (by decide) (by unfold exBd; rw [if_neg (by decide), if_neg (by decide)]; omega) h14 hs hop top (fun _ => rfl) (by omega) hv (fun z => absurd z (by decide)) (fun _ => rfl) (fun z => absurd z (by decide)) h.2 (fun τ3 p2 W2 f2 o2 e2 i3 x3 lt _ => ⟨_, Or.inl (by show (700 - (y2 + 1)).toNat < (700 - y2).toNat; omega), p2, W2, f2, o2, e2, i3, x3, ⟨by omega, by omega⟩, rfl⟩)
    refine ⟨⟨by omega, by omega⟩, fun q => ?_, fun q => ⟨iK, fun k => ⟨iK, ?_⟩, fun k => ⟨iK, fun k2 => fin k k2, fun k2 => ⟨iK, ?_⟩⟩⟩⟩
    · have := ex_700 hX ⟨hy.2, g4.2⟩ q
      exact fin (by omega) (by omega)
    · rw [if_neg (fun u => u k)]
      exact go q 8 (-12) (Or.inl k) (by rw [if_pos k]) (by decide) (by decide) (by decide) (by decide)
    · rw [if_pos k]
      exact go q 9 (-13) (Or.inr k2) (by rw [if_neg k]) (by decide) (by decide) (by decide) (by decide)
set_option maxHeartbeats 8000000 in
theorem ct_test {G : slG} (hG : slGood G) {X : abX} {r : Nat} {w : Int} {D : Nat} (hD : 20 ≤ D) (C : CtX G mX7_readSum X r 5 w D) : CtX G mX7_readTest X r 4 w (D + 1) := by
  intro d K Φ σ p W T f o oc b c hd pre h
  obtain ⟨⟨hX, hp⟩, tk, O, ol, er, e5, top, tl, hw, -, f0, hn⟩ := pre
  have f0 := f0 rfl
  refine vc_X7_readTest hG (by omega) (by omega) ?_
  refine C (by omega) ⟨⟨hX, hp⟩, tk, O, ol, er, e5, top.mono (by decide), tl, hw, fun z => absurd z (by decide), fun z => absurd z (by decide), fun _ => hn (by decide)⟩ ⟨fun τ p' W' f' o' e i x => slKt.ok ⟨in1, fun _ => ?_, fun z => absurd z (by decide)⟩, h.2.sub exRe.rf rdF.id (fun τ z => ⟨in0, fun u => absurd rfl u, fun _ => z⟩)⟩
  have ff : f' = 0 := by rw [i.2.2.1 (by decide)]; exact f0
  subst ff
  have i4 := i.lift (lv := 4) (by decide) top (by unfold exBd; rw [if_neg (by decide), if_neg (by decide)]; omega) (fun z => absurd z (by decide))
  have T1 := i.2.2.2.2.2.2.2.2.1
  have g4 := i.2.2.2.1
  have kr := lxK_r (X := X) (p := p')
  have iK : InR (lxK X p') := ⟨by omega, by omega⟩
  rw [T1.2.2.2.1]
  have go : ∀ a v : Int, lxK X p' = 60 ∨ lxK X p' = 61 → a = (if lxK X p' = 60 then 6 else 7) → v = exOp a → exSt a = 4 → a < 14 → -15 ≤ exOp a ∧ exOp a ≤ -8 → _ := fun a v hk ea hv hs h14 hop => ex_body2 (A := fun τ => Φ (0, 1) τ) hG C (d := d - 1) (by omega) (by omega) iK hX hp.1 er ol tl hw i4 (st := by rw [exStep_B, exB_ls hk, exPu_e i4.2.1, ← ea]) (by decide) (by unfold exBd; rw [if_neg (by decide), if_neg (by decide)]; omega) h14 hs hop top (fun z => absurd z (by decide)) (by omega) hv (fun z => absurd z (by decide)) (fun _ => rfl) (fun z => absurd z (by decide)) h.2 (fun τ3 p2 W2 f2 o2 e2 i3 x3 lt h5 => h.1 τ3 p2 W2 f2 o2 e2 i3 ⟨fun _ => x3.1 (by decide), fun _ => x3.2.1 (by decide), fun _ _ => by rw [h5 (by decide)]; decide, fun z => absurd z (by decide), fun z => absurd z (by decide)⟩)
  refine ⟨iK, fun k => ?_, fun k => ⟨iK, fun k2 => ?_, fun k2 => ?_⟩⟩
  · rw [if_neg (fun u => u k)]
    exact go 6 (-10) (Or.inl k) (by rw [if_pos k]) (by decide) (by decide) (by decide) (by decide)
  · rw [if_pos k]
    exact go 7 (-11) (Or.inr k2) (by rw [if_neg k]) (by decide) (by decide) (by decide) (by decide)
  · exact h.1 τ p' W' 0 o' e i4 ⟨fun _ => x.1 (by decide), fun _ => x.2.1 (by decide), fun _ z => absurd z (by omega), fun z => absurd z (by decide), fun z => absurd z (by decide)⟩
theorem exDr_nots {W : List Int} (top : exTop 3 W) : ∀ (j : Nat) (o : List Int), exDr 3 (List.replicate j 3 ++ W) o = (W, o ++ List.replicate j (-7))
  | 0, o => by
    show exDr 3 W o = (W, o ++ [])
    rw [List.append_nil]
    exact exDr_top top
  | j + 1, o => by
    show exDr 3 (3 :: (List.replicate j 3 ++ W)) o = _
    have e : exDr 3 (3 :: (List.replicate j 3 ++ W)) o = exDr 3 (List.replicate j 3 ++ W) (o ++ [-7]) := by
      show (if (14 : Int) ≤ 3 then _ else if (3 : Int) ≤ exSt 3 then exDr 3 (List.replicate j 3 ++ W) (o ++ [exOp 3]) else _) = _
      rw [if_neg (by decide), if_pos (by decide)]
      rfl
    rw [e, exDr_nots top j]
    rw [List.replicate_succ]
    simp
def ntI (X : abX) (r : Nat) (w : Int) (s : exS) (p : Int) (W T o oc : List Int) (σ : slM) (y2 y3 : Int) (σ' : slM) : Prop :=
  ∃ p' W' f' o' e, exRe X s (1, p', W', f' :: T, o', 0, 0) ∧ exDr 4 W' o' = (List.replicate y2.toNat 3 ++ W, o ++ e) ∧ (p ≤ p' ∧ p' ≤ X.2) ∧ (e.length : Int) + y2 ≤ p' - p ∧ (∀ d : Nat, (d : Int) ≤ exBd 4 w → abRn e d (d + 1)) ∧ rdF r σ σ' ∧ σ' 7 0 5 = 0 ∧ isTk X p' σ' ∧ isOc r (oc ++ e ++ List.replicate y3.toNat (-7)) σ' ∧ exEx X 4 p' f'
set_option maxHeartbeats 8000000 in
theorem ct_not {G : slG} (hG : slGood G) {X : abX} {r : Nat} {w : Int} {D : Nat} (hD : 20 ≤ D) (C : CtX G mX7_readTest X r 4 w D) : CtX G mX7_readNot X r 3 w (D + 1) := by
  intro d K Φ σ p W T f o oc b c hd pre h
  obtain ⟨⟨hX, hp⟩, tk, O, ol, er, e5, top, tl, hw, bc, -, -⟩ := pre
  obtain ⟨rfl, rfl, rfl⟩ := bc (by decide)
  have hx := hX.1
  refine vc_X7_readNot hG (by omega) (by omega) (fun μ y2 σ' => ∃ p', exRe X (0, p, W, 0 :: T, o, 1, 0) (0, p', List.replicate y2.toNat 3 ++ W, 0 :: T, o, 1, y2) ∧ (p + y2 ≤ p' ∧ p' ≤ X.2) ∧ (0 ≤ y2 ∧ y2 ≤ 6) ∧ slFr [(9, 0)] σ σ' ∧ isTk X p' σ' ∧ μ = (1, (6 - y2).toNat, 0)) (fun μ y2 y3 σ' => ntI X r w (0, p, W, 0 :: T, o, 1, 0) p W T o oc σ y2 y3 σ' ∧ (0 ≤ y3 ∧ y3 ≤ y2 ∧ y2 ≤ 6) ∧ μ = (0, (y2 - y3).toNat, 0)) ?_ ?_ ?_
  · exact ⟨_, p, exRe.rf, ⟨by omega, hp.2⟩, ⟨by decide, by decide⟩, slFr.id, tk, rfl⟩
  · rintro μ y2 σ' ⟨p', re, hp', hy, fr, T1, rfl⟩
    have ep := lxE_p (X := X) hp'.2
    have er1 : σ' 7 0 2 = r := by rw [fr 7 0 (by simp)]; exact er
    have e51 : σ' 7 0 5 = 0 := by rw [fr 7 0 (by simp)]; exact e5
    have O1 : isOc r oc σ' := by
      unfold isOc
      rw [fr 4 r (by simp), fr 37 r (by simp)]
      exact O
    have tp : exTop 4 (List.replicate y2.toNat 3 ++ W) := by
      cases y2.toNat with
      | zero => exact top.mono (by decide)
      | succ j => exact Or.inr (by decide)
    have tst : lxW X p' ≠ 13 → slCall G mX7_readTest (d - 1) 0 [sR 7 0, sI w] σ' (slKt (fun v7 τ8 => ((InR v7)) ∧ (¬ v7 = 0 → (∃ μ12, slLt μ12 (1, (6 - y2).toNat, 0) ∧ ntI X r w (0, p, W, 0 :: T, o, 1, 0) p W T o oc σ y2 0 τ8 ∧ (0 ≤ (0 : Int) ∧ 0 ≤ y2 ∧ y2 ≤ 6) ∧ μ12 = (0, (y2 - 0).toNat, 0))) ∧ (v7 = 0 → Φ (0, 0) τ8)) Φ) := fun n13 => by
      refine C (W := List.replicate y2.toNat 3 ++ W) (T := T) (f := 0) (o := o) (oc := oc) (b := 1) (c := y2) (p := p') (by omega) ⟨⟨hX, by omega, hp'.2⟩, T1, O1, by omega, er1, e51, tp, tl, hw, fun z => absurd z (by decide), fun _ => rfl, fun _ => Or.inr n13⟩ ⟨fun τ p2 W2 f2 o2 e i x => slKt.ok ⟨in1, fun _ => ⟨_, Or.inl (by show 0 < 1; decide), ?_, ⟨by decide, hy.1, hy.2⟩, rfl⟩, fun z => absurd z (by decide)⟩, h.2.sub re (rdF.nx fr) (fun τ z => ⟨in0, fun u => absurd rfl u, fun _ => z⟩)⟩
      obtain ⟨g1, g2, -, g4, g5, g6, g7, g8, g9, g10⟩ := i
      refine ⟨p2, W2, f2, o2, e, re.tr g1, g2, ⟨by omega, g4.2⟩, by omega, g6, (rdF.nx fr).tr g7, g8, g9, ?_, x⟩
      show isOc r (oc ++ e ++ []) τ
      rw [List.append_nil]
      exact g10
    refine ⟨⟨by omega, by omega⟩, fun q => ⟨⟨by omega, by omega⟩, fun z => by omega, fun z => ?_⟩, fun q => ?_⟩
    · refine sp_word hG (by omega) hX ⟨by omega, hp'.2⟩ T1 117 13 (by decide) (by decide) (by decide) (fun u => slKt.ok ⟨in1, fun v => absurd v (by decide), fun _ => ?_⟩) (fun u => slKt.ok ⟨in0, fun _ => tst u, fun v => absurd rfl v⟩)
      refine sp_X7_refuse hG (by omega) (by omega) T1 (slKt.ok ⟨Or.inl rfl, h.2.at (re.st ?_) ⟨by decide, by decide⟩ (rdF.nx fr)⟩)
      rw [exStep_A]
      unfold exA
      rw [if_pos ⟨by decide, u⟩, if_pos z]
    · refine sp_word hG (by omega) hX ⟨by omega, hp'.2⟩ T1 117 13 (by decide) (by decide) (by decide) (fun u => slKt.ok ⟨in1, fun v => absurd v (by decide), fun _ => ?_⟩) (fun u => slKt.ok ⟨in0, fun _ => ⟨⟨by omega, by omega⟩, fun _ => tst u, fun z => by omega⟩, fun v => absurd rfl v⟩)
      have u : lxW X p' = 13 := u
      have k2 : lxK X p' = 2 := by
        rcases lxW_r (X := X) (p := p') with z | z
        · omega
        · exact z.2.2.2
      have lt := ep.2.2 (by omega)
      refine sp_X9_next hG (by omega) (by omega) hX T1.1 ⟨by omega, ep.2.1⟩ T1.2.2.1 (fun τ f1 T2 => slKt.ok ⟨(1, (6 - (y2 + 1)).toNat, 0), Or.inr ⟨rfl, Or.inl (by show (6 - (y2 + 1)).toNat < (6 - y2).toNat; omega)⟩, lxE X p', re.st ?_, ⟨by omega, ep.2.1⟩, ⟨by omega, by omega⟩, fr.tr f1, T2, rfl⟩)
      rw [exStep_A]
      unfold exA
      rw [if_pos ⟨by decide, u⟩, if_neg (by omega), show (y2 + 1).toNat = y2.toNat + 1 by omega]
      rfl
  · rintro μ y2 y3 σ' ⟨⟨p', W', f', o', e, g1, g2, g4, g5, g6, g7, g8, g9, g10, x⟩, hy, rfl⟩
    refine ⟨⟨⟨by omega, by omega⟩, by omega, by omega⟩, fun q => ?_, fun q => ?_⟩
    · have e3 : y3 = y2 := by omega
      rw [e3] at g10
      refine h.1 σ' p' W' f' o' (e ++ List.replicate y2.toNat (-7)) ⟨g1, ?_, fun z => absurd z (by decide), g4, ?_, fun d hd => ?_, g7, g8, g9, ?_⟩ ⟨fun _ => x.1 (by decide), fun _ => x.2.1 (by decide), fun _ => x.2.2.1 (by decide), fun z => absurd z (by decide), fun z => absurd z (by decide)⟩
      · rw [exDr_of (by decide) g2, exDr_nots top, List.append_assoc]
      · rw [List.length_append, List.length_replicate]
        omega
      · have a1 := g6 d (by unfold exBd at hd ⊢; rw [if_pos (by decide)] at hd; rw [if_neg (by decide)]; omega)
        exact a1.app (abRn_n (by omega) _)
      · rw [← List.append_assoc]; exact g10
    · have er1 : σ' 7 0 2 = r := by rw [g7.2.2 2 (by decide) (by decide)]; exact er
      rw [er1, Int.toNat_natCast]
      refine sp_X4_put hG (by omega) (by omega) g10 (by rw [List.length_append, List.length_append, List.length_replicate]; omega) (fun τ f2 g2' O2 => slKt.ok ⟨(0, (y2 - (y3 + 1)).toNat, 0), Or.inr ⟨rfl, Or.inl (by show (y2 - (y3 + 1)).toNat < (y2 - y3).toNat; omega)⟩, ⟨p', W', f', o', e, g1, g2, g4, g5, g6, g7.tr (rdF.pu f2 g2'), ?_, g9.c (f2 9 0 (by simp)) (f2 58 0 (by simp)), ?_, x⟩, ⟨by omega, by omega, hy.2.2⟩, rfl⟩)
      · rw [f2 7 0 (by simp)]; exact g8
      · rw [show (y3 + 1).toNat = y3.toNat + 1 by omega, List.replicate_succ', ← List.append_assoc]
        exact O2
set_option maxHeartbeats 8000000 in
theorem ct_and {G : slG} (hG : slGood G) {X : abX} {r : Nat} {w : Int} {D : Nat} (hD : 20 ≤ D) (C : CtX G mX7_readNot X r 3 w D) : CtX G mX7_readAnd X r 2 w (D + 1) := by
  intro d K Φ σ p W T f o oc b c hd pre h
  obtain ⟨⟨hX, hp⟩, tk, O, ol, er, e5, top, tl, hw, bc, -, -⟩ := pre
  have bc := bc (by decide)
  refine vc_X7_readAnd hG (by omega) (by omega) (fun μ y2 σ' => ∃ p' W' f' o' e, exIn X r 2 w (0, p, W, f :: T, o, b, c) p W T f o oc σ p' W' f' o' e σ' ∧ exEx X 3 p' f' ∧ (0 ≤ y2 ∧ y2 ≤ p') ∧ μ = ((700 - y2).toNat, 0, 0)) ?_ ?_
  · refine C (by omega) ⟨⟨hX, hp⟩, tk, O, ol, er, e5, top.mono (by decide), tl, hw, fun _ => bc, fun z => absurd z (by decide), fun z => absurd z (by decide)⟩ ⟨fun τ p' W' f' o' e i x => slKt.ok ⟨in1, fun _ => ⟨_, p', W', f', o', e, i.lift (by decide) top (by unfold exBd; rw [if_pos (by decide), if_pos (by decide)]; omega) (fun z => absurd z (by decide)), x, ⟨by decide, by have := i.2.2.2.1.1; omega⟩, rfl⟩, fun z => absurd z (by decide)⟩, h.2.sub exRe.rf rdF.id (fun τ z => ⟨in0, fun u => absurd rfl u, fun _ => z⟩)⟩
  · rintro μ y2 σ' ⟨p', W', f', o', e, i, x, hy, rfl⟩
    have T1 := i.2.2.2.2.2.2.2.2.1
    have g4 := i.2.2.2.1
    have hx := hX.1
    have fin : lxW X p' ≠ 11 → Φ (0, 1) σ' := fun a1 => h.1 σ' p' W' f' o' e i ⟨fun _ => x.1 (by decide), fun _ => x.2.1 (by decide), fun _ => x.2.2.1 (by decide), fun _ => a1, fun z => absurd z (by decide)⟩
    refine ⟨⟨by omega, by omega⟩, fun q => ?_, fun q => ?_⟩
    · have k0 := ex_700 hX ⟨hy.2, g4.2⟩ q
      have w0 := lxW_2 (X := X) (p := p') (by omega)
      exact fin (by omega)
    · refine sp_word hG (by omega) hX ⟨by omega, g4.2⟩ T1 123 11 (by decide) (by decide) (by decide) (fun u => slKt.ok ⟨in1, fun v => absurd v (by decide), fun _ => ?_⟩) (fun u => slKt.ok ⟨in0, fun _ => fin u, fun v => absurd rfl v⟩)
      have u : lxW X p' = 11 := u
      have k2 : lxK X p' = 2 := by
        rcases lxW_r (X := X) (p := p') with z | z
        · omega
        · exact z.2.2.2
      exact ex_body (A := fun τ => ∃ μ29, slLt μ29 ((700 - y2).toNat, 0, 0) ∧ ∃ p' W' f' o' e, exIn X r 2 w (0, p, W, f :: T, o, b, c) p W T f o oc σ p' W' f' o' e τ ∧ exEx X 3 p' f' ∧ (0 ≤ y2 + 1 ∧ y2 + 1 ≤ p') ∧ μ29 = ((700 - (y2 + 1)).toNat, 0, 0)) hG C (d := d - 1) (by omega) (by omega) hX hp.1 er ol tl hw i (a := 4) (f1 := 0) (b1 := 1) (st := by rw [exStep_B, exB_and u, exPu_e i.2.1]) (by decide) (by unfold exBd; rw [if_pos (by decide), if_pos (by decide)]; omega) (by decide) (by decide) (by decide) top (fun z => absurd z (by decide)) (by omega) (by decide) (fun _ => ⟨rfl, rfl⟩) (fun z => absurd z (by decide)) (fun z => absurd z (by decide)) h.2 (fun τ3 p2 W2 f2 o2 e2 i3 x3 lt _ => ⟨_, Or.inl (by show (700 - (y2 + 1)).toNat < (700 - y2).toNat; omega), p2, W2, f2, o2, e2, i3, x3, ⟨by omega, by omega⟩, rfl⟩)
set_option maxHeartbeats 8000000 in
theorem ct_or {G : slG} (hG : slGood G) {X : abX} {r : Nat} {w : Int} {D : Nat} (hD : 20 ≤ D) (C : CtX G mX7_readAnd X r 2 w D) : CtX G mX7_readExpr X r 1 w (D + 1) := by
  intro d K Φ σ p W T f o oc b c hd pre h
  obtain ⟨⟨hX, hp⟩, tk, O, ol, er, e5, top, tl, hw, bc, -, -⟩ := pre
  have bc := bc (by decide)
  refine vc_X7_readExpr hG (by omega) (by omega) (fun μ y2 σ' => ∃ p' W' f' o' e, exIn X r 1 w (0, p, W, f :: T, o, b, c) p W T f o oc σ p' W' f' o' e σ' ∧ exEx X 2 p' f' ∧ (0 ≤ y2 ∧ y2 ≤ p') ∧ μ = ((700 - y2).toNat, 0, 0)) ?_ ?_
  · refine ⟨⟨by omega, by omega⟩, fun _ => C (by omega) ⟨⟨hX, hp⟩, tk, O, ol, er, e5, top.mono (by decide), tl, hw, fun _ => bc, fun z => absurd z (by decide), fun z => absurd z (by decide)⟩ ⟨fun τ p' W' f' o' e i x => slKt.ok ⟨in1, fun _ => ⟨_, p', W', f', o', e, i.lift (by decide) top (by unfold exBd; rw [if_pos (by decide), if_pos (by decide)]; omega) (fun z => absurd z (by decide)), x, ⟨by decide, by have := i.2.2.2.1.1; omega⟩, rfl⟩, fun z => absurd z (by decide)⟩, h.2.sub exRe.rf rdF.id (fun τ z => ⟨in0, fun u => absurd rfl u, fun _ => z⟩)⟩, fun z => absurd (show w < 6 by omega) z⟩
  · rintro μ y2 σ' ⟨p', W', f', o', e, i, x, hy, rfl⟩
    have T1 := i.2.2.2.2.2.2.2.2.1
    have g4 := i.2.2.2.1
    have hx := hX.1
    have fin : lxW X p' ≠ 12 → Φ (0, 1) σ' := fun a1 => h.1 σ' p' W' f' o' e i ⟨fun _ => x.1 (by decide), fun _ => x.2.1 (by decide), fun _ => x.2.2.1 (by decide), fun _ => x.2.2.2.1 (by decide), fun _ => a1⟩
    refine ⟨⟨by omega, by omega⟩, fun q => ?_, fun q => ?_⟩
    · have k0 := ex_700 hX ⟨hy.2, g4.2⟩ q
      have w0 := lxW_2 (X := X) (p := p') (by omega)
      exact fin (by omega)
    · refine sp_word hG (by omega) hX ⟨by omega, g4.2⟩ T1 124 12 (by decide) (by decide) (by decide) (fun u => slKt.ok ⟨in1, fun v => absurd v (by decide), fun _ => ?_⟩) (fun u => slKt.ok ⟨in0, fun _ => fin u, fun v => absurd rfl v⟩)
      have u : lxW X p' = 12 := u
      have k2 : lxK X p' = 2 := by
        rcases lxW_r (X := X) (p := p') with z | z
        · omega
        · exact z.2.2.2
      exact ex_body (A := fun τ => ∃ μ29, slLt μ29 ((700 - y2).toNat, 0, 0) ∧ ∃ p' W' f' o' e, exIn X r 1 w (0, p, W, f :: T, o, b, c) p W T f o oc σ p' W' f' o' e τ ∧ exEx X 2 p' f' ∧ (0 ≤ y2 + 1 ∧ y2 + 1 ≤ p') ∧ μ29 = ((700 - (y2 + 1)).toNat, 0, 0)) hG C (d := d - 1) (by omega) (by omega) hX hp.1 er ol tl hw i (a := 5) (f1 := 0) (b1 := 1) (st := by rw [exStep_B, exB_or u, exPu_e i.2.1]) (by decide) (by unfold exBd; rw [if_pos (by decide), if_pos (by decide)]; omega) (by decide) (by decide) (by decide) top (fun z => absurd z (by decide)) (by omega) (by decide) (fun _ => ⟨rfl, rfl⟩) (fun z => absurd z (by decide)) (fun z => absurd z (by decide)) h.2 (fun τ3 p2 W2 f2 o2 e2 i3 x3 lt _ => ⟨_, Or.inl (by show (700 - (y2 + 1)).toNat < (700 - y2).toNat; omega), p2, W2, f2, o2, e2, i3, x3, ⟨by omega, by omega⟩, rfl⟩)
theorem ct_expr {G : slG} (hG : slGood G) {X : abX} {r : Nat} (n : Nat) : ∀ w : Int, w = 5 - n → CtX G mX7_readExpr X r 1 w (27 + 7 * n) := by
  induction n with
  | zero =>
    intro w e
    have a := ct_part hG (X := X) (r := r) (w := w) (D := 20) (by decide) (fun z => absurd z (by omega))
    exact ct_or hG (by decide) (ct_and hG (by decide) (ct_not hG (by decide) (ct_test hG (by decide) (ct_sum9 hG (by decide) (ct_prod hG (by decide) a)))))
  | succ n ih =>
    intro w e
    have a := ct_part hG (X := X) (r := r) (w := w) (D := 27 + 7 * n) (by omega) (fun _ => ih (w + 1) (by omega))
    have z := ct_or hG (by omega) (ct_and hG (by omega) (ct_not hG (by omega) (ct_test hG (by omega) (ct_sum9 hG (by omega) (ct_prod hG (by omega) a)))))
    rw [show 27 + 7 * (n + 1) = 27 + 7 * n + 1 + 1 + 1 + 1 + 1 + 1 + 1 by omega]
    exact z
