/-! ===== laws read by the class ===== -/
set_option maxHeartbeats 1000000 in
set_option maxRecDepth 4000 in
theorem sp_X7_numberHere {G : slG} (hG : slGood G) {d K : Nat} (hd : 6 ≤ d) (hK : 0 ≤ K) {Φ : slPost} {σ : slM} {x1 : Int} {x2 : Int} {X : abX} {p : Int} (T : isTk X p σ) (i1 : InR x1) (i2 : InR x2) (h1 : lxK X p ≠ 3 → Φ (0, -1) (rdFl X p 1 σ)) (h2 : lxK X p = 3 → ¬ (x1 ≤ lxN X p ∧ lxN X p ≤ x2) → Φ (0, -1) (rdFl X p 2 σ)) (h3 : lxK X p = 3 → x1 ≤ lxN X p ∧ lxN X p ≤ x2 → Φ (0, lxN X p) σ) :
    slCall G mX7_numberHere d K [sR 7 0, sI x1, sI x2] σ Φ := by
  refine vc_X7_numberHere hG (by omega) hK  ?_
  have r := lxK_r (X := X) (p := p)
  rw [T.2.2.2.1]
  refine ⟨⟨by omega, by omega⟩, fun q => ?_, fun q => ?_⟩
  · have n := lxN_r q
    rw [T.2.2.2.2 q]
    refine ⟨⟨⟨by omega, by omega⟩, i1⟩, fun z => ?_, fun z => ⟨⟨⟨by omega, by omega⟩, i2⟩, fun w => h3 q ⟨by omega, w⟩, fun w => ?_⟩⟩
    · refine sp_X7_refuse hG (by omega) (by omega) T (slKt.ok (h2 q (by omega)))
    · refine sp_X7_refuse hG (by omega) (by omega) T (slKt.ok (h2 q (by omega)))
  · refine sp_X7_refuse hG (by omega) (by omega) T (slKt.ok (h1 q))
set_option maxHeartbeats 1000000 in
set_option maxRecDepth 4000 in
theorem sp_X7_readNumber {G : slG} (hG : slGood G) {d K : Nat} (hd : 16 ≤ d) (hK : 0 ≤ K) {Φ : slPost} {σ : slM} {x1 : Int} {x2 : Int} {X : abX} {p : Int} (hX : gdX X) (hp : 0 ≤ p ∧ p ≤ X.2) (T : isTk X p σ) (i1 : InR x1) (i2 : InR x2) (h1 : lxK X p ≠ 3 → Φ (0, -1) (rdFl X p 1 σ)) (h2 : lxK X p = 3 → ¬ (x1 ≤ lxN X p ∧ lxN X p ≤ x2) → Φ (0, -1) (rdFl X p 2 σ)) (h3 : lxK X p = 3 → x1 ≤ lxN X p ∧ lxN X p ≤ x2 → ∀ τ, slFr [(9, 0)] σ τ → isTk X (lxE X p) τ → Φ (0, lxN X p) τ) :
    slCall G mX7_readNumber d K [sR 7 0, sI x1, sI x2] σ Φ := by
  refine vc_X7_readNumber hG (by omega) hK  ?_
  have e := lxE_p (X := X) hp.2
  have im : InR (-1) := ⟨by decide, by decide⟩
  refine sp_X7_numberHere hG (by omega) (by omega) T i1 i2 (fun q => slKt.ok ⟨im, fun _ => h1 q, fun w => absurd rfl w⟩) (fun q w => slKt.ok ⟨im, fun _ => h2 q w, fun w => absurd rfl w⟩) (fun q w => ?_)
  have n := lxN_r q
  refine slKt.ok ⟨⟨by omega, by omega⟩, fun z => by omega, fun _ => ?_⟩
  refine sp_X9_next hG (by omega) (by omega) hX T.1 ⟨by omega, e.2.1⟩ T.2.2.1 (fun τ f T2 => slKt.ok (h3 q w τ f T2))
theorem getD_app {l m : List Int} {k : Nat} : (l ++ m).getD k 0 = if k < l.length then l.getD k 0 else m.getD (k - l.length) 0 := by
  rw [List.getD_eq_getElem?_getD, List.getD_eq_getElem?_getD, List.getD_eq_getElem?_getD, List.getElem?_append]
  by_cases z : k < l.length
  · rw [if_pos z, if_pos z]
  · rw [if_neg z, if_neg z]
set_option maxHeartbeats 1000000 in
set_option maxRecDepth 4000 in
theorem sp_X4_put {G : slG} (hG : slGood G) {d K : Nat} (hd : 0 ≤ d) (hK : 0 ≤ K) {Φ : slPost} {σ : slM} {i0 : Nat} {x1 : Int} {oc : List Int} (O : isOc i0 oc σ) (hl : oc.length < 700) (h : ∀ τ, slFr [(37, i0), (4, i0)] σ τ → (∀ k, k ≠ 3 → τ 4 i0 k = σ 4 i0 k) → isOc i0 (oc ++ [x1]) τ → Φ (0, 0) τ) :
    slCall G mX4_put d K [sR 4 i0, sI x1] σ Φ := by
  refine vc_X4_put hG (by omega) hK  ?_
  have e := O.1
  rw [e, Int.toNat_natCast]
  refine ⟨⟨by omega, by omega⟩, fun q => by omega, fun q => ⟨⟨by omega, by omega⟩, h _ ((slFr.id.up (by simp)).up (by simp)) (fun k hk => ?_) ⟨?_, fun k hk => ?_⟩⟩⟩
  · rw [slU_ne hk, slU_else (by omega)]
  · rw [slU_same, slU_else (by omega), e, List.length_append]
    simp
  · rw [slU_else (by omega), getD_app]
    rw [List.length_append] at hk
    have hk : k < oc.length + 1 := hk
    by_cases z : k = oc.length
    · rw [z, slU_same, if_neg (by omega), Nat.sub_self]
      rfl
    · rw [slU_ne z, if_pos (by omega)]
      exact O.2 k (by omega)
theorem rdF.pu {r : Nat} {σ τ : slM} (f : slFr [(37, r), (4, r)] σ τ) (g : ∀ k, k ≠ 3 → τ 4 r k = σ 4 r k) : rdF r σ τ := ⟨f.mono (by simp), g, fun k _ _ => by rw [f 7 0 (by simp)]⟩
set_option maxHeartbeats 1000000 in
set_option maxRecDepth 4000 in
theorem sp_X7_valueHere {G : slG} (hG : slGood G) {d K : Nat} (hd : 14 ≤ d) (hK : 0 ≤ K) {Φ : slPost} {σ : slM}  {X : abX} {p : Int} (hX : gdX X) (hp : 0 ≤ p ∧ p ≤ X.2) (T : isTk X p σ) (h1 : 0 ≤ lxW X p ∧ lxW X p ≤ 5 → Φ (0, lxW X p) σ) (h0 : ¬ (0 ≤ lxW X p ∧ lxW X p ≤ 5) → Φ (0, -1) σ) :
    slCall G mX7_valueHere d K [sR 7 0] σ Φ := by
  refine vc_X7_valueHere hG (by omega) hK  ?_
  have H : ∀ j : Int, lxW X p = j → 0 ≤ j → j ≤ 5 → Φ (0, j) σ := fun j e a b => by
    have := h1 (by omega)
    rw [e] at this
    exact this
  refine sp_word hG (by omega) hX hp T 118 0 (by decide) (by decide) (by decide) (fun q => slKt.ok ⟨in1, fun z => absurd z (by decide), fun _ => H 0 q (by decide) (by decide)⟩) (fun q0 => slKt.ok ⟨in0, fun _ => ?_, fun z => absurd rfl z⟩)
  refine sp_word hG (by omega) hX hp T 119 1 (by decide) (by decide) (by decide) (fun q => slKt.ok ⟨in1, fun z => absurd z (by decide), fun _ => H 1 q (by decide) (by decide)⟩) (fun q1 => slKt.ok ⟨in0, fun _ => ?_, fun z => absurd rfl z⟩)
  refine sp_word hG (by omega) hX hp T 111 2 (by decide) (by decide) (by decide) (fun q => slKt.ok ⟨in1, fun z => absurd z (by decide), fun _ => H 2 q (by decide) (by decide)⟩) (fun q2 => slKt.ok ⟨in0, fun _ => ?_, fun z => absurd rfl z⟩)
  refine sp_word hG (by omega) hX hp T 120 3 (by decide) (by decide) (by decide) (fun q => slKt.ok ⟨in1, fun z => absurd z (by decide), fun _ => H 3 q (by decide) (by decide)⟩) (fun q3 => slKt.ok ⟨in0, fun _ => ?_, fun z => absurd rfl z⟩)
  refine sp_word hG (by omega) hX hp T 121 4 (by decide) (by decide) (by decide) (fun q => slKt.ok ⟨in1, fun z => absurd z (by decide), fun _ => H 4 q (by decide) (by decide)⟩) (fun q4 => slKt.ok ⟨in0, fun _ => ?_, fun z => absurd rfl z⟩)
  refine sp_word hG (by omega) hX hp T 122 5 (by decide) (by decide) (by decide) (fun q => slKt.ok ⟨in1, fun z => absurd z (by decide), fun _ => H 5 q (by decide) (by decide)⟩) (fun q5 => slKt.ok ⟨in0, fun _ => h0 (fun z => ?_), fun z => absurd rfl z⟩)
  have q0 : ¬ lxW X p = 0 := q0
  have q1 : ¬ lxW X p = 1 := q1
  have q2 : ¬ lxW X p = 2 := q2
  have q3 : ¬ lxW X p = 3 := q3
  have q4 : ¬ lxW X p = 4 := q4
  have q5 : ¬ lxW X p = 5 := q5
  omega
set_option maxHeartbeats 1000000 in
set_option maxRecDepth 4000 in
theorem sp_X7_readValue {G : slG} (hG : slGood G) {d K : Nat} (hd : 16 ≤ d) (hK : 0 ≤ K) {Φ : slPost} {σ : slM}  {X : abX} {p : Int} {r : Nat} {oc : List Int} (hX : gdX X) (hp : 0 ≤ p ∧ p ≤ X.2) (T : isTk X p σ) (O : isOc r oc σ) (er : σ 7 0 2 = r) (hl : oc.length < 700) (h0 : ¬ (0 ≤ lxW X p ∧ lxW X p ≤ 5) → Φ (0, 0) (rdFl X p 3 σ)) (h1 : 0 ≤ lxW X p ∧ lxW X p ≤ 5 → ∀ τ, rdF r σ τ → τ 7 0 5 = σ 7 0 5 → isTk X (lxE X p) τ → isOc r (oc ++ [-1 - lxW X p]) τ → Φ (0, 1) τ) :
    slCall G mX7_readValue d K [sR 7 0] σ Φ := by
  refine vc_X7_readValue hG (by omega) hK  ?_
  have e := lxE_p (X := X) hp.2
  refine sp_X7_valueHere hG (by omega) (by omega) hX hp T (fun q => ?_) (fun q => ?_)
  · refine slKt.ok ⟨⟨by omega, by omega⟩, fun _ => ?_, fun z => by omega⟩
    rw [er, Int.toNat_natCast]
    refine sp_X4_put hG (by omega) (by omega) O hl (fun τ f g O2 => slKt.ok ?_)
    have T1 : isTk X p τ := T.c (f 9 0 (by simp)) (f 58 0 (by simp))
    refine sp_X9_next hG (by omega) (by omega) hX T1.1 ⟨by omega, e.2.1⟩ T1.2.2.1 (fun τ2 f2 T2 => slKt.ok (h1 q τ2 ((rdF.pu f g).tr (rdF.nx f2)) ?_ T2 ?_))
    · rw [f2 7 0 (by simp), f 7 0 (by simp)]
    · unfold isOc
      rw [f2 4 r (by simp), f2 37 r (by simp)]
      exact O2
  · refine slKt.ok ⟨⟨by decide, by decide⟩, fun z => absurd rfl z, fun _ => ?_⟩
    exact sp_X7_refuse hG (by omega) (by omega) T (slKt.ok ⟨Or.inl rfl, h0 q⟩)
/-! what each level promises -/
def exEx (X : abX) (lv p f : Int) : Prop := (lv ≤ 6 → lxK X p ≠ 42 ∧ lxK X p ≠ 47) ∧ (lv ≤ 5 → lxK X p ≠ 43 ∧ lxK X p ≠ 45) ∧ (lv ≤ 4 → lxK X p = 60 ∨ lxK X p = 61 → f ≠ 0) ∧ (lv ≤ 2 → lxW X p ≠ 11) ∧ (lv ≤ 1 → lxW X p ≠ 12)
theorem exEx.end {X : abX} {lv p f : Int} (h : lxK X p = 0) : exEx X lv p f := by
  have w := lxW_2 (X := X) (p := p) (by omega)
  refine ⟨fun _ => ⟨by omega, by omega⟩, fun _ => ⟨by omega, by omega⟩, fun _ z => by omega, fun _ => by omega, fun _ => by omega⟩
def exBd (lv w : Int) : Int := 5 * w + (if lv ≤ 3 then lv - 1 else lv - 2)
/-- where the class is: it has read up to p', e came behind its orders; the machine is at s1 -/
def exIn (X : abX) (r : Nat) (lv w : Int) (s : exS) (p : Int) (W T : List Int) (f : Int) (o oc : List Int) (σ : slM) (p' : Int) (W' : List Int) (f' : Int) (o' e : List Int) (τ : slM) : Prop :=
  exRe X s (1, p', W', f' :: T, o', 0, 0) ∧ exDr lv W' o' = (W, o ++ e) ∧ (5 ≤ lv → f' = f) ∧ (p ≤ p' ∧ p' ≤ X.2) ∧ (e.length : Int) ≤ p' - p ∧ (∀ d : Nat, (d : Int) ≤ exBd lv w → abRn e d (d + 1)) ∧ rdF r σ τ ∧ τ 7 0 5 = 0 ∧ isTk X p' τ ∧ isOc r (oc ++ e) τ
def exFa (X : abX) (r : Nat) (s : exS) (σ : slM) (Φ : slPost) : Prop := ∀ τ k q, exRe X s (exFl k q) → 1 ≤ k ∧ k ≤ 5 → rdF r σ τ → τ 7 0 5 = k → τ 7 0 6 = q → Φ (0, 0) τ
def exGo (X : abX) (r : Nat) (lv w : Int) (s : exS) (p : Int) (W T : List Int) (f : Int) (o oc : List Int) (σ : slM) (Φ : slPost) : Prop :=
  (∀ τ p' W' f' o' e, exIn X r lv w s p W T f o oc σ p' W' f' o' e τ → exEx X lv p' f' → Φ (0, 1) τ) ∧ exFa X r s σ Φ
def exPre (X : abX) (r : Nat) (lv w p : Int) (W T : List Int) (f : Int) (oc : List Int) (b c : Int) (σ : slM) : Prop :=
  (gdX X ∧ 0 ≤ p ∧ p ≤ X.2) ∧ isTk X p σ ∧ isOc r oc σ ∧ (oc.length : Int) ≤ p ∧ σ 7 0 2 = r ∧ σ 7 0 5 = 0 ∧ exTop lv W ∧ (T.length : Int) = w ∧ (0 ≤ w ∧ w ≤ 5) ∧ (lv ≤ 3 → b = 1 ∧ c = 0 ∧ f = 0) ∧ (lv = 4 → f = 0) ∧ (4 ≤ lv → b = 0 ∨ lxW X p ≠ 13)
def CtX (G : slG) (M : slMt) (X : abX) (r : Nat) (lv w : Int) (D : Nat) : Prop :=
  ∀ ⦃d K : Nat⦄ ⦃Φ : slPost⦄ ⦃σ : slM⦄ ⦃p : Int⦄ ⦃W T : List Int⦄ ⦃f : Int⦄ ⦃o oc : List Int⦄ ⦃b c : Int⦄, D ≤ d → exPre X r lv w p W T f oc b c σ → exGo X r lv w (0, p, W, f :: T, o, b, c) p W T f o oc σ Φ → slCall G M d K [sR 7 0, sI w] σ Φ
theorem exFa.at {X : abX} {r : Nat} {s : exS} {σ τ : slM} {Φ : slPost} {p k : Int} (h : exFa X r s σ Φ) (e : exRe X s (exFl k (lxB X p))) (hk : 1 ≤ k ∧ k ≤ 5) (f : rdF r σ τ) : Φ (0, 0) (rdFl X p k τ) := h _ k (lxB X p) e hk (f.tr rdFl.f) rdFl.e.1 rdFl.e.2
/-- a fault of a part is one of the whole -/
theorem exFa.sub {X : abX} {r : Nat} {s s1 : exS} {σ σ1 : slM} {Φ : slPost} (h : exFa X r s σ Φ) (e : exRe X s s1) (f : rdF r σ σ1) {A : Int → slM → Prop} (hA : ∀ τ, Φ (0, 0) τ → A 0 τ) : exFa X r s1 σ1 (slKt A Φ) := fun τ k q g hk f2 a b => slKt.ok (hA τ (h τ k q (e.tr g) hk (f.tr f2) a b))
theorem exStep_A {X : abX} {p : Int} {W T o : List Int} {b c : Int} : exStep X (0, p, W, T, o, b, c) = exA X p W T o b c := rfl
theorem exStep_B {X : abX} {p : Int} {W T o : List Int} {b c : Int} : exStep X (1, p, W, T, o, b, c) = exB X p W T o := rfl
set_option maxHeartbeats 4000000 in
theorem ct_part {G : slG} (hG : slGood G) {X : abX} {r : Nat} {w : Int} {D : Nat} (hD : 20 ≤ D) (IH : w < 5 → CtX G mX7_readExpr X r 1 (w + 1) D) : CtX G mX7_readPart X r 7 w (D + 1) := by
  intro d K Φ σ p W T f o oc b c hd pre h
  obtain ⟨⟨hX, hp⟩, tk, O, ol, er, e5, -, tl, hw, -, -, hn⟩ := pre
  have hn := hn (by decide)
  have hx := hX.1
  have kr := lxK_r (X := X) (p := p)
  have ep := lxE_p (X := X) hp.2
  have iK : InR (lxK X p) := ⟨by omega, by omega⟩
  have n13 : ¬ (b ≠ 0 ∧ lxW X p = 13) := fun z => hn.elim z.1 (fun u => u z.2)
  have one : ∀ (v : Int) (τ : slM), lxK X p ≠ 0 → -6 ≤ v ∧ v < 10000 → exStep X (0, p, W, f :: T, o, b, c) = (1, lxE X p, W, f :: T, o ++ [v], 0, 0) → rdF r σ τ → τ 7 0 5 = 0 → isTk X (lxE X p) τ → isOc r (oc ++ [v]) τ → Φ (0, 1) τ := fun v τ k0 hv es g1 g2 g3 g4 => by
    have := ep.2.2 k0
    refine h.1 τ (lxE X p) W f (o ++ [v]) [v] ⟨exRe.rf.st es, exDr_7, fun _ => rfl, ⟨by omega, ep.2.1⟩, by show (1 : Int) ≤ _; omega, fun d hd => abRn_1 hv ?_, g1, g2, g3, g4⟩ ⟨fun z => absurd z (by decide), fun z => absurd z (by decide), fun z => absurd z (by decide), fun z => absurd z (by decide), fun z => absurd z (by decide)⟩
    unfold exBd at hd
    rw [if_neg (by decide)] at hd
    omega
  refine vc_X7_readPart hG (by omega) (by omega) ?_
  rw [tk.2.2.2.1]
  refine ⟨iK, fun k40 => ⟨iK, fun k2 => ?_, fun k2 => ?_⟩, fun k40 => ?_⟩
  · refine sp_X7_readNumber hG (by omega) (by omega) hX hp tk ⟨by decide, by decide⟩ ⟨by decide, by decide⟩ (fun q => slKt.ok ⟨⟨by decide, by decide⟩, fun z => absurd rfl z, fun _ => h.2.at (exRe.rf.st ?_) ⟨by decide, by decide⟩ rdF.id⟩) (fun q z => slKt.ok ⟨⟨by decide, by decide⟩, fun z => absurd rfl z, fun _ => h.2.at (exRe.rf.st ?_) ⟨by decide, by decide⟩ rdF.id⟩) (fun q z τ f1 T1 => ?_)
    · rw [exStep_A]
      unfold exA
      rw [if_neg n13, if_neg k40, if_neg q, if_neg k2]
    · have n := lxN_r q
      have e1 : lxN X p = 10000 := by omega
      rw [exStep_A]
      unfold exA
      rw [if_neg n13, if_neg k40, if_pos q, if_pos e1]
    · have n := lxN_r q
      have := ep.2.2 (by omega)
      refine slKt.ok ⟨⟨by omega, by omega⟩, fun _ => ?_, fun u => by omega⟩
      have er1 : τ 7 0 2 = r := by rw [f1 7 0 (by simp)]; exact er
      have O1 : isOc r oc τ := by
        unfold isOc
        rw [f1 4 r (by simp), f1 37 r (by simp)]
        exact O
      rw [er1, Int.toNat_natCast]
      refine sp_X4_put hG (by omega) (by omega) O1 (by omega) (fun τ2 f2 g2 O2 => slKt.ok (one (lxN X p) τ2 (by omega) ⟨by omega, by omega⟩ ?_ ((rdF.nx f1).tr (rdF.pu f2 g2)) ?_ (T1.c (f2 9 0 (by simp)) (f2 58 0 (by simp))) O2))
      · rw [exStep_A]
        unfold exA
        rw [if_neg n13, if_neg k40, if_pos q, if_neg (by omega)]
      · rw [f2 7 0 (by simp), f1 7 0 (by simp)]; exact e5
  · have k3 : ¬ lxK X p = 3 := by omega
    have := ep.2.2 (by omega)
    refine sp_X7_readValue hG (by omega) (by omega) hX hp tk O er (by omega) (fun q => slKt.ok ⟨Or.inl rfl, h.2.at (exRe.rf.st ?_) ⟨by decide, by decide⟩ rdF.id⟩) (fun q τ g1 g2 T1 O1 => slKt.ok ⟨Or.inr rfl, one (-1 - lxW X p) τ (by omega) ⟨by omega, by omega⟩ ?_ g1 (by rw [g2]; exact e5) T1 O1⟩)
    · rw [exStep_A]
      unfold exA
      rw [if_neg n13, if_neg k40, if_neg k3, if_pos k2, if_neg q]
    · rw [exStep_A]
      unfold exA
      rw [if_neg n13, if_neg k40, if_neg k3, if_pos k2, if_pos q]
  · have lt := ep.2.2 (by omega)
    refine sp_X9_next hG (by omega) (by omega) hX tk.1 ⟨by omega, ep.2.1⟩ tk.2.2.1 (fun τ f1 T1 => slKt.ok ?_)
    have er1 : τ 7 0 2 = r := by rw [f1 7 0 (by simp)]; exact er
    have e51 : τ 7 0 5 = 0 := by rw [f1 7 0 (by simp)]; exact e5
    have O1 : isOc r oc τ := by
      unfold isOc
      rw [f1 4 r (by simp), f1 37 r (by simp)]
      exact O
    have len : (f :: T).length = T.length + 1 := rfl
    by_cases w5 : w < 5
    · have es : exStep X (0, p, W, f :: T, o, b, c) = (0, lxE X p, 14 :: W, 0 :: f :: T, o, 1, 0) := by
        rw [exStep_A]
        unfold exA
        rw [if_neg n13, if_pos k40, if_pos (by rw [len]; omega)]
      have re := (exRe.rf (X := X) (s := (0, p, W, f :: T, o, b, c))).st es
      refine IH w5 (W := 14 :: W) (T := f :: T) (f := 0) (o := o) (oc := oc) (b := 1) (c := 0) (p := lxE X p) (by omega) ⟨⟨hX, by omega, ep.2.1⟩, T1, O1, by omega, er1, e51, Or.inl (by decide), by rw [len]; omega, ⟨by omega, by omega⟩, fun _ => ⟨rfl, rfl, rfl⟩, fun z => absurd z (by decide), fun z => absurd z (by decide)⟩ ⟨fun τ2 p' W' f' o' e i x => ?_, h.2.sub re (rdF.nx f1) (fun τ2 z => ⟨in0, fun _ => z, fun u => absurd rfl u⟩)⟩
      obtain ⟨g1, g2, -, g4, g5, g6, g7, g8, g9, g10⟩ := i
      have er2 := lxK_r (X := X) (p := p')
      have ep2 := lxE_p (X := X) g4.2
      have d0 : exDr 0 W' o' = (14 :: W, o ++ e) := by
        rw [exDr_of (l := 0) (m := 1) (by decide) g2]
        exact exDr_top (Or.inl (by decide))
      have mem : (14 : Int) ∈ W' := by
        have key : ∀ (V q : List Int), (14 : Int) ∈ (exDr 0 V q).1 → (14 : Int) ∈ V := by
          intro V
          induction V with
          | nil => intro q z; exact z
          | cons a V ih =>
            intro q z
            by_cases y : 14 ≤ a
            · have e : exDr 0 (a :: V) q = (a :: V, q) := if_pos y
              rw [e] at z
              exact z
            · have e : exDr 0 (a :: V) q = exDr 0 V (q ++ [exOp a]) := by
                show (if 14 ≤ a then _ else if 0 ≤ exSt a then exDr 0 V (q ++ [exOp a]) else _) = _
                rw [if_neg y, if_pos (by have := exSt_r (a := a); omega)]
              rw [e] at z
              exact List.mem_cons_of_mem _ (ih _ z)
        refine key W' o' ?_
        rw [d0]
        exact List.mem_cons_self
      refine slKt.ok ⟨in1, fun z => absurd z (by decide), fun _ => ?_⟩
      refine sp_X7_readSign hG (by omega) (by omega) hX ⟨by omega, g4.2⟩ g9 ⟨by decide, by decide⟩ (fun q => slKt.ok ⟨in0, fun _ => h.2.at ((re.tr g1).st ?_) ⟨by decide, by decide⟩ ((rdF.nx f1).tr g7), fun z => absurd rfl z⟩) (fun q τ3 f3 T3 => slKt.ok ⟨in1, fun z => absurd z (by decide), fun _ => ?_⟩)
      · rw [exStep_B]
        unfold exB
        rw [if_neg (x.2.2.2.1 (by decide)), if_neg (x.2.2.2.2 (by decide)), if_neg (fun z => x.2.2.1 (by decide) z.1 z.2), if_neg (fun z => z.elim (x.2.1 (by decide)).1 (x.2.1 (by decide)).2), if_neg (fun z => z.elim (x.1 (by decide)).1 (x.1 (by decide)).2), if_neg (fun z => q z.1), if_pos (by simp)]
      · have lt2 := ep2.2.2 (by omega)
        have w2 := lxW_2 (X := X) (p := p') (by omega)
        have es2 : exStep X (1, p', W', f' :: f :: T, o', 0, 0) = (1, lxE X p', W, f :: T, o ++ e, 0, 0) := by
          rw [exStep_B]
          unfold exB
          rw [if_neg (by omega), if_neg (by omega), if_neg (fun z => by have := z.1; omega), if_neg (by omega), if_neg (by omega), if_pos ⟨q, mem⟩, d0]
          rfl
        refine h.1 τ3 (lxE X p') W f (o ++ e) e ⟨(re.tr g1).st es2, exDr_7, fun _ => rfl, ⟨by omega, ep2.2.1⟩, by omega, fun d hd => g6 d ?_, ((rdF.nx f1).tr g7).tr (rdF.nx f3), ?_, T3, ?_⟩ ⟨fun z => absurd z (by decide), fun z => absurd z (by decide), fun z => absurd z (by decide), fun z => absurd z (by decide), fun z => absurd z (by decide)⟩
        · unfold exBd at hd ⊢
          rw [if_neg (by decide)] at hd
          rw [if_pos (by decide)]
          omega
        · rw [f3 7 0 (by simp)]; exact g8
        · unfold isOc
          rw [f3 4 r (by simp), f3 37 r (by simp)]
          exact g10
    · have e6 : ¬ w + 1 < 6 := by omega
      have ek := lxK_r (X := X) (p := lxE X p)
      have es : ∀ k : Int, k = (if lxK X (lxE X p) = 3 ∨ lxK X (lxE X p) = 2 ∨ lxK X (lxE X p) = 40 then 2 else 1) → exStep X (0, p, W, f :: T, o, b, c) = exFl k (lxB X (lxE X p)) := fun k ekk => by
        rw [exStep_A, ekk]
        unfold exA
        rw [if_neg n13, if_pos k40, if_neg (by rw [len]; omega)]
      refine vc_X7_readExpr hG (by omega) (by omega) (fun _ _ _ => False) ⟨⟨by omega, by omega⟩, fun z => absurd z e6, fun _ => ?_⟩ (fun _ _ _ z => z.elim)
      refine sp_X7_canBeginExpr hG (by omega) (by omega) T1 (fun q => slKt.ok ⟨in1, ?_⟩) (fun q => slKt.ok ⟨in0, ?_⟩)
      · rw [if_neg (by decide)]
        exact sp_X7_refuse hG (by omega) (by omega) T1 (slKt.ok ⟨Or.inl rfl, slKt.ok ⟨in0, fun _ => h.2.at (exRe.rf.st (es 2 (by rw [if_pos q]))) ⟨by decide, by decide⟩ (rdF.nx f1), fun z => absurd rfl z⟩⟩)
      · rw [if_pos rfl]
        exact sp_X7_refuse hG (by omega) (by omega) T1 (slKt.ok ⟨Or.inl rfl, slKt.ok ⟨in0, fun _ => h.2.at (exRe.rf.st (es 1 (by rw [if_neg q]))) ⟨by decide, by decide⟩ (rdF.nx f1), fun z => absurd rfl z⟩⟩)
