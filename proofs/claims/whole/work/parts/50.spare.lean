/-! ===== sparing oil ===== -/
noncomputable def abFsd (p : Int → Prop) (e : Int) (k : Nat) : Nat → Int
  | 0 => e
  | n + 1 => abIf (p k) k (abFsd p e (k + 1) n)
theorem abFsd_s {p : Int → Prop} {e y N : Int} (h : 0 ≤ y) (h' : y < N) : abFsd p e y.toNat (N - y).toNat = abIf (p y) y (abFsd p e (y + 1).toNat (N - (y + 1)).toNat) := by
  rw [show (N - y).toNat = (N - (y + 1)).toNat + 1 by omega, show (y + 1).toNat = y.toNat + 1 by omega]
  show abIf (p (y.toNat : Int)) (y.toNat : Int) _ = _
  rw [show ((y.toNat : Nat) : Int) = y by omega]
noncomputable def abSpV (Z : abZ) (l v : Int) : Int := abSW Z.1 (abCL Z.1 (Z.2.1.1 3 0) (abPut (Z.2.1.1 0) l v) (Z.2.1.1 2)) (abPut (Z.2.1.1 0) l v) (Z.2.1.1 1)
noncomputable def abDue (Z : abZ) : Int := abSW Z.1 (abCL Z.1 (Z.2.1.1 3 0) (Z.2.1.1 0) (Z.2.1.1 2)) (Z.2.1.1 0) (Z.2.1.1 1)
noncomputable def abSpr (Z : abZ) (l : Int) : Int := abFsd (fun v => abDue Z ≤ abSpV Z l v) (Z.2.1.1 0 l) 0 (Z.2.1.1 0 l).toNat
theorem abSpV_own {Z : abZ} {l : Int} : abSpV Z l (Z.2.1.1 0 l) = abDue Z := by
  unfold abSpV abDue
  rw [abPut_id]
theorem abSpV_r {Z : abZ} {l v : Int} (hC : gdC Z.1) : 0 ≤ abSpV Z l v ∧ abSpV Z l v ≤ 1920 := abSW_r hC
theorem abDue_r {Z : abZ} (hC : gdC Z.1) : 0 ≤ abDue Z ∧ abDue Z ≤ 1920 := abSW_r hC
theorem oil_put {P : abP} {o : Int → Int} {l v : Int} (h : ∀ k : Int, 0 ≤ k → k < P 1 3 → 0 ≤ o k ∧ o k ≤ 200) (hv : 0 ≤ v ∧ v ≤ 200) : ∀ k : Int, 0 ≤ k → k < P 1 3 → 0 ≤ abPut o l v k ∧ abPut o l v k ≤ 200 := fun k a b => by
  unfold abPut
  by_cases z : k = l
  · rw [if_pos z]; exact hv
  · rw [if_neg z]; exact h k a b
set_option maxHeartbeats 1000000 in
set_option maxRecDepth 4000 in
theorem sp_X11_sparing {G : slG} (hG : slGood G) {d K : Nat} (hd : 50 ≤ d) (hK : 1 ≤ K) {Φ : slPost} {σ : slM} {x1 : Int} {c s N : Nat} {Z : abZ} (hX : isX c s Z σ) (hZ : gdZ N Z) (i1 : InR x1) (h : cA c s Z σ Φ (abOk (0 ≤ x1 ∧ x1 < Z.1 1 3) (abSpr Z x1))) :
    slCall G mX11_sparing d K [sR 11 0, sI x1] σ Φ := by
  refine vc_X11_sparing hG (by omega) hK (fun μ y2 y3 y4 σ' => (0 ≤ x1 ∧ x1 < Z.1 1 3) ∧ cS c s Z σ σ' ∧ (∃ v, isG Z (Z.2.1.1 2) (abPut (Z.2.1.1 0) x1 v) σ') ∧ (∀ h l : Int, 0 ≤ h → h < 240 → 0 ≤ l → l < Z.1 1 3 → l ≠ x1 → σ' 55 1 (h * 5 + l).toNat = abG Z.1 (Z.2.1.1 3 0) (Z.2.1.1 0 l) h l) ∧ y2 = abDue Z ∧ y3 = Z.2.1.1 0 x1 ∧ μ = ((y3 - y4).toNat, 0, 0) ∧ (0 ≤ y4 ∧ y4 ≤ y3) ∧ abSpr Z x1 = abFsd (fun v => abDue Z ≤ abSpV Z x1 v) (Z.2.1.1 0 x1) y4.toNat (y3 - y4).toNat) ?_ ?_
  · have hV := hZ.v
    have a3 := hZ.c.2.2.2.1
    have a4 := hZ.c.2.2.2.2.1
    refine sp_X11_needLight hG (by omega) (by omega) hX hZ.c i1 (fun q1 => slKt.ok ?_) (fun q => slKt.ex (Or.inl rfl) (h.no q cQ.id hX))
    refine sp_X11_settle hG (by omega) (by omega) hX hZ (fun τ f x t => slKt.ok ?_)
    have m0 : cS c s Z σ τ := ⟨f, x, t⟩
    have o := hV.2.1 x1 q1.1 q1.2
    rw [x.e4, x.cc.1]
    refine sp_X3_sumOfWatches hG (by omega) (by omega) (V := abNow Z.1 (abC Z.1 Z.2.1.1) (Z.2.1.1 0) (Z.2.1.1 1)) ⟨by omega, by omega⟩ (fun k y a b c d => t.2.2.2 k y a b c d) (fun k y a1 a2 a3 => abNow_day a3) (slKt.ok ⟨⟨by omega, by omega⟩, ?_⟩)
    rw [x.e5, x.ss.1 x1 q1.1 q1.2]
    refine cS.take hG (by omega) hZ m0 (fun τ1 m1 g1 _ => slKt.ok ?_)
    rw [m1.2.1.e4, m1.2.1.e5, m1.2.1.ss.2.2.2.1]
    refine sp_X10_plan hG (by omega) (by omega) m1.2.1.cc hZ.c (fun l a b => by rw [m1.2.1.ss.1 l a b]; exact hV.2.1 l a b) hV.2.2.2.2 (fun τ2 f2 t2 => slKt.ok ?_)
    have m2 : cS c s Z σ τ2 := m1.fr f2 (by simp [slSc]) (fun k hk => by rw [f2 36 1 (by simp)]; exact m1.dz k hk)
    refine ⟨_, q1, m2, ⟨Z.2.1.1 0 x1, ?_⟩, fun y l a b c d _ => ?_, rfl, rfl, rfl, ⟨by omega, by omega⟩, ?_⟩
    · rw [abPut_id]; exact g1.c (f2 51 3 (by simp)) (f2 52 3 (by simp)) (f2 54 3 (by simp))
    · rw [t2.1 y l a b c d]
      show abG _ _ (τ1 52 s l.toNat) _ _ = _
      rw [m1.2.1.ss.1 l c d]
    · show abFsd _ _ 0 _ = abFsd _ _ 0 _
      rw [show (Z.2.1.1 0 x1 - 0).toNat = (Z.2.1.1 0 x1).toNat by omega]
  · have hV := hZ.v
    have a3 := hZ.c.2.2.2.1
    rintro μ y2 y3 y4 σ' ⟨q1, m, ⟨v, g⟩, c55, rfl, rfl, rfl, hy, e⟩
    have o := hV.2.1 x1 q1.1 q1.2
    have d1 := abDue_r (Z := Z) hZ.c
    have d2 := abSpV_r (Z := Z) (l := x1) (v := y4) hZ.c
    refine ⟨⟨⟨by omega, by omega⟩, by omega, by omega⟩, fun q => ?_, fun q => ⟨⟨by omega, by omega⟩, ?_⟩⟩
    · have k := h.yes q1 m.1 m.2.1
      rw [e, show (Z.2.1.1 0 x1 - y4).toNat = 0 by omega] at k
      exact k
    · have f0 : slFr [(52, 3)] σ' (slU σ' 52 3 x1.toNat y4) := slFr.id.up (by simp)
      have m0 : cS c s Z σ (slU σ' 52 3 x1.toNat y4) := m.fr f0 (by decide) (fun k hk => by rw [slU_else (by decide)]; exact m.dz k hk)
      have g0 : isG Z (Z.2.1.1 2) (abPut (Z.2.1.1 0) x1 y4) (slU σ' 52 3 x1.toNat y4) := by
        refine ⟨fun l a b => ?_, fun l a b => ?_, fun l a b => ?_⟩
        · rw [slU_else (by decide)]; exact g.1 l a b
        · have := g.2.1 l a b
          unfold abPut at this ⊢
          by_cases z : l = x1
          · rw [if_pos z, z, slU_same]
          · rw [if_neg z] at this ⊢
            rw [slU_ne (by omega)]; exact this
        · rw [slU_else (by decide)]; exact g.2.2 l a b
      have op := oil_put (l := x1) hV.2.1 (v := y4) ⟨by omega, by omega⟩
      rw [m0.2.1.e4, m0.2.1.e5, m0.2.1.ss.2.2.2.1]
      refine sp_X10_weigh hG (by omega) (by omega) m0.2.1.cc hZ.c q1 ⟨by omega, by omega⟩ hV.2.2.2.2 (fun τ1 f1 t1 => slKt.ok ?_)
      have m1 : cS c s Z σ τ1 := m0.fr f1 (by simp [slSc]) (fun k hk => by rw [f1 36 1 (by simp)]; exact m0.dz k hk)
      have g1 := g0.c (f1 51 3 (by simp)) (f1 52 3 (by simp)) (f1 54 3 (by simp))
      have w1 : ∀ y l : Int, 0 ≤ y → y < 240 → 0 ≤ l → l < Z.1 1 3 → τ1 55 1 (y * 5 + l).toNat = abG Z.1 (Z.2.1.1 3 0) (abPut (Z.2.1.1 0) x1 y4 l) y l := fun y l a b c d => by
        rw [t1 y l a b c (by omega)]
        unfold abPut
        by_cases z : l = x1
        · rw [if_pos z, if_pos z, z]
        · rw [if_neg z, if_neg z, slU_else (by decide)]; exact c55 y l a b c d z
      rw [m1.2.1.e4, m1.2.1.cc.1]
      refine sp_X10_arrange hG (by omega) (by omega) ⟨by omega, by omega⟩ (fun y l a b c d => by rw [w1 y l a b c d]; exact abG_in hZ.c hV.2.2.2.2 (op l c d) ⟨c, d⟩ ⟨a, b⟩) (fun τ2 f2 t2 => slKt.ok ?_)
      have m2 : cS c s Z σ τ2 := m1.fr f2 (by decide) (fun k hk => by rw [f2 36 1 (by simp)]; exact m1.dz k hk)
      have g2 := g1.c (f2 51 3 (by simp)) (f2 52 3 (by simp)) (f2 54 3 (by simp))
      have T2 : abTurns Z.1 (Z.2.1.1 3 0) (abPut (Z.2.1.1 0) x1 y4) 1 τ2 := ⟨fun y l a b c d => by rw [f2 55 1 (by simp)]; exact w1 y l a b c d, fun y a b => by rw [t2 y a b]; exact abSort_c (fun l c d => w1 y l a b c (by omega))⟩
      rw [m2.2.1.e4]
      refine ct_sail hG (by omega) hZ m2 (b := Z.2.1.1 2) (oil := abPut (Z.2.1.1 0) x1 y4) (law := Z.2.1.1 3 0) g2.1 hV.1 (plan_ord T2 (fun l a b => rfl) hZ.c) (fun τ3 m3 f3 c3 => slKt.ok ?_)
      have g3 := g2.c (f3 51 3 (by simp)) (f3 52 3 (by simp)) (f3 54 3 (by simp))
      rw [m3.2.1.e4]
      refine ct_look hG (by omega) hZ m3 (fun l a b => ⟨g3.2.1 l a b, op l a b⟩) hV.1 c3 (fun τ4 m4 f4 c4 => slKt.ok ?_)
      have g4 := g3.c (f4 51 3 (by simp)) (f4 52 3 (by simp)) (f4 54 3 (by simp))
      rw [m4.2.1.e4, m4.2.1.cc.1]
      rw [abFsd_s hy.1 (by omega)] at e
      refine ct_sum hG (by omega) hZ c4 (slKt.ok ?_)
      show ((InR (abSpV Z x1 y4)) ∧ (InR (abDue Z))) ∧ (abSpV Z x1 y4 < abDue Z → _) ∧ (¬ (abSpV Z x1 y4 < abDue Z) → _)
      refine ⟨⟨⟨by omega, by omega⟩, by omega, by omega⟩, fun w => ⟨_, Or.inl (by show (Z.2.1.1 0 x1 - (y4 + 1)).toNat < (Z.2.1.1 0 x1 - y4).toNat; omega), q1, m4, ⟨y4, g4⟩, fun y l a b c d ne => ?_, rfl, rfl, rfl, ⟨by omega, by omega⟩, ?_⟩, fun w => ?_⟩
      · rw [f4 55 1 (by simp), f3 55 1 (by simp), T2.1 y l a b c d]
        unfold abPut
        rw [if_neg ne]
      · rw [e, abIf_f (by omega)]
      · have k := h.yes q1 m4.1 m4.2.1
        rw [e, abIf_t (by omega)] at k
        exact k
theorem abUnd_tw {T : Int → Int → Int} {k w v v' : Int} : abUnd (abUnd T k w v) k w v' = abUnd T k w v' := by
  funext a b
  unfold abUnd
  by_cases z : a = k ∧ b = w
  · rw [if_pos z, if_pos z]
  · rw [if_neg z, if_neg z, if_neg z]
theorem abUnd_id {T : Int → Int → Int} {k w : Int} : abUnd T k w (T k w) = T := by
  funext a b
  unfold abUnd
  by_cases z : a = k ∧ b = w
  · rw [if_pos z, z.1, z.2]
  · rw [if_neg z]
theorem isY.re {Z : abZ} {σ : slM} {k w v v' : Int} (hY : isY (Z.1, (abUnd Z.2.1.1 k w v, Z.2.1.2), Z.2.2) σ) (hC : gdC Z.1) (hk : 0 ≤ k ∧ k ≤ 4) (hw : 0 ≤ w ∧ w < abMany Z.1 k) : isY (Z.1, (abUnd Z.2.1.1 k w v', Z.2.1.2), Z.2.2) (slU σ 88 0 (abPl k w).toNat v') := by
  have a : isY (Z.1, (abUnd (abUnd Z.2.1.1 k w v) k w v', Z.2.1.2), Z.2.2) (slU σ 88 0 (abPl k w).toNat v') := by
    refine hY.st (mFr.id.up (by decide) (by decide)) (hY.2.1.und hC hk hw (fun i => slU_at) ?_ ?_ ?_ ?_)
    · rw [slU_else (by decide)]; exact hY.2.1.2.2.2.2.2.1
    · rw [slU_else (by decide)]; exact hY.2.1.2.2.2.2.2.2.1
    · rw [slU_else (by decide)]
    · rw [slU_else (by decide)]
  rw [abUnd_tw] at a
  exact a
theorem abUnd0 {T : Int → Int → Int} {l c : Int} : abUnd T 0 l c 0 = abPut (T 0) l c := by
  funext k
  unfold abUnd abPut
  by_cases z : k = l
  · rw [if_pos ⟨rfl, z⟩, if_pos z]
  · rw [if_neg (fun w => z w.2), if_neg z]
set_option maxHeartbeats 1000000 in
set_option maxRecDepth 4000 in
theorem sp_X12_sparing {G : slG} (hG : slGood G) {d K : Nat} (hd : 50 ≤ d) (hK : 0 ≤ K) {Φ : slPost} {σ : slM} {x1 : Int} {N : Nat} {Z : abZ} (hY : isY Z σ) (hZ : gdZ N Z) (i1 : InR x1) (h : ∀ τ, mdF σ τ → isY Z τ → τ 12 0 0 = (abOk (0 ≤ x1 ∧ x1 < Z.1 1 3) (abSpr Z x1)).1 → Φ (0, (abOk (0 ≤ x1 ∧ x1 < Z.1 1 3) (abSpr Z x1)).2) τ) :
    slCall G mX12_sparing d K [sR 12 0, sI x1] σ Φ := by
  refine vc_X12_sparing hG (by omega) hK (fun μ y2 y3 y4 y5 σ' => (0 ≤ x1 ∧ x1 < Z.1 1 3) ∧ mdF σ σ' ∧ (∃ v, isY (Z.1, (abUnd Z.2.1.1 0 x1 v, Z.2.1.2), Z.2.2) σ') ∧ σ' 12 0 0 = 0 ∧ y2 = abDue Z ∧ y3 = Z.2.1.1 0 x1 ∧ μ = ((300 - y5).toNat, 0, 0) ∧ (0 ≤ y5 ∧ y5 ≤ 201) ∧ (-1 ≤ y4 ∧ y4 ≤ 200) ∧ (y4 = -1 → y5 ≤ y3 ∧ abSpr Z x1 = abFsd (fun v => abDue Z ≤ abSpV Z x1 v) (Z.2.1.1 0 x1) y5.toNat (y3 - y5).toNat) ∧ (¬ y4 = -1 → y4 = abSpr Z x1)) ?_ ?_
  · have hV := hZ.v
    have a3 := hZ.c.2.2.2.1
    have y0 := hY.z
    have f0 : mdF σ (slU σ 12 0 0 0) := mdF.id.up (Or.inl rfl)
    refine sp_X12_isLight hG (by omega) (by omega) y0.1 hZ.c i1 (slU_same _ _ _ _ _) (fun q1 => slKt.ok ⟨in1, fun _ => ?_, fun z => absurd z (by decide)⟩) (fun q => slKt.ok ⟨in0, fun z => absurd rfl z, fun _ => ?_⟩)
    · have o := hV.2.1 x1 q1.1 q1.2
      rw [y0.sb.2.2]
      refine sp_X12_sumBy hG (by omega) (by omega) y0.1 hZ.c hV.2.2.2.2 y0.sb.1 hV.1 y0.sb.2.1 hV.2.1 y0.mo hV.2.2.1 (fun τ f => slKt.ok ⟨⟨by omega, by omega⟩, ?_⟩)
      have Y1 := y0.q (mSq f)
      rw [Y1.sb.2.1 x1 q1.1 q1.2]
      refine ⟨_, q1, f0.tr (f.md (by decide)), ⟨Z.2.1.1 0 x1, by rw [abUnd_id]; exact Y1⟩, by rw [mSt f, slU_same], rfl, rfl, rfl, ⟨by omega, by omega⟩, ⟨by omega, by omega⟩, fun _ => ⟨by omega, ?_⟩, fun z => absurd rfl z⟩
      show abFsd _ _ 0 _ = abFsd _ _ 0 _
      rw [show (Z.2.1.1 0 x1 - 0).toNat = (Z.2.1.1 0 x1).toNat by omega]
    · have := h (slU (slU σ 12 0 0 0) 12 0 0 1) (f0.up (Or.inl rfl)) (y0.q mQ.id.t0)
      rw [abOk_f q] at this
      exact this (slU_same _ _ _ _ _)
  · have hV := hZ.v
    have a3 := hZ.c.2.2.2.1
    rintro μ y2 y3 y4 y5 σ' ⟨q1, f, ⟨v, Y⟩, e0, rfl, rfl, rfl, hy, hy4, k1, k2⟩
    have o := hV.2.1 x1 q1.1 q1.2
    have d1 := abDue_r (Z := Z) hZ.c
    have d2 := abSpV_r (Z := Z) (l := x1) (v := y5) hZ.c
    have hw : 0 ≤ x1 ∧ x1 < abMany Z.1 0 := by unfold abMany; omega
    have ep : (abPl 0 x1).toNat = (0 + x1).toNat := by rw [Int.zero_add]; rfl
    have fin : ¬ y4 = -1 → Φ (0, y4) (slU σ' 88 0 (0 + x1).toNat (Z.2.1.1 0 x1)) := fun z => by
      have B := Y.back hZ.c ⟨by decide, by decide⟩ hw
      rw [ep] at B
      have k := h _ (f.up (Or.inr (by decide))) B
      rw [abOk_t q1] at k
      rw [k2 z]
      exact k (by rw [slU_else (by decide)]; exact e0)
    refine ⟨⟨by omega, by omega⟩, fun q => ⟨⟨by omega, by omega⟩, fin (fun z => by have := (k1 z).1; omega)⟩, fun q => ⟨⟨by omega, by omega⟩, fun z => ⟨⟨by omega, by omega⟩, fin z⟩, fun z => ⟨⟨by omega, by omega⟩, ?_⟩⟩⟩
    have k3 := k1 z
    have Y2 := Y.re (v' := y5) hZ.c ⟨by decide, by decide⟩ hw
    rw [ep] at Y2
    have sb := Y2.sb
    have op := oil_put (l := x1) hV.2.1 (v := y5) ⟨by omega, by omega⟩
    have sb1 : ∀ l : Int, 0 ≤ l → l < Z.1 1 3 → slU σ' 88 0 (0 + x1).toNat y5 88 0 (13 + l).toNat = Z.2.1.1 2 l := fun l a b => by rw [← abUnd_o (T := Z.2.1.1) (k := 0) (l := x1) (c := y5) (show (2 : Int) ≠ 0 by decide)]; exact sb.1 l a b
    have sb2 : ∀ l : Int, 0 ≤ l → l < Z.1 1 3 → slU σ' 88 0 (0 + x1).toNat y5 88 0 (0 + l).toNat = abPut (Z.2.1.1 0) x1 y5 l := fun l a b => by rw [← abUnd0]; exact sb.2.1 l a b
    have sb3 : slU σ' 88 0 (0 + x1).toNat y5 88 0 18 = Z.2.1.1 3 0 := by rw [← abUnd_o (T := Z.2.1.1) (k := 0) (l := x1) (c := y5) (show (3 : Int) ≠ 0 by decide)]; exact sb.2.2
    have sb4 : mMo Z.1 (Z.2.1.1 1) (slU σ' 88 0 (0 + x1).toNat y5) := fun l a b => by rw [← abUnd_o (T := Z.2.1.1) (k := 0) (l := x1) (c := y5) (show (1 : Int) ≠ 0 by decide)]; exact Y2.mo l a b
    rw [sb3]
    refine sp_X12_sumBy hG (by omega) (by omega) Y2.1 hZ.c hV.2.2.2.2 sb1 hV.1 sb2 op sb4 hV.2.2.1 (fun τ f2 => slKt.ok ?_)
    show ((InR (abSpV Z x1 y5)) ∧ (InR (abDue Z))) ∧ _
    have F : mdF σ τ := (f.up (Or.inr (by decide))).tr (f2.md (by decide))
    have E : τ 12 0 0 = 0 := by rw [mSt f2, slU_else (by decide)]; exact e0
    refine ⟨⟨⟨by omega, by omega⟩, by omega, by omega⟩, _, Or.inl (by show (300 - (y5 + 1)).toNat < (300 - y5).toNat; omega), q1, F, ⟨y5, Y2.q (mSq f2)⟩, E, rfl, rfl, rfl, ⟨by omega, by omega⟩, ?_, fun u => ?_, fun u => ?_⟩
    · show -1 ≤ (if abSpV Z x1 y5 < abDue Z then -1 else y5) ∧ (if abSpV Z x1 y5 < abDue Z then -1 else y5) ≤ 200
      omega
    · have u : (if abSpV Z x1 y5 < abDue Z then -1 else y5) = -1 := u
      have lt : abSpV Z x1 y5 < abDue Z := by
        by_cases w : abSpV Z x1 y5 < abDue Z
        · exact w
        · rw [if_neg w] at u; omega
      have ne : y5 ≠ Z.2.1.1 0 x1 := fun w => by rw [w, abSpV_own] at lt; omega
      refine ⟨by omega, ?_⟩
      rw [k3.2, abFsd_s hy.1 (by omega), abIf_f (by omega)]
    · have u : ¬ (if abSpV Z x1 y5 < abDue Z then -1 else y5) = -1 := u
      show (if abSpV Z x1 y5 < abDue Z then -1 else y5) = _
      have ge : ¬ abSpV Z x1 y5 < abDue Z := fun w => u (if_pos w)
      rw [if_neg ge, k3.2]
      by_cases w : y5 = Z.2.1.1 0 x1
      · rw [show (Z.2.1.1 0 x1 - y5).toNat = 0 by omega]
        exact w
      · rw [abFsd_s hy.1 (by omega), abIf_t (by omega)]
