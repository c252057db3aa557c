/-! ===== questions: how the class and the model answer them ===== -/
def cA (c s : Nat) (Z : abZ) (σ : slM) (Φ : slPost) (a : Nat × Int) : Prop := ∀ τ, cQ σ τ → isX c s Z τ → Φ a τ
def mA (Z : abZ) (σ : slM) (Φ : slPost) (a : Nat × Int) : Prop := ∀ τ, mQ σ τ → isY Z τ → τ 12 0 0 = a.1 → Φ (0, a.2) τ
theorem cA.no {c s : Nat} {Z : abZ} {σ τ : slM} {Φ : slPost} {p : Prop} {v : Int} (h : cA c s Z σ Φ (abOk p v)) (hp : ¬ p) (f : cQ σ τ) (hX : isX c s Z τ) : Φ (1, 0) τ := by
  have := h τ f hX
  rwa [abOk_f hp] at this
theorem cA.yes {c s : Nat} {Z : abZ} {σ τ : slM} {Φ : slPost} {p : Prop} {v : Int} (h : cA c s Z σ Φ (abOk p v)) (hp : p) (f : cQ σ τ) (hX : isX c s Z τ) : Φ (0, v) τ := by
  have := h τ f hX
  rwa [abOk_t hp] at this
theorem mA.no {Z : abZ} {σ τ : slM} {Φ : slPost} {p : Prop} {v : Int} (h : mA Z σ Φ (abOk p v)) (hp : ¬ p) (f : mQ σ τ) (hY : isY Z τ) : Φ (0, 0) (slU τ 12 0 0 1) := by
  have := h (slU τ 12 0 0 1) f.t0 (hY.q mQ.id.t0)
  rw [abOk_f hp] at this
  exact this (slU_same _ _ _ _ _)
theorem mA.yes {Z : abZ} {σ τ : slM} {Φ : slPost} {p : Prop} {v : Int} (h : mA Z σ Φ (abOk p v)) (hp : p) (f : mQ σ τ) (hY : isY Z τ) (e : τ 12 0 0 = 0) : Φ (0, v) τ := by
  have := h τ f hY
  rw [abOk_t hp] at this
  exact this e
theorem mQ.tr {σ τ υ : slM} (h1 : mQ σ τ) (h2 : mQ τ υ) : mQ σ υ := mFr.tr h1 h2
theorem isY.z {Z : abZ} {σ : slM} (h : isY Z σ) : isY Z (slU σ 12 0 0 0) := h.q mQ.id.t0
theorem in0 : InR 0 := ⟨by decide, by decide⟩
theorem in1 : InR 1 := ⟨by decide, by decide⟩
theorem mSq {σ τ : slM} (f : mFr [90, 91, 92, 93, 94, 95] [65] σ τ) : mQ σ τ := f.q (by decide) (by decide)
theorem mSt {σ τ : slM} (f : mFr [90, 91, 92, 93, 94, 95] [65] σ τ) : τ 12 0 0 = σ 12 0 0 := f.2 0 (by decide)
theorem isY.mo {Z : abZ} {σ : slM} (h : isY Z σ) : mMo Z.1 (Z.2.1.1 1) σ := h.2.1.2.1
theorem abNow_r {P : abP} {C : Int → Int → Int} {oil mo : Int → Int} {s h : Int} (hC : gdC P) : 0 ≤ abNow P C oil mo s h ∧ abNow P C oil mo s h < 32 := abSeen_r hC
theorem abNow_day {P : abP} {C : Int → Int → Int} {oil mo : Int → Int} {s h : Int} (hd : h % 24 < 12) : abNow P C oil mo s h = 0 := abSeen_day hd
/-- the first number from k on, of n, that has p; else -1 -/
noncomputable def abFst (p : Int → Prop) (k : Nat) : Nat → Int
  | 0 => -1
  | n + 1 => abIf (p k) k (abFst p (k + 1) n)
theorem abFst_s {p : Int → Prop} {y N : Int} (h : 0 ≤ y) (h' : y < N) : abFst p y.toNat (N - y).toNat = abIf (p y) y (abFst p (y + 1).toNat (N - (y + 1)).toNat) := by
  rw [show (N - y).toNat = (N - (y + 1)).toNat + 1 by omega, show (y + 1).toNat = y.toNat + 1 by omega]
  show abIf (p (y.toNat : Int)) (y.toNat : Int) _ = _
  rw [show ((y.toNat : Nat) : Int) = y by omega]
/-- what the model holds behind its sailing -/
def mS (Z : abZ) (σ τ : slM) : Prop := mQ σ τ ∧ isY Z τ ∧ τ 12 0 0 = 0 ∧ mSl 240 Z.1 (abC Z.1 Z.2.1.1) (Z.2.1.1 0) τ
/-- what the class holds behind settling -/
def cS (c s : Nat) (Z : abZ) (σ τ : slM) : Prop := cQ σ τ ∧ isX c s Z τ ∧ isStl Z.1 Z.2.1.1 τ
theorem ms_now {G : slG} (hG : slGood G) {d K : Nat} (hd : 12 ≤ d) {Φ : slPost} {σ σ0 : slM} {N : Nat} {Z : abZ} (hY : isY Z σ) (hZ : gdZ N Z) (f : mQ σ0 σ) (ht : σ 12 0 0 = 0) (h : ∀ τ, mS Z σ0 τ → Φ (0, 0) τ) : slCall G mX12_sailsNow d K [sR 12 0] σ Φ := by
  refine sp_X12_sailsNow hG (by omega) (by omega) hY hZ (fun τ f1 c1 => h τ ⟨f.tr (mSq f1), hY.q (mSq f1), by rw [mSt f1]; exact ht, c1⟩)
/-! the answers -/
noncomputable def abShip (P : abP) (T : Int → Int → Int) (s w : Int) : Int := if w = 0 then T 1 s else if w = 1 then T 4 s else if w = 2 then abUns (abNow P (abC P T) (T 0) (T 1) s) 0 10 else (abDk (abNow P (abC P T) (T 0) (T 1) s) 240).1
set_option maxHeartbeats 1000000 in
set_option maxRecDepth 4000 in
theorem sp_X11_ship {G : slG} (hG : slGood G) {d K : Nat} (hd : 50 ≤ d) (hK : 2 ≤ K) {Φ : slPost} {σ : slM} {x1 : Int} {x2 : Int} {c s N : Nat} {Z : abZ} (hX : isX c s Z σ) (hZ : gdZ N Z) (i1 : InR x1) (i2 : InR x2) (h : cA c s Z σ Φ (abOk ((0 ≤ x1 ∧ x1 < Z.1 1 4) ∧ 0 ≤ x2 ∧ x2 < 4) (abShip Z.1 Z.2.1.1 x1 x2))) :
    slCall G mX11_ship d K [sR 11 0, sI x1, sI x2] σ Φ := by
  refine vc_X11_ship hG (by omega) hK  ?_
  have a4 := hZ.c.2.2.2.2.1
  refine sp_X11_needShip hG (by omega) (by omega) hX hZ.c i1 (fun q1 => slKt.ok ?_) (fun q => slKt.ex (Or.inl rfl) (h.no (fun z => q z.1) cQ.id hX))
  refine sp_X11_needWhat hG (by omega) (by omega) i2 ⟨by decide, by decide⟩ (fun q2 => slKt.ok ?_) (fun q => slKt.ex (Or.inl rfl) (h.no (fun z => q z.2) cQ.id hX))
  have h2 := fun τ => h.yes (τ := τ) ⟨q1, q2⟩
  unfold abShip at h2
  refine ⟨i2, fun e0 => ⟨i2, fun e1 => ?_, fun e1 => ⟨⟨by omega, by omega⟩, ?_⟩⟩, fun e0 => ⟨⟨by omega, by omega⟩, ?_⟩⟩
  · refine sp_X11_settle hG (by omega) (by omega) hX hZ (fun τ f x t => slKt.ok ⟨i2, fun e2 => ?_, fun e2 => ?_⟩)
    · refine sp_X3_longestDark hG (by omega) (by omega) (W := abNow Z.1 (abC Z.1 Z.2.1.1) (Z.2.1.1 0) (Z.2.1.1 1) x1) ⟨by omega, by omega⟩ (fun k a b => ⟨t.2.2.2 x1 k q1.1 q1.2 a b, abNow_r hZ.c⟩) (slKt.ok ?_)
      have k := h2 τ f x
      rwa [if_neg e0, if_neg e1, if_neg e2] at k
    · refine sp_X3_firstUnseen hG (by omega) (by omega) (W := abNow Z.1 (abC Z.1 Z.2.1.1) (Z.2.1.1 0) (Z.2.1.1 1) x1) ⟨by omega, by omega⟩ (fun k a b => ⟨t.2.2.2 x1 k q1.1 q1.2 a b, abNow_r hZ.c⟩) (fun k a => abNow_day a) (slKt.ok ?_)
      have k := h2 τ f x
      rwa [if_neg e0, if_neg e1, if_pos e2] at k
  · have k := h2 σ cQ.id hX
    rw [if_neg e0, if_pos e1] at k
    rw [hX.e5, hX.ss.2.2.2.2.1 x1 q1.1 q1.2]
    exact k
  · have k := h2 σ cQ.id hX
    rw [if_pos e0] at k
    rw [hX.e5, hX.ss.2.1 x1 q1.1 q1.2]
    exact k
set_option maxHeartbeats 1000000 in
set_option maxRecDepth 4000 in
theorem sp_X12_ship {G : slG} (hG : slGood G) {d K : Nat} (hd : 50 ≤ d) (hK : 0 ≤ K) {Φ : slPost} {σ : slM} {x1 : Int} {x2 : Int} {N : Nat} {Z : abZ} (hY : isY Z σ) (hZ : gdZ N Z) (i1 : InR x1) (i2 : InR x2) (h : mA Z σ Φ (abOk ((0 ≤ x1 ∧ x1 < Z.1 1 4) ∧ 0 ≤ x2 ∧ x2 < 4) (abShip Z.1 Z.2.1.1 x1 x2))) :
    slCall G mX12_ship d K [sR 12 0, sI x1, sI x2] σ Φ := by
  refine vc_X12_ship hG (by omega) hK  ?_
  have a4 := hZ.c.2.2.2.2.1
  have y0 := hY.z
  refine sp_X12_isShip hG (by omega) (by omega) y0.1 hZ.c i1 (slU_same _ _ _ _ _) (fun q1 => slKt.ok ⟨in1, fun z => absurd z (by decide), fun _ => ?_⟩) (fun q => slKt.ok ⟨in0, fun _ => h.no (fun z => q z.1) mQ.id.t0 y0, fun z => absurd rfl z⟩)
  refine sp_X12_isWhat hG (by omega) (by omega) i2 ⟨by decide, by decide⟩ (slU_same _ _ _ _ _) (fun q2 => slKt.ok ⟨in1, fun _ => ?_, fun z => absurd z (by decide)⟩) (fun q => slKt.ok ⟨in0, fun z => absurd rfl z, fun _ => h.no (fun z => q z.2) mQ.id.t0 y0⟩)
  have h2 := fun τ => h.yes (τ := τ) ⟨q1, q2⟩
  unfold abShip at h2
  refine ⟨i2, fun e0 => ?_, fun e0 => ⟨i2, fun e1 => ⟨⟨by omega, by omega⟩, ?_⟩, fun e1 => ⟨⟨by omega, by omega⟩, ?_⟩⟩⟩
  · refine ms_now hG (by omega) y0 hZ mQ.id.t0 (slU_same _ _ _ _ _) (fun τ m => slKt.ok ⟨i2, fun e2 => ?_, fun e2 => ?_⟩)
    · refine sp_X12_longestDark hG (by omega) (by omega) m.2.1.1 hZ.c m.2.2.2 hZ.v.k m.2.1.mo hZ.v.2.2.1 q1 (slKt.ok ?_)
      have k := h2 τ m.1 m.2.1 m.2.2.1
      rwa [if_neg (by omega), if_neg (by omega), if_neg e2] at k
    · refine sp_X12_unseen hG (by omega) (by omega) m.2.1.1 hZ.c m.2.2.2 hZ.v.k m.2.1.mo hZ.v.2.2.1 q1 (slKt.ok ?_)
      have k := h2 τ m.1 m.2.1 m.2.2.1
      rwa [if_neg (by omega), if_neg (by omega), if_pos e2] at k
  · have k := h2 _ mQ.id.t0 y0 (slU_same _ _ _ _ _)
    rw [if_neg e1, if_pos (by omega)] at k
    rw [y0.2.1.2.2.2.2.1 x1 q1.1 q1.2]
    exact k
  · have k := h2 _ mQ.id.t0 y0 (slU_same _ _ _ _ _)
    rw [if_pos e1] at k
    rw [y0.2.1.2.1 x1 q1.1 q1.2]
    exact k
set_option maxHeartbeats 1000000 in
set_option maxRecDepth 4000 in
theorem sp_X11_where {G : slG} (hG : slGood G) {d K : Nat} (hd : 50 ≤ d) (hK : 2 ≤ K) {Φ : slPost} {σ : slM} {x1 : Int} {x2 : Int} {c s N : Nat} {Z : abZ} (hX : isX c s Z σ) (hZ : gdZ N Z) (i1 : InR x1) (i2 : InR x2) (h : cA c s Z σ Φ (abOk ((0 ≤ x1 ∧ x1 < Z.1 1 3) ∧ 0 ≤ x2 ∧ x2 < 240) (abC Z.1 Z.2.1.1 x2 x1))) :
    slCall G mX11_where d K [sR 11 0, sI x1, sI x2] σ Φ := by
  refine vc_X11_where hG (by omega) hK  ?_
  have a3 := hZ.c.2.2.2.1
  refine sp_X11_needLight hG (by omega) (by omega) hX hZ.c i1 (fun q1 => slKt.ok ?_) (fun q => slKt.ex (Or.inl rfl) (h.no (fun z => q z.1) cQ.id hX))
  refine sp_X11_needHour hG (by omega) (by omega) i2 (fun q2 => slKt.ok ?_) (fun q => slKt.ex (Or.inl rfl) (h.no (fun z => q z.2) cQ.id hX))
  refine sp_X11_settle hG (by omega) (by omega) hX hZ (fun τ f x t => slKt.ok ?_)
  refine sp_X3_cellOf hG (by omega) (by omega) ⟨by omega, by omega⟩ q2 (slKt.ok ?_)
  rw [t.2.2.1 x2 x1 q2.1 q2.2 q1.1 q1.2]
  exact h.yes ⟨q1, q2⟩ f x
set_option maxHeartbeats 1000000 in
set_option maxRecDepth 4000 in
theorem sp_X12_where {G : slG} (hG : slGood G) {d K : Nat} (hd : 50 ≤ d) (hK : 0 ≤ K) {Φ : slPost} {σ : slM} {x1 : Int} {x2 : Int} {N : Nat} {Z : abZ} (hY : isY Z σ) (hZ : gdZ N Z) (i1 : InR x1) (i2 : InR x2) (h : mA Z σ Φ (abOk ((0 ≤ x1 ∧ x1 < Z.1 1 3) ∧ 0 ≤ x2 ∧ x2 < 240) (abC Z.1 Z.2.1.1 x2 x1))) :
    slCall G mX12_where d K [sR 12 0, sI x1, sI x2] σ Φ := by
  refine vc_X12_where hG (by omega) hK  ?_
  have a3 := hZ.c.2.2.2.1
  have y0 := hY.z
  refine sp_X12_isLight hG (by omega) (by omega) y0.1 hZ.c i1 (slU_same _ _ _ _ _) (fun q1 => slKt.ok ⟨in1, fun z => absurd z (by decide), fun _ => ?_⟩) (fun q => slKt.ok ⟨in0, fun _ => h.no (fun z => q z.1) mQ.id.t0 y0, fun z => absurd rfl z⟩)
  refine sp_X12_isHour hG (by omega) (by omega) i2 (slU_same _ _ _ _ _) (fun q2 => slKt.ok ⟨in1, fun _ => ?_, fun z => absurd z (by decide)⟩) (fun q => slKt.ok ⟨in0, fun z => absurd rfl z, fun _ => h.no (fun z => q z.2) mQ.id.t0 y0⟩)
  refine ms_now hG (by omega) y0 hZ mQ.id.t0 (slU_same _ _ _ _ _) (fun τ m => slKt.ok ⟨⟨by omega, by omega⟩, ?_⟩)
  rw [(m.2.2.2 x2 x1 q2.1 q2.2 q1.1 q1.2).1]
  exact h.yes ⟨q1, q2⟩ m.1 m.2.1 m.2.2.1
noncomputable def abLamp (T : Int → Int → Int) (l h w : Int) : Int := if w = 0 then abOil (T 0 l) h else abIf (abLit (T 0 l) h) 1 0
set_option maxHeartbeats 1000000 in
set_option maxRecDepth 4000 in
theorem sp_X11_lamp {G : slG} (hG : slGood G) {d K : Nat} (hd : 50 ≤ d) (hK : 3 ≤ K) {Φ : slPost} {σ : slM} {x1 : Int} {x2 : Int} {x3 : Int} {c s N : Nat} {Z : abZ} (hX : isX c s Z σ) (hZ : gdZ N Z) (i1 : InR x1) (i2 : InR x2) (i3 : InR x3) (h : cA c s Z σ Φ (abOk ((0 ≤ x1 ∧ x1 < Z.1 1 3) ∧ (0 ≤ x2 ∧ x2 < 240) ∧ 0 ≤ x3 ∧ x3 < 2) (abLamp Z.2.1.1 x1 x2 x3))) :
    slCall G mX11_lamp d K [sR 11 0, sI x1, sI x2, sI x3] σ Φ := by
  refine vc_X11_lamp hG (by omega) hK  ?_
  have a3 := hZ.c.2.2.2.1
  refine sp_X11_needLight hG (by omega) (by omega) hX hZ.c i1 (fun q1 => slKt.ok ?_) (fun q => slKt.ex (Or.inl rfl) (h.no (fun z => q z.1) cQ.id hX))
  refine sp_X11_needHour hG (by omega) (by omega) i2 (fun q2 => slKt.ok ?_) (fun q => slKt.ex (Or.inl rfl) (h.no (fun z => q z.2.1) cQ.id hX))
  refine sp_X11_needWhat hG (by omega) (by omega) i3 ⟨by decide, by decide⟩ (fun q3 => slKt.ok ?_) (fun q => slKt.ex (Or.inl rfl) (h.no (fun z => q z.2.2) cQ.id hX))
  have k := h.yes ⟨q1, q2, q3⟩ cQ.id hX
  unfold abLamp at k
  have o := hZ.v.2.1 x1 q1.1 q1.2
  rw [hX.e5, hX.ss.1 x1 q1.1 q1.2]
  refine ⟨i3, fun e => ⟨⟨by omega, by omega⟩, ?_⟩, fun e => ⟨⟨by omega, by omega⟩, ?_⟩⟩
  · rw [if_neg e] at k
    refine sp_X11_isLit hG (by omega) (by omega) o q2 (slKt.ok ⟨in01, fun z => ?_, fun z => ?_⟩)
    · rwa [abIf_f (abIf_z z)] at k
    · rwa [abIf_t (abIf_nz z)] at k
  · rw [if_pos e] at k
    refine sp_X11_oilIn hG (by omega) (by omega) o q2 (slKt.ok k)
set_option maxHeartbeats 1000000 in
set_option maxRecDepth 4000 in
theorem sp_X12_lamp {G : slG} (hG : slGood G) {d K : Nat} (hd : 50 ≤ d) (hK : 0 ≤ K) {Φ : slPost} {σ : slM} {x1 : Int} {x2 : Int} {x3 : Int} {N : Nat} {Z : abZ} (hY : isY Z σ) (hZ : gdZ N Z) (i1 : InR x1) (i2 : InR x2) (i3 : InR x3) (h : mA Z σ Φ (abOk ((0 ≤ x1 ∧ x1 < Z.1 1 3) ∧ (0 ≤ x2 ∧ x2 < 240) ∧ 0 ≤ x3 ∧ x3 < 2) (abLamp Z.2.1.1 x1 x2 x3))) :
    slCall G mX12_lamp d K [sR 12 0, sI x1, sI x2, sI x3] σ Φ := by
  refine vc_X12_lamp hG (by omega) hK  ?_
  have a3 := hZ.c.2.2.2.1
  have y0 := hY.z
  refine sp_X12_isLight hG (by omega) (by omega) y0.1 hZ.c i1 (slU_same _ _ _ _ _) (fun q1 => slKt.ok ⟨in1, fun z => absurd z (by decide), fun _ => ?_⟩) (fun q => slKt.ok ⟨in0, fun _ => h.no (fun z => q z.1) mQ.id.t0 y0, fun z => absurd rfl z⟩)
  refine sp_X12_isHour hG (by omega) (by omega) i2 (slU_same _ _ _ _ _) (fun q2 => slKt.ok ⟨in1, fun z => absurd z (by decide), fun _ => ?_⟩) (fun q => slKt.ok ⟨in0, fun _ => h.no (fun z => q z.2.1) mQ.id.t0 y0, fun z => absurd rfl z⟩)
  refine sp_X12_isWhat hG (by omega) (by omega) i3 ⟨by decide, by decide⟩ (slU_same _ _ _ _ _) (fun q3 => slKt.ok ⟨in1, fun _ => ?_, fun z => absurd z (by decide)⟩) (fun q => slKt.ok ⟨in0, fun z => absurd rfl z, fun _ => h.no (fun z => q z.2.2) mQ.id.t0 y0⟩)
  refine ms_now hG (by omega) y0 hZ mQ.id.t0 (slU_same _ _ _ _ _) (fun τ m => slKt.ok ?_)
  have k := h.yes ⟨q1, q2, q3⟩ m.1 m.2.1 m.2.2.1
  unfold abLamp at k
  have o := hZ.v.2.1 x1 q1.1 q1.2
  have e2 := (m.2.2.2 x2 x1 q2.1 q2.2 q1.1 q1.2).2
  refine ⟨i3, fun e => ?_, fun e => ⟨⟨by omega, by omega⟩, ?_⟩⟩
  · rw [if_neg e] at k
    refine sp_X12_isLitIn hG (by omega) (by omega) ⟨by omega, by omega⟩ q2 o e2 (slKt.ok ⟨in01, fun z => ?_, fun z => ?_⟩)
    · rwa [abIf_f (abIf_z z)] at k
    · rwa [abIf_t (abIf_nz z)] at k
  · rw [if_pos e] at k
    rw [e2]
    exact k
set_option maxHeartbeats 1000000 in
set_option maxRecDepth 4000 in
theorem sp_X11_seen {G : slG} (hG : slGood G) {d K : Nat} (hd : 50 ≤ d) (hK : 2 ≤ K) {Φ : slPost} {σ : slM} {x1 : Int} {x2 : Int} {c s N : Nat} {Z : abZ} (hX : isX c s Z σ) (hZ : gdZ N Z) (i1 : InR x1) (i2 : InR x2) (h : cA c s Z σ Φ (abOk ((0 ≤ x1 ∧ x1 < Z.1 1 4) ∧ 0 ≤ x2 ∧ x2 < 240) (abNow Z.1 (abC Z.1 Z.2.1.1) (Z.2.1.1 0) (Z.2.1.1 1) x1 x2))) :
    slCall G mX11_seen d K [sR 11 0, sI x1, sI x2] σ Φ := by
  refine vc_X11_seen hG (by omega) hK  ?_
  have a4 := hZ.c.2.2.2.2.1
  refine sp_X11_needShip hG (by omega) (by omega) hX hZ.c i1 (fun q1 => slKt.ok ?_) (fun q => slKt.ex (Or.inl rfl) (h.no (fun z => q z.1) cQ.id hX))
  refine sp_X11_needHour hG (by omega) (by omega) i2 (fun q2 => slKt.ok ?_) (fun q => slKt.ex (Or.inl rfl) (h.no (fun z => q z.2) cQ.id hX))
  refine sp_X11_settle hG (by omega) (by omega) hX hZ (fun τ f x t => slKt.ok ?_)
  refine sp_X3_sightsOf hG (by omega) (by omega) ⟨by omega, by omega⟩ q2 (slKt.ok ?_)
  rw [t.2.2.2 x1 x2 q1.1 q1.2 q2.1 q2.2]
  exact h.yes ⟨q1, q2⟩ f x
set_option maxHeartbeats 1000000 in
set_option maxRecDepth 4000 in
theorem sp_X12_seen {G : slG} (hG : slGood G) {d K : Nat} (hd : 50 ≤ d) (hK : 0 ≤ K) {Φ : slPost} {σ : slM} {x1 : Int} {x2 : Int} {N : Nat} {Z : abZ} (hY : isY Z σ) (hZ : gdZ N Z) (i1 : InR x1) (i2 : InR x2) (h : mA Z σ Φ (abOk ((0 ≤ x1 ∧ x1 < Z.1 1 4) ∧ 0 ≤ x2 ∧ x2 < 240) (abNow Z.1 (abC Z.1 Z.2.1.1) (Z.2.1.1 0) (Z.2.1.1 1) x1 x2))) :
    slCall G mX12_seen d K [sR 12 0, sI x1, sI x2] σ Φ := by
  refine vc_X12_seen hG (by omega) hK  ?_
  have y0 := hY.z
  refine sp_X12_isShip hG (by omega) (by omega) y0.1 hZ.c i1 (slU_same _ _ _ _ _) (fun q1 => slKt.ok ⟨in1, fun z => absurd z (by decide), fun _ => ?_⟩) (fun q => slKt.ok ⟨in0, fun _ => h.no (fun z => q z.1) mQ.id.t0 y0, fun z => absurd rfl z⟩)
  refine sp_X12_isHour hG (by omega) (by omega) i2 (slU_same _ _ _ _ _) (fun q2 => slKt.ok ⟨in1, fun _ => ?_, fun z => absurd z (by decide)⟩) (fun q => slKt.ok ⟨in0, fun z => absurd rfl z, fun _ => h.no (fun z => q z.2) mQ.id.t0 y0⟩)
  refine ms_now hG (by omega) y0 hZ mQ.id.t0 (slU_same _ _ _ _ _) (fun τ m => slKt.ok ?_)
  refine sp_X12_seenNow hG (by omega) (by omega) m.2.1.1 hZ.c m.2.2.2 hZ.v.k m.2.1.mo hZ.v.2.2.1 q1 q2 (slKt.ok (h.yes ⟨q1, q2⟩ m.1 m.2.1 m.2.2.1))
set_option maxHeartbeats 1000000 in
set_option maxRecDepth 4000 in
theorem sp_X11_watch {G : slG} (hG : slGood G) {d K : Nat} (hd : 50 ≤ d) (hK : 2 ≤ K) {Φ : slPost} {σ : slM} {x1 : Int} {x2 : Int} {c s N : Nat} {Z : abZ} (hX : isX c s Z σ) (hZ : gdZ N Z) (i1 : InR x1) (i2 : InR x2) (h : cA c s Z σ Φ (abOk ((0 ≤ x1 ∧ x1 < Z.1 1 4) ∧ 0 ≤ x2 ∧ x2 < 10) (abHrs (abNow Z.1 (abC Z.1 Z.2.1.1) (Z.2.1.1 0) (Z.2.1.1 1) x1) x2 31))) :
    slCall G mX11_watch d K [sR 11 0, sI x1, sI x2] σ Φ := by
  refine vc_X11_watch hG (by omega) hK  ?_
  have a4 := hZ.c.2.2.2.2.1
  refine sp_X11_needShip hG (by omega) (by omega) hX hZ.c i1 (fun q1 => slKt.ok ?_) (fun q => slKt.ex (Or.inl rfl) (h.no (fun z => q z.1) cQ.id hX))
  refine sp_X11_needNight hG (by omega) (by omega) i2 (fun q2 => slKt.ok ?_) (fun q => slKt.ex (Or.inl rfl) (h.no (fun z => q z.2) cQ.id hX))
  refine sp_X11_settle hG (by omega) (by omega) hX hZ (fun τ f x t => slKt.ok ?_)
  refine sp_X3_hoursBy hG (by omega) (by omega) (W := abNow Z.1 (abC Z.1 Z.2.1.1) (Z.2.1.1 0) (Z.2.1.1 1) x1) ⟨by omega, by omega⟩ q2 (fun k a b => t.2.2.2 x1 k q1.1 q1.2 (by omega) (by omega)) (fun k a b => abNow_day (by omega)) (slKt.ok (h.yes ⟨q1, q2⟩ f x))
set_option maxHeartbeats 1000000 in
set_option maxRecDepth 4000 in
theorem sp_X12_watch {G : slG} (hG : slGood G) {d K : Nat} (hd : 50 ≤ d) (hK : 0 ≤ K) {Φ : slPost} {σ : slM} {x1 : Int} {x2 : Int} {N : Nat} {Z : abZ} (hY : isY Z σ) (hZ : gdZ N Z) (i1 : InR x1) (i2 : InR x2) (h : mA Z σ Φ (abOk ((0 ≤ x1 ∧ x1 < Z.1 1 4) ∧ 0 ≤ x2 ∧ x2 < 10) (abHrs (abNow Z.1 (abC Z.1 Z.2.1.1) (Z.2.1.1 0) (Z.2.1.1 1) x1) x2 31))) :
    slCall G mX12_watch d K [sR 12 0, sI x1, sI x2] σ Φ := by
  refine vc_X12_watch hG (by omega) hK  ?_
  have y0 := hY.z
  refine sp_X12_isShip hG (by omega) (by omega) y0.1 hZ.c i1 (slU_same _ _ _ _ _) (fun q1 => slKt.ok ⟨in1, fun z => absurd z (by decide), fun _ => ?_⟩) (fun q => slKt.ok ⟨in0, fun _ => h.no (fun z => q z.1) mQ.id.t0 y0, fun z => absurd rfl z⟩)
  refine sp_X12_isNight hG (by omega) (by omega) i2 (slU_same _ _ _ _ _) (fun q2 => slKt.ok ⟨in1, fun _ => ?_, fun z => absurd z (by decide)⟩) (fun q => slKt.ok ⟨in0, fun z => absurd rfl z, fun _ => h.no (fun z => q z.2) mQ.id.t0 y0⟩)
  refine ms_now hG (by omega) y0 hZ mQ.id.t0 (slU_same _ _ _ _ _) (fun τ m => slKt.ok ?_)
  refine sp_X12_watchOf hG (by omega) (by omega) m.2.1.1 hZ.c m.2.2.2 hZ.v.k m.2.1.mo hZ.v.2.2.1 q1 q2 (slKt.ok (h.yes ⟨q1, q2⟩ m.1 m.2.1 m.2.2.1))
noncomputable def abCon (P : abP) (T : Int → Int → Int) (n some : Int) : Int := abMask (fun k => T 4 k ≤ abHrs (abNow P (abC P T) (T 0) (T 1) k) n some) (P 1 4).toNat
/-- who is content, in a settled class and in a model that has sailed -/
theorem cs_con {G : slG} (hG : slGood G) {d K : Nat} (hd : 12 ≤ d) {Φ : slPost} {σ τ : slM} {c s N : Nat} {Z : abZ} {x3 x4 : Int} (hZ : gdZ N Z) (m : cS c s Z σ τ) (q : 0 ≤ x3 ∧ x3 < 10) (h : Φ (0, abCon Z.1 Z.2.1.1 x3 x4) τ) : slCall G mX3_contentBy d K [sR 3 0, sR 1 c, sR 8 s, sI x3, sI x4] τ Φ := by
  have w := hZ.v.2.2.2.1
  have ew := m.2.1.ss.2.2.2.2.1
  have t := m.2.2
  have a4 := hZ.c.2.2.2.2.1
  refine sp_X3_contentBy hG (by omega) (by omega) (V := fun k => abNow Z.1 (abC Z.1 Z.2.1.1) (Z.2.1.1 0) (Z.2.1.1 1) k) m.2.1.cc hZ.c q (fun k y a b c e => t.2.2.2 k y a b (by omega) (by omega)) (fun k y a b c e => abNow_day (by omega)) (fun k a b => ?_) ?_
  · rw [ew k a b]
    have := w k a b
    exact ⟨by omega, by omega⟩
  · unfold abCon at h
    rw [abMask_c (g := fun k => Z.2.1.1 4 k ≤ abHrs (abNow Z.1 (abC Z.1 Z.2.1.1) (Z.2.1.1 0) (Z.2.1.1 1) k) x3 x4)]
    · exact h
    · intro k a b
      rw [ew k a (by omega)]
theorem ms_con {G : slG} (hG : slGood G) {d K : Nat} (hd : 12 ≤ d) {Φ : slPost} {σ τ : slM} {N : Nat} {Z : abZ} {x1 x2 x3 : Int} (hZ : gdZ N Z) (m : mS Z σ τ) (q : 0 ≤ x1 ∧ x1 < 10) (e : x2 = abFog Z.1 x1) (h : Φ (0, abCon Z.1 Z.2.1.1 x1 x3) τ) : slCall G mX12_contentBy d K [sR 12 0, sI x1, sI x2, sI x3] τ Φ := by
  have w := hZ.v.2.2.2.1
  have ew := m.2.1.2.1.2.2.2.2.1
  have a4 := hZ.c.2.2.2.2.1
  subst e
  refine sp_X12_contentBy hG (by omega) (by omega) m.2.1.1 hZ.c m.2.2.2 hZ.v.k (by decide) m.2.1.mo hZ.v.2.2.1 ⟨by omega, by omega⟩ (abFog_r hZ.c q.1) (fun k a b => ?_) ?_
  · rw [ew k a b]
    have := w k a b
    exact ⟨by omega, by omega⟩
  · unfold abCon at h
    rw [abMask_c (g := fun k => Z.2.1.1 4 k ≤ abHrs (abNow Z.1 (abC Z.1 Z.2.1.1) (Z.2.1.1 0) (Z.2.1.1 1) k) x1 x3)]
    · exact h
    · intro k a b
      rw [ew k a (by omega), abHrs_now]
set_option maxHeartbeats 1000000 in
set_option maxRecDepth 4000 in
theorem sp_X11_content {G : slG} (hG : slGood G) {d K : Nat} (hd : 50 ≤ d) (hK : 1 ≤ K) {Φ : slPost} {σ : slM} {x1 : Int} {c s N : Nat} {Z : abZ} (hX : isX c s Z σ) (hZ : gdZ N Z) (i1 : InR x1) (h : cA c s Z σ Φ (abOk (0 ≤ x1 ∧ x1 < 10) (abCon Z.1 Z.2.1.1 x1 31))) :
    slCall G mX11_content d K [sR 11 0, sI x1] σ Φ := by
  refine vc_X11_content hG (by omega) hK  ?_
  refine sp_X11_needNight hG (by omega) (by omega) i1 (fun q1 => slKt.ok ?_) (fun q => slKt.ex (Or.inl rfl) (h.no q cQ.id hX))
  refine sp_X11_settle hG (by omega) (by omega) hX hZ (fun τ f x t => slKt.ok ?_)
  rw [x.e4, x.e5]
  exact cs_con hG (by omega) hZ ⟨f, x, t⟩ q1 (slKt.ok (h.yes q1 f x))
set_option maxHeartbeats 1000000 in
set_option maxRecDepth 4000 in
theorem sp_X12_content {G : slG} (hG : slGood G) {d K : Nat} (hd : 50 ≤ d) (hK : 0 ≤ K) {Φ : slPost} {σ : slM} {x1 : Int} {N : Nat} {Z : abZ} (hY : isY Z σ) (hZ : gdZ N Z) (i1 : InR x1) (h : mA Z σ Φ (abOk (0 ≤ x1 ∧ x1 < 10) (abCon Z.1 Z.2.1.1 x1 31))) :
    slCall G mX12_content d K [sR 12 0, sI x1] σ Φ := by
  refine vc_X12_content hG (by omega) hK  ?_
  have y0 := hY.z
  refine sp_X12_isNight hG (by omega) (by omega) i1 (slU_same _ _ _ _ _) (fun q1 => slKt.ok ⟨in1, fun _ => ?_, fun z => absurd z (by decide)⟩) (fun q => slKt.ok ⟨in0, fun z => absurd rfl z, fun _ => h.no q mQ.id.t0 y0⟩)
  refine ms_now hG (by omega) y0 hZ mQ.id.t0 (slU_same _ _ _ _ _) (fun τ m => slKt.ok ?_)
  refine sp_X12_fogIn hG (by omega) (by omega) m.2.1.1 hZ.c ⟨by omega, by omega⟩ (slKt.ok ?_)
  exact ms_con hG (by omega) hZ m q1 rfl (slKt.ok (h.yes q1 m.1 m.2.1 m.2.2.1))
/-! answers that may be refused in two ways -/
noncomputable def abOk2 (p q : Prop) (v : Int) : Nat × Int := abIte p (abIte q (0, v) (2, 0)) (1, 0)
theorem cA.no1 {c s : Nat} {Z : abZ} {σ τ : slM} {Φ : slPost} {p q : Prop} {v : Int} (h : cA c s Z σ Φ (abOk2 p q v)) (hp : ¬ p) (f : cQ σ τ) (hX : isX c s Z τ) : Φ (1, 0) τ := by
  have := h τ f hX
  unfold abOk2 at this
  rwa [abIte_f hp] at this
theorem cA.no2 {c s : Nat} {Z : abZ} {σ τ : slM} {Φ : slPost} {p q : Prop} {v : Int} (h : cA c s Z σ Φ (abOk2 p q v)) (hp : p) (hq : ¬ q) (f : cQ σ τ) (hX : isX c s Z τ) : Φ (2, 0) τ := by
  have := h τ f hX
  unfold abOk2 at this
  rwa [abIte_t hp, abIte_f hq] at this
theorem cA.yes2 {c s : Nat} {Z : abZ} {σ τ : slM} {Φ : slPost} {p q : Prop} {v : Int} (h : cA c s Z σ Φ (abOk2 p q v)) (hp : p) (hq : q) (f : cQ σ τ) (hX : isX c s Z τ) : Φ (0, v) τ := by
  have := h τ f hX
  unfold abOk2 at this
  rwa [abIte_t hp, abIte_t hq] at this
theorem mA.no1 {Z : abZ} {σ τ : slM} {Φ : slPost} {p q : Prop} {v : Int} (h : mA Z σ Φ (abOk2 p q v)) (hp : ¬ p) (f : mQ σ τ) (hY : isY Z τ) : Φ (0, 0) (slU τ 12 0 0 1) := by
  have := h (slU τ 12 0 0 1) f.t0 (hY.q mQ.id.t0)
  unfold abOk2 at this
  rw [abIte_f hp] at this
  exact this (slU_same _ _ _ _ _)
theorem mA.no2 {Z : abZ} {σ τ : slM} {Φ : slPost} {p q : Prop} {v : Int} (h : mA Z σ Φ (abOk2 p q v)) (hp : p) (hq : ¬ q) (f : mQ σ τ) (hY : isY Z τ) : Φ (0, 0) (slU τ 12 0 0 2) := by
  have := h (slU τ 12 0 0 2) f.t0 (hY.q mQ.id.t0)
  unfold abOk2 at this
  rw [abIte_t hp, abIte_f hq] at this
  exact this (slU_same _ _ _ _ _)
theorem mA.yes2 {Z : abZ} {σ τ : slM} {Φ : slPost} {p q : Prop} {v : Int} (h : mA Z σ Φ (abOk2 p q v)) (hp : p) (hq : q) (f : mQ σ τ) (hY : isY Z τ) (e : τ 12 0 0 = 0) : Φ (0, v) τ := by
  have := h τ f hY
  unfold abOk2 at this
  rw [abIte_t hp, abIte_t hq] at this
  exact this e
noncomputable def abMet (P : abP) (T : Int → Int → Int) (a b : Int) : Int := abFst (fun h => abFar (P 1 0) (abC P T h a) (abC P T h b) ≤ 1) 0 240
theorem abFar_r {P : abP} {a b : Int} (hC : gdC P) (h1 : gc P a) (h2 : gc P b) : 0 ≤ abFar (P 1 0) a b ∧ abFar (P 1 0) a b ≤ 12 := by
  have g1 := h1.dv hC
  have g2 := h2.dv hC
  unfold abFar abMax abAbs
  omega
set_option maxHeartbeats 1000000 in
set_option maxRecDepth 4000 in
theorem sp_X11_met {G : slG} (hG : slGood G) {d K : Nat} (hd : 50 ≤ d) (hK : 3 ≤ K) {Φ : slPost} {σ : slM} {x1 : Int} {x2 : Int} {c s N : Nat} {Z : abZ} (hX : isX c s Z σ) (hZ : gdZ N Z) (i1 : InR x1) (i2 : InR x2) (h : cA c s Z σ Φ (abOk2 ((0 ≤ x1 ∧ x1 < Z.1 1 3) ∧ 0 ≤ x2 ∧ x2 < Z.1 1 3) (¬ x1 = x2) (abMet Z.1 Z.2.1.1 x1 x2))) :
    slCall G mX11_met d K [sR 11 0, sI x1, sI x2] σ Φ := by
  refine vc_X11_met hG (by omega) hK (fun μ y3 σ' => ((0 ≤ x1 ∧ x1 < Z.1 1 3) ∧ 0 ≤ x2 ∧ x2 < Z.1 1 3) ∧ ¬ x1 = x2 ∧ cS c s Z σ σ' ∧ μ = ((240 - y3).toNat, 0, 0) ∧ (0 ≤ y3 ∧ y3 ≤ 240) ∧ abMet Z.1 Z.2.1.1 x1 x2 = abFst (fun h => abFar (Z.1 1 0) (abC Z.1 Z.2.1.1 h x1) (abC Z.1 Z.2.1.1 h x2) ≤ 1) y3.toNat (240 - y3).toNat) ?_ ?_
  · refine sp_X11_needLight hG (by omega) (by omega) hX hZ.c i1 (fun q1 => slKt.ok ?_) (fun q => slKt.ex (Or.inl rfl) (h.no1 (fun z => q z.1) cQ.id hX))
    refine sp_X11_needLight hG (by omega) (by omega) hX hZ.c i2 (fun q2 => slKt.ok ?_) (fun q => slKt.ex (Or.inl rfl) (h.no1 (fun z => q z.2) cQ.id hX))
    refine sp_X11_needTwo hG (by omega) (by omega) i1 i2 (fun q3 => slKt.ok ?_) (fun q => slKt.ex (Or.inr rfl) (h.no2 ⟨q1, q2⟩ (fun z => z q) cQ.id hX))
    refine sp_X11_settle hG (by omega) (by omega) hX hZ (fun τ f x t => slKt.ok ⟨_, ⟨q1, q2⟩, q3, ⟨f, x, t⟩, rfl, ⟨by omega, by omega⟩, rfl⟩)
  · have a3 := hZ.c.2.2.2.1
    rintro μ y3 σ' ⟨⟨q1, q2⟩, q3, m, rfl, hy, e⟩
    refine ⟨⟨by omega, by omega⟩, fun q => ?_, fun q => ?_⟩
    · have k := h.yes2 ⟨q1, q2⟩ q3 m.1 m.2.1
      rw [e, show (240 - y3).toNat = 0 by omega] at k
      exact k
    · rw [abFst_s hy.1 (by omega)] at e
      have g1 := abC_cell hZ.v (h := y3) q1.1 q1.2
      have g2 := abC_cell hZ.v (h := y3) q2.1 q2.2
      refine sp_X3_cellOf hG (by omega) (by omega) ⟨by omega, by omega⟩ ⟨by omega, by omega⟩ (slKt.ok ?_)
      refine sp_X3_cellOf hG (by omega) (by omega) ⟨by omega, by omega⟩ ⟨by omega, by omega⟩ (slKt.ok ?_)
      rw [m.2.1.e4, m.2.2.2.2.1 y3 x1 hy.1 (by omega) q1.1 q1.2, m.2.2.2.2.1 y3 x2 hy.1 (by omega) q2.1 q2.2]
      have r := abFar_r hZ.c g1 g2
      refine sp_X1_farBetween hG (by omega) (by omega) m.2.1.cc hZ.c g1 g2 (slKt.ok ⟨⟨by omega, by omega⟩, fun z => ⟨_, Or.inl (by show (240 - (y3 + 1)).toNat < (240 - y3).toNat; omega), ⟨q1, q2⟩, q3, m, rfl, ⟨by omega, by omega⟩, ?_⟩, fun z => ?_⟩)
      · rw [e, abIf_f (by omega)]
      · have k := h.yes2 ⟨q1, q2⟩ q3 m.1 m.2.1
        rw [e, abIf_t (by omega)] at k
        exact k
set_option maxHeartbeats 1000000 in
set_option maxRecDepth 4000 in
theorem sp_X12_met {G : slG} (hG : slGood G) {d K : Nat} (hd : 50 ≤ d) (hK : 0 ≤ K) {Φ : slPost} {σ : slM} {x1 : Int} {x2 : Int} {N : Nat} {Z : abZ} (hY : isY Z σ) (hZ : gdZ N Z) (i1 : InR x1) (i2 : InR x2) (h : mA Z σ Φ (abOk2 ((0 ≤ x1 ∧ x1 < Z.1 1 3) ∧ 0 ≤ x2 ∧ x2 < Z.1 1 3) (¬ x1 = x2) (abMet Z.1 Z.2.1.1 x1 x2))) :
    slCall G mX12_met d K [sR 12 0, sI x1, sI x2] σ Φ := by
  refine vc_X12_met hG (by omega) hK (fun μ y3 σ' => ((0 ≤ x1 ∧ x1 < Z.1 1 3) ∧ 0 ≤ x2 ∧ x2 < Z.1 1 3) ∧ ¬ x1 = x2 ∧ mS Z σ σ' ∧ μ = ((240 - y3).toNat, 0, 0) ∧ (0 ≤ y3 ∧ y3 ≤ 240) ∧ abMet Z.1 Z.2.1.1 x1 x2 = abFst (fun h => abFar (Z.1 1 0) (abC Z.1 Z.2.1.1 h x1) (abC Z.1 Z.2.1.1 h x2) ≤ 1) y3.toNat (240 - y3).toNat) ?_ ?_
  · have y0 := hY.z
    refine sp_X12_isLight hG (by omega) (by omega) y0.1 hZ.c i1 (slU_same _ _ _ _ _) (fun q1 => slKt.ok ⟨in1, fun z => absurd z (by decide), fun _ => ?_⟩) (fun q => slKt.ok ⟨in0, fun _ => h.no1 (fun z => q z.1) mQ.id.t0 y0, fun z => absurd rfl z⟩)
    refine sp_X12_isLight hG (by omega) (by omega) y0.1 hZ.c i2 (slU_same _ _ _ _ _) (fun q2 => slKt.ok ⟨in1, fun z => absurd z (by decide), fun _ => ⟨⟨i1, i2⟩, ?_⟩⟩) (fun q => slKt.ok ⟨in0, fun _ => h.no1 (fun z => q z.2) mQ.id.t0 y0, fun z => absurd rfl z⟩)
    refine sp_X12_right hG (by omega) (by omega) (slU_same _ _ _ _ _) ?_ ⟨by decide, by decide⟩ (by decide) (fun z => slKt.ok ⟨in1, fun _ => ?_, fun z => absurd z (by decide)⟩) (fun z => slKt.ok ⟨in0, fun z => absurd rfl z, fun _ => h.no2 ⟨q1, q2⟩ (fun w => ?_) mQ.id.t0 y0⟩)
    · split <;> exact ⟨by decide, by decide⟩
    · refine ms_now hG (by omega) y0 hZ mQ.id.t0 (slU_same _ _ _ _ _) (fun τ m => slKt.ok ⟨_, ⟨q1, q2⟩, fun e => z (if_pos e), m, rfl, ⟨by omega, by omega⟩, rfl⟩)
    · rw [if_neg w] at z
      exact absurd z (by decide)
  · have a3 := hZ.c.2.2.2.1
    rintro μ y3 σ' ⟨⟨q1, q2⟩, q3, m, rfl, hy, e⟩
    refine ⟨⟨by omega, by omega⟩, fun q => ?_, fun q => ⟨⟨by omega, by omega⟩, ⟨by omega, by omega⟩, ?_⟩⟩
    · have k := h.yes2 ⟨q1, q2⟩ q3 m.1 m.2.1 m.2.2.1
      rw [e, show (240 - y3).toNat = 0 by omega] at k
      exact k
    · rw [abFst_s hy.1 (by omega)] at e
      have g1 := abC_cell hZ.v (h := y3) q1.1 q1.2
      have g2 := abC_cell hZ.v (h := y3) q2.1 q2.2
      rw [(m.2.2.2 y3 x1 hy.1 (by omega) q1.1 q1.2).1, (m.2.2.2 y3 x2 hy.1 (by omega) q2.1 q2.2).1]
      have r := abFar_r hZ.c g1 g2
      refine sp_X12_farOf hG (by omega) (by omega) m.2.1.1 hZ.c g1 g2 (slKt.ok ⟨⟨by omega, by omega⟩, fun z => ⟨_, Or.inl (by show (240 - (y3 + 1)).toNat < (240 - y3).toNat; omega), ⟨q1, q2⟩, q3, m, rfl, ⟨by omega, by omega⟩, ?_⟩, fun z => ?_⟩)
      · rw [e, abIf_f (by omega)]
      · have k := h.yes2 ⟨q1, q2⟩ q3 m.1 m.2.1 m.2.2.1
        rw [e, abIf_t (by omega)] at k
        exact k
