/-! ===== fill, moor, push, obey, want, undo ===== -/
def abFree (P : abP) (f : Int → Int) (n w c : Int) : Prop := abOpen P c ∧ ∀ k : Int, 0 ≤ k → k < n → k ≠ w → f k ≠ c
set_option maxHeartbeats 1000000 in
set_option maxRecDepth 4000 in
theorem sp_X11_canMoor {G : slG} (hG : slGood G) {d K : Nat} (hd : 2 ≤ d) (hK : 0 ≤ K) {Φ : slPost} {σ : slM} {x1 : Int} {x2 : Int} {c s N : Nat} {Z : abZ} (hX : isX c s Z σ) (hZ : gdZ N Z) (i1 : InR x1) (i2 : InR x2) (h : Φ (0, abIf (abFree Z.1 (Z.2.1.1 1) (Z.1 1 4) x1 x2) 1 0) σ) :
    slCall G mX11_canMoor d K [sR 11 0, sI x1, sI x2] σ Φ := by
  refine vc_X11_canMoor hG (by omega) hK (fun μ y3 σ' => σ' = σ ∧ μ = ((Z.1 1 4 - y3).toNat, 0, 0) ∧ (0 ≤ y3 ∧ y3 ≤ Z.1 1 4) ∧ abOpen Z.1 x2 ∧ ∀ k : Int, 0 ≤ k → k < y3 → k ≠ x1 → Z.2.1.1 1 k ≠ x2) ?_ ?_
  · have a4 := hZ.c.2.2.2.2.1
    rw [hX.e4]
    refine sp_X1_isOpen hG (by omega) (by omega) hX.cc hZ.c i2 (slKt.ok ⟨in01, fun q => ⟨_, rfl, rfl, ⟨by omega, by omega⟩, abIf_nz q, fun k a b => by omega⟩, fun q => ?_⟩)
    rw [abIf_f (fun z => abIf_z q z.1)] at h
    exact h
  · have a4 := hZ.c.2.2.2.2.1
    rintro μ y3 σ' ⟨rfl, rfl, hy, op, nk⟩
    have lt : ¬ Z.1 1 4 ≤ y3 → slLt ((Z.1 1 4 - (y3 + 1)).toNat, 0, 0) ((Z.1 1 4 - y3).toNat, 0, 0) := fun q => Or.inl (by show (Z.1 1 4 - (y3 + 1)).toNat < (Z.1 1 4 - y3).toNat; omega)
    rw [hX.e4, hX.e5, hX.cc.1]
    refine ⟨⟨⟨by omega, by omega⟩, by omega, by omega⟩, fun q => ?_, fun q => ⟨⟨⟨by omega, by omega⟩, i1⟩, fun q2 => ⟨_, lt q, rfl, rfl, ⟨by omega, by omega⟩, op, fun k a b c => nk k a (by omega) c⟩, fun q2 => ⟨⟨by omega, by omega⟩, ?_⟩⟩⟩
    · rw [abIf_t ⟨op, fun k a b => nk k a (by omega)⟩] at h
      exact h
    · rw [hX.ss.2.1 y3 hy.1 (by omega)]
      have g := (hZ.v.2.2.1 y3 hy.1 (by omega)).1.dv hZ.c
      refine ⟨⟨⟨by omega, by omega⟩, i2⟩, fun q3 => ⟨_, lt q, rfl, rfl, ⟨by omega, by omega⟩, op, fun k a b c => ?_⟩, fun q3 => ?_⟩
      · by_cases z : k = y3
        · rw [z]; exact q3
        · exact nk k a (by omega) c
      · rw [abIf_f (fun z => z.2 y3 hy.1 (by omega) q2 q3)] at h
        exact h
set_option maxHeartbeats 1000000 in
set_option maxRecDepth 4000 in
theorem sp_X11_canBegin {G : slG} (hG : slGood G) {d K : Nat} (hd : 2 ≤ d) (hK : 0 ≤ K) {Φ : slPost} {σ : slM} {s : Nat} {x2 : Int} {x3 : Int} {c s0 N : Nat} {Z : abZ} {f : Int → Int} (hX : isX c s0 Z σ) (hZ : gdZ N Z) (hf : ∀ l : Int, 0 ≤ l → l < Z.1 1 3 → σ 51 s l.toNat = f l ∧ gc Z.1 (f l)) (i2 : InR x2) (i3 : InR x3) (h : Φ (0, abIf (abFree Z.1 f (Z.1 1 3) x2 x3) 1 0) σ) :
    slCall G mX11_canBegin d K [sR 11 0, sR 8 s, sI x2, sI x3] σ Φ := by
  refine vc_X11_canBegin hG (by omega) hK (fun μ y3 σ' => σ' = σ ∧ μ = ((Z.1 1 3 - y3).toNat, 0, 0) ∧ (0 ≤ y3 ∧ y3 ≤ Z.1 1 3) ∧ abOpen Z.1 x3 ∧ ∀ k : Int, 0 ≤ k → k < y3 → k ≠ x2 → f k ≠ x3) ?_ ?_
  · have a4 := hZ.c.2.2.2.1
    rw [hX.e4]
    refine sp_X1_isOpen hG (by omega) (by omega) hX.cc hZ.c i3 (slKt.ok ⟨in01, fun q => ⟨_, rfl, rfl, ⟨by omega, by omega⟩, abIf_nz q, fun k a b => by omega⟩, fun q => ?_⟩)
    rw [abIf_f (fun z => abIf_z q z.1)] at h
    exact h
  · have a4 := hZ.c.2.2.2.1
    rintro μ y3 σ' ⟨rfl, rfl, hy, op, nk⟩
    have lt : ¬ Z.1 1 3 ≤ y3 → slLt ((Z.1 1 3 - (y3 + 1)).toNat, 0, 0) ((Z.1 1 3 - y3).toNat, 0, 0) := fun q => Or.inl (by show (Z.1 1 3 - (y3 + 1)).toNat < (Z.1 1 3 - y3).toNat; omega)
    rw [hX.e4, hX.cc.1]
    refine ⟨⟨⟨by omega, by omega⟩, by omega, by omega⟩, fun q => ?_, fun q => ⟨⟨⟨by omega, by omega⟩, i2⟩, fun q2 => ⟨_, lt q, rfl, rfl, ⟨by omega, by omega⟩, op, fun k a b c => nk k a (by omega) c⟩, fun q2 => ⟨⟨by omega, by omega⟩, ?_⟩⟩⟩
    · rw [abIf_t ⟨op, fun k a b => nk k a (by omega)⟩] at h
      exact h
    · have hf' := hf y3 hy.1 (by omega)
      rw [hf'.1]
      have g := hf'.2.dv hZ.c
      refine ⟨⟨⟨by omega, by omega⟩, i3⟩, fun q3 => ⟨_, lt q, rfl, rfl, ⟨by omega, by omega⟩, op, fun k a b c => ?_⟩, fun q3 => ?_⟩
      · by_cases z : k = y3
        · rw [z]; exact q3
        · exact nk k a (by omega) c
      · rw [abIf_f (fun z => z.2 y3 hy.1 (by omega) q2 q3)] at h
        exact h
set_option maxHeartbeats 1000000 in
set_option maxRecDepth 4000 in
theorem sp_X12_isFree {G : slG} (hG : slGood G) {d K : Nat} (hd : 1 ≤ d) (hK : 0 ≤ K) {Φ : slPost} {σ : slM} {x1 : Int} {x2 : Int} {x3 : Int} {x4 : Int} {P : abP} {f : Int → Int} (hM : isM P σ) (hC : gdC P) (i1 : InR x1) (h2 : 0 ≤ x2 ∧ x2 + x3 ≤ 27) (h3 : 0 ≤ x3 ∧ x3 ≤ 8) (i4 : InR x4) (hf : ∀ l : Int, 0 ≤ l → l < x3 → σ 88 0 (x2 + l).toNat = f l ∧ gc P (f l)) (h : Φ (0, abIf (abFree P f x3 x4 x1) 1 0) σ) :
    slCall G mX12_isFree d K [sR 12 0, sI x1, sI x2, sI x3, sI x4] σ Φ := by
  refine vc_X12_isFree hG (by omega) hK (fun μ y3 σ' => σ' = σ ∧ μ = ((x3 - y3).toNat, 0, 0) ∧ (0 ≤ y3 ∧ y3 ≤ x3) ∧ abOpen P x1 ∧ ∀ k : Int, 0 ≤ k → k < y3 → k ≠ x4 → f k ≠ x1) ?_ ?_
  · have wh := hC.wh
    refine ⟨i1, fun q => ?_, fun q => ?_⟩
    · rw [abIf_f (fun z => by have := z.1.1; omega)] at h; exact h
    · refine sp_X12_cells hG (by omega) (by omega) (slKt.ok ?_)
      rw [hM.1.1, hM.1.2.1]
      refine ⟨⟨i1, by omega, by omega⟩, fun q2 => ?_, fun q2 => ⟨⟨by omega, by omega⟩, ?_⟩⟩
      · rw [abIf_f (fun z => by have := z.1.2.1; omega)] at h; exact h
      · rw [hM.2.2.2.2.1 x1 (by omega) (by omega)]
        have b := hC.2.2.2.2.2.2.1 x1.toNat (by omega)
        refine ⟨⟨by omega, by omega⟩, fun q3 => ⟨_, rfl, rfl, ⟨by omega, by omega⟩, ⟨by omega, by omega, q3⟩, fun k a b => by omega⟩, fun q3 => ?_⟩
        rw [abIf_f (fun z => q3 z.1.2.2)] at h; exact h
  · rintro μ y3 σ' ⟨rfl, rfl, hy, op, nk⟩
    have lt : ¬ x3 ≤ y3 → slLt ((x3 - (y3 + 1)).toNat, 0, 0) ((x3 - y3).toNat, 0, 0) := fun q => Or.inl (by show (x3 - (y3 + 1)).toNat < (x3 - y3).toNat; omega)
    refine ⟨⟨⟨by omega, by omega⟩, by omega, by omega⟩, fun q => ?_, fun q => ⟨⟨⟨by omega, by omega⟩, i4⟩, fun q2 => ⟨_, lt q, rfl, rfl, ⟨by omega, by omega⟩, op, fun k a b c => nk k a (by omega) c⟩, fun q2 => ⟨⟨by omega, by omega⟩, ?_⟩⟩⟩
    · rw [abIf_t ⟨op, fun k a b => nk k a (by omega)⟩] at h
      exact h
    · have hf' := hf y3 hy.1 (by omega)
      rw [hf'.1]
      have g := hf'.2.dv hC
      refine ⟨⟨⟨by omega, by omega⟩, i1⟩, fun q3 => ⟨_, lt q, rfl, rfl, ⟨by omega, by omega⟩, op, fun k a b c => ?_⟩, fun q3 => ?_⟩
      · by_cases z : k = y3
        · rw [z]; exact q3
        · exact nk k a (by omega) c
      · rw [abIf_f (fun z => z.2 y3 hy.1 (by omega) q2 q3)] at h
        exact h
/-- an act that p lets be asked and q lets be done -/
noncomputable def nxDo (Z : abZ) (p q : Prop) (k w v : Int) : abZ := abIte p (abIte q (nxAct Z k w v) (nxRef Z 1)) Z
noncomputable def anDo (Z : abZ) (p q : Prop) (k w : Int) : Nat × Int := abOk p (abIf q (Z.2.1.1 k w) (-1))
/-- the class does so -/
def cD (c s : Nat) (Z : abZ) (σ : slM) (Φ : slPost) (p q : Prop) (k w v : Int) : Prop := ∀ τ, clF σ τ → isX c s (nxDo Z p q k w v) τ → Φ (anDo Z p q k w) τ
def mD (Z : abZ) (σ : slM) (Φ : slPost) (p q : Prop) (k w v : Int) : Prop := ∀ τ, mdF σ τ → isY (nxDo Z p q k w v) τ → τ 12 0 0 = (anDo Z p q k w).1 → Φ (0, (anDo Z p q k w).2) τ
theorem cD.no {c s : Nat} {Z : abZ} {σ : slM} {Φ : slPost} {p q : Prop} {k w v : Int} (h : cD c s Z σ Φ p q k w v) (hX : isX c s Z σ) (hp : ¬ p) : Φ (1, 0) σ := by
  have := h σ clF.id
  unfold nxDo anDo at this
  rw [abIte_f hp, abOk_f hp] at this
  exact this hX
theorem cD.ref {c s : Nat} {Z : abZ} {σ τ : slM} {Φ : slPost} {p q : Prop} {k w v : Int} (h : cD c s Z σ Φ p q k w v) (hp : p) (hq : ¬ q) (f : clF σ τ) (hX : isX c s (nxRef Z 1) τ) : Φ (0, -1) τ := by
  have := h τ f
  unfold nxDo anDo at this
  rw [abIte_t hp, abIte_f hq, abOk_t hp, abIf_f hq] at this
  exact this hX
theorem cD.act {c s : Nat} {Z : abZ} {σ τ : slM} {Φ : slPost} {p q : Prop} {k w v : Int} (h : cD c s Z σ Φ p q k w v) (hp : p) (hq : q) (f : clF σ τ) (hX : isX c s (nxAct Z k w v) τ) : Φ (0, Z.2.1.1 k w) τ := by
  have := h τ f
  unfold nxDo anDo at this
  rw [abIte_t hp, abIte_t hq, abOk_t hp, abIf_t hq] at this
  exact this hX
theorem mD.no {Z : abZ} {σ : slM} {Φ : slPost} {p q : Prop} {k w v : Int} (h : mD Z σ Φ p q k w v) (hY : isY Z σ) (hp : ¬ p) : Φ (0, 0) (slU (slU σ 12 0 0 0) 12 0 0 1) := by
  have := h (slU (slU σ 12 0 0 0) 12 0 0 1) ((mdF.id.up (Or.inl rfl)).up (Or.inl rfl))
  unfold nxDo anDo at this
  rw [abIte_f hp, abOk_f hp] at this
  exact this (hY.z.q mQ.id.t0) (slU_same _ _ _ _ _)
theorem mD.ref {Z : abZ} {σ τ : slM} {Φ : slPost} {p q : Prop} {k w v : Int} (h : mD Z σ Φ p q k w v) (hp : p) (hq : ¬ q) (f : mdF σ τ) (hY : isY (nxRef Z 1) τ) (e : τ 12 0 0 = 0) : Φ (0, -1) τ := by
  have := h τ f
  unfold nxDo anDo at this
  rw [abIte_t hp, abIte_f hq, abOk_t hp, abIf_f hq] at this
  exact this hY e
theorem mD.act {Z : abZ} {σ τ : slM} {Φ : slPost} {p q : Prop} {k w v : Int} (h : mD Z σ Φ p q k w v) (hp : p) (hq : q) (f : mdF σ τ) (hY : isY (nxAct Z k w v) τ) (e : τ 12 0 0 = 0) : Φ (0, Z.2.1.1 k w) τ := by
  have := h τ f
  unfold nxDo anDo at this
  rw [abIte_t hp, abIte_t hq, abOk_t hp, abIf_t hq] at this
  exact this hY e
theorem gdZ.do {N : Nat} {Z : abZ} {p q : Prop} {k w v : Int} (h : gdZ N Z) (hk : 0 ≤ k ∧ k ≤ 4) (hw : p → 0 ≤ w ∧ w < abMany Z.1 k) (hv : p → q → gdV Z.1 (abUnd Z.2.1.1 k w v)) : gdZ (N + 1) (nxDo Z p q k w v) := by
  unfold nxDo
  by_cases hp : p
  · rw [abIte_t hp]
    by_cases hq : q
    · rw [abIte_t hq]; exact h.act hk (hw hp) (hv hp hq)
    · rw [abIte_f hq]; exact h.ref
  · rw [abIte_f hp]; exact h.s
/-- the model's act over its state -/
theorem ms_act {G : slG} (hG : slGood G) {d K : Nat} {Φ : slPost} {σ : slM} {x1 x2 : Int} {N : Nat} {Z : abZ} {k w : Int} (hY : isY Z σ) (hZ : gdZ N Z) (hk : 0 ≤ k ∧ k ≤ 4) (hw : 0 ≤ w ∧ w < abMany Z.1 k) (e : x1 = abPl k w) (h : ∀ τ, mdF σ τ → isY (nxAct Z k w x2) τ → τ 12 0 0 = σ 12 0 0 → Φ (0, Z.2.1.1 k w) τ) : slCall G mX12_becomes d K [sR 12 0, sI x1, sI x2] σ Φ :=
  sp_X12_becomes hG (by omega) (by omega) hY.2.1 hZ.c hk hw hZ.2.1.2.2.1 e (fun τ f n => h τ (f.md (by decide)) (hY.st (f.mono (by decide) (by decide)) n) (f.2 0 (by decide)))
set_option maxHeartbeats 1000000 in
set_option maxRecDepth 4000 in
theorem sp_X11_fill {G : slG} (hG : slGood G) {d K : Nat} (hd : 50 ≤ d) (hK : 1 ≤ K) {Φ : slPost} {σ : slM} {x1 : Int} {x2 : Int} {c s N : Nat} {Z : abZ} (hX : isX c s Z σ) (hZ : gdZ N Z) (i1 : InR x1) (i2 : InR x2) (h : cD c s Z σ Φ (0 ≤ x1 ∧ x1 < Z.1 1 3) (0 ≤ x2 ∧ x2 ≤ 200) 0 x1 x2) :
    slCall G mX11_fill d K [sR 11 0, sI x1, sI x2] σ Φ := by
  refine vc_X11_fill hG (by omega) hK  ?_
  refine sp_X11_needLight hG (by omega) (by omega) hX hZ.c i1 (fun q1 => slKt.ok ?_) (fun q => slKt.ex (Or.inl rfl) (h.no hX q))
  refine ⟨i2, fun q2 => ?_, fun q2 => ⟨i2, fun q3 => ?_, fun q3 => ?_⟩⟩
  · refine sp_X11_refuseAct hG (by omega) (by omega) (N := N) hX (fun τ f x => slKt.ok (h.ref q1 (by omega) f x))
  · refine sp_X11_act hG (by omega) (by omega) hX hZ ⟨by decide, by decide⟩ (by unfold abMany; omega) (fun τ f x => slKt.ok (h.act q1 (by omega) f x))
  · refine sp_X11_refuseAct hG (by omega) (by omega) (N := N) hX (fun τ f x => slKt.ok (h.ref q1 (by omega) f x))
set_option maxHeartbeats 1000000 in
set_option maxRecDepth 4000 in
theorem sp_X12_fill {G : slG} (hG : slGood G) {d K : Nat} (hd : 50 ≤ d) (hK : 0 ≤ K) {Φ : slPost} {σ : slM} {x1 : Int} {x2 : Int} {N : Nat} {Z : abZ} (hY : isY Z σ) (hZ : gdZ N Z) (i1 : InR x1) (i2 : InR x2) (h : mD Z σ Φ (0 ≤ x1 ∧ x1 < Z.1 1 3) (0 ≤ x2 ∧ x2 ≤ 200) 0 x1 x2) :
    slCall G mX12_fill d K [sR 12 0, sI x1, sI x2] σ Φ := by
  refine vc_X12_fill hG (by omega) hK  ?_
  have y0 := hY.z
  have f0 : mdF σ (slU σ 12 0 0 0) := mdF.id.up (Or.inl rfl)
  refine sp_X12_isLight hG (by omega) (by omega) y0.1 hZ.c i1 (slU_same _ _ _ _ _) (fun q1 => slKt.ok ⟨in1, fun _ => ?_, fun z => absurd z (by decide)⟩) (fun q => slKt.ok ⟨in0, fun z => absurd rfl z, fun _ => h.no hY q⟩)
  refine sp_X12_within hG (by omega) (by omega) i2 ⟨by decide, by decide⟩ ⟨by decide, by decide⟩ (slKt.ok ⟨in01, fun z => ?_, fun z => ?_⟩)
  · refine sp_X12_refuses hG (by omega) (by omega) y0 ⟨by decide, by decide⟩ (fun τ f x e => slKt.ok (h.ref q1 (abIf_z z) (f0.tr f) x (by rw [e, slU_same])))
  · refine ms_act hG y0 hZ (k := 0) (w := x1) ⟨by decide, by decide⟩ (by unfold abMany; omega) (by unfold abPl; omega) (fun τ f x e => slKt.ok (h.act q1 (abIf_nz z) (f0.tr f) x (by rw [e, slU_same])))
set_option maxHeartbeats 1000000 in
set_option maxRecDepth 4000 in
theorem sp_X11_want {G : slG} (hG : slGood G) {d K : Nat} (hd : 50 ≤ d) (hK : 1 ≤ K) {Φ : slPost} {σ : slM} {x1 : Int} {x2 : Int} {c s N : Nat} {Z : abZ} (hX : isX c s Z σ) (hZ : gdZ N Z) (i1 : InR x1) (i2 : InR x2) (h : cD c s Z σ Φ (0 ≤ x1 ∧ x1 < Z.1 1 4) (0 ≤ x2 ∧ x2 ≤ 12) 4 x1 x2) :
    slCall G mX11_want d K [sR 11 0, sI x1, sI x2] σ Φ := by
  refine vc_X11_want hG (by omega) hK  ?_
  refine sp_X11_needShip hG (by omega) (by omega) hX hZ.c i1 (fun q1 => slKt.ok ?_) (fun q => slKt.ex (Or.inl rfl) (h.no hX q))
  refine ⟨i2, fun q2 => ?_, fun q2 => ⟨i2, fun q3 => ?_, fun q3 => ?_⟩⟩
  · refine sp_X11_refuseAct hG (by omega) (by omega) (N := N) hX (fun τ f x => slKt.ok (h.ref q1 (by omega) f x))
  · refine sp_X11_act hG (by omega) (by omega) hX hZ ⟨by decide, by decide⟩ (by unfold abMany; omega) (fun τ f x => slKt.ok (h.act q1 (by omega) f x))
  · refine sp_X11_refuseAct hG (by omega) (by omega) (N := N) hX (fun τ f x => slKt.ok (h.ref q1 (by omega) f x))
set_option maxHeartbeats 1000000 in
set_option maxRecDepth 4000 in
theorem sp_X12_want {G : slG} (hG : slGood G) {d K : Nat} (hd : 50 ≤ d) (hK : 0 ≤ K) {Φ : slPost} {σ : slM} {x1 : Int} {x2 : Int} {N : Nat} {Z : abZ} (hY : isY Z σ) (hZ : gdZ N Z) (i1 : InR x1) (i2 : InR x2) (h : mD Z σ Φ (0 ≤ x1 ∧ x1 < Z.1 1 4) (0 ≤ x2 ∧ x2 ≤ 12) 4 x1 x2) :
    slCall G mX12_want d K [sR 12 0, sI x1, sI x2] σ Φ := by
  refine vc_X12_want hG (by omega) hK  ?_
  have y0 := hY.z
  have f0 : mdF σ (slU σ 12 0 0 0) := mdF.id.up (Or.inl rfl)
  refine sp_X12_isShip hG (by omega) (by omega) y0.1 hZ.c i1 (slU_same _ _ _ _ _) (fun q1 => slKt.ok ⟨in1, fun _ => ?_, fun z => absurd z (by decide)⟩) (fun q => slKt.ok ⟨in0, fun z => absurd rfl z, fun _ => h.no hY q⟩)
  refine sp_X12_within hG (by omega) (by omega) i2 ⟨by decide, by decide⟩ ⟨by decide, by decide⟩ (slKt.ok ⟨in01, fun z => ?_, fun z => ?_⟩)
  · refine sp_X12_refuses hG (by omega) (by omega) y0 ⟨by decide, by decide⟩ (fun τ f x e => slKt.ok (h.ref q1 (abIf_z z) (f0.tr f) x (by rw [e, slU_same])))
  · refine ms_act hG y0 hZ (k := 4) (w := x1) ⟨by decide, by decide⟩ (by unfold abMany; omega) (by unfold abPl; omega) (fun τ f x e => slKt.ok (h.act q1 (abIf_nz z) (f0.tr f) x (by rw [e, slU_same])))
set_option maxHeartbeats 1000000 in
set_option maxRecDepth 4000 in
theorem sp_X11_moor {G : slG} (hG : slGood G) {d K : Nat} (hd : 50 ≤ d) (hK : 1 ≤ K) {Φ : slPost} {σ : slM} {x1 : Int} {x2 : Int} {c s N : Nat} {Z : abZ} (hX : isX c s Z σ) (hZ : gdZ N Z) (i1 : InR x1) (i2 : InR x2) (h : cD c s Z σ Φ (0 ≤ x1 ∧ x1 < Z.1 1 4) (abFree Z.1 (Z.2.1.1 1) (Z.1 1 4) x1 x2) 1 x1 x2) :
    slCall G mX11_moor d K [sR 11 0, sI x1, sI x2] σ Φ := by
  refine vc_X11_moor hG (by omega) hK  ?_
  refine sp_X11_needShip hG (by omega) (by omega) hX hZ.c i1 (fun q1 => slKt.ok ?_) (fun q => slKt.ex (Or.inl rfl) (h.no hX q))
  refine sp_X11_canMoor hG (by omega) (by omega) hX hZ i1 i2 (slKt.ok ⟨in01, fun z => ?_, fun z => ?_⟩)
  · refine sp_X11_act hG (by omega) (by omega) hX hZ ⟨by decide, by decide⟩ (by unfold abMany; omega) (fun τ f x => slKt.ok (h.act q1 (abIf_nz z) f x))
  · refine sp_X11_refuseAct hG (by omega) (by omega) (N := N) hX (fun τ f x => slKt.ok (h.ref q1 (abIf_z z) f x))
set_option maxHeartbeats 1000000 in
set_option maxRecDepth 4000 in
theorem sp_X12_moor {G : slG} (hG : slGood G) {d K : Nat} (hd : 50 ≤ d) (hK : 0 ≤ K) {Φ : slPost} {σ : slM} {x1 : Int} {x2 : Int} {N : Nat} {Z : abZ} (hY : isY Z σ) (hZ : gdZ N Z) (i1 : InR x1) (i2 : InR x2) (h : mD Z σ Φ (0 ≤ x1 ∧ x1 < Z.1 1 4) (abFree Z.1 (Z.2.1.1 1) (Z.1 1 4) x1 x2) 1 x1 x2) :
    slCall G mX12_moor d K [sR 12 0, sI x1, sI x2] σ Φ := by
  refine vc_X12_moor hG (by omega) hK  ?_
  have a4 := hZ.c.2.2.2.2.1
  have y0 := hY.z
  have f0 : mdF σ (slU σ 12 0 0 0) := mdF.id.up (Or.inl rfl)
  refine sp_X12_isShip hG (by omega) (by omega) y0.1 hZ.c i1 (slU_same _ _ _ _ _) (fun q1 => slKt.ok ⟨in1, fun _ => ?_, fun z => absurd z (by decide)⟩) (fun q => slKt.ok ⟨in0, fun z => absurd rfl z, fun _ => h.no hY q⟩)
  rw [y0.1.1.2.2.2.2.1]
  refine sp_X12_isFree hG (by omega) (by omega) (f := Z.2.1.1 1) y0.1 hZ.c i2 ⟨by omega, by omega⟩ ⟨by omega, by omega⟩ i1 (fun l a b => ⟨y0.mo l a b, (hZ.v.2.2.1 l a b).1⟩) (slKt.ok ⟨in01, fun z => ?_, fun z => ?_⟩)
  · refine sp_X12_refuses hG (by omega) (by omega) y0 ⟨by decide, by decide⟩ (fun τ f x e => slKt.ok (h.ref q1 (abIf_z z) (f0.tr f) x (by rw [e, slU_same])))
  · refine ms_act hG y0 hZ (k := 1) (w := x1) ⟨by decide, by decide⟩ (by unfold abMany; omega) (by unfold abPl; omega) (fun τ f x e => slKt.ok (h.act q1 (abIf_nz z) (f0.tr f) x (by rw [e, slU_same])))
set_option maxHeartbeats 1000000 in
set_option maxRecDepth 4000 in
theorem sp_X11_push {G : slG} (hG : slGood G) {d K : Nat} (hd : 50 ≤ d) (hK : 1 ≤ K) {Φ : slPost} {σ : slM} {x1 : Int} {x2 : Int} {c s N : Nat} {Z : abZ} (hX : isX c s Z σ) (hZ : gdZ N Z) (i1 : InR x1) (i2 : InR x2) (h : cD c s Z σ Φ (0 ≤ x1 ∧ x1 < Z.1 1 3) (abFree Z.1 (Z.2.1.1 2) (Z.1 1 3) x1 x2) 2 x1 x2) :
    slCall G mX11_push d K [sR 11 0, sI x1, sI x2] σ Φ := by
  refine vc_X11_push hG (by omega) hK  ?_
  refine sp_X11_needLight hG (by omega) (by omega) hX hZ.c i1 (fun q1 => slKt.ok ?_) (fun q => slKt.ex (Or.inl rfl) (h.no hX q))
  rw [hX.e5]
  refine sp_X11_canBegin hG (by omega) (by omega) (f := Z.2.1.1 2) hX hZ (fun l a b => ⟨hX.ss.2.2.1 l a b, (hZ.v.1 l a b).1⟩) i1 i2 (slKt.ok ⟨in01, fun z => ?_, fun z => ?_⟩)
  · refine sp_X11_act hG (by omega) (by omega) hX hZ ⟨by decide, by decide⟩ (by unfold abMany; omega) (fun τ f x => slKt.ok (h.act q1 (abIf_nz z) f x))
  · refine sp_X11_refuseAct hG (by omega) (by omega) (N := N) hX (fun τ f x => slKt.ok (h.ref q1 (abIf_z z) f x))
set_option maxHeartbeats 1000000 in
set_option maxRecDepth 4000 in
theorem sp_X12_push {G : slG} (hG : slGood G) {d K : Nat} (hd : 50 ≤ d) (hK : 0 ≤ K) {Φ : slPost} {σ : slM} {x1 : Int} {x2 : Int} {N : Nat} {Z : abZ} (hY : isY Z σ) (hZ : gdZ N Z) (i1 : InR x1) (i2 : InR x2) (h : mD Z σ Φ (0 ≤ x1 ∧ x1 < Z.1 1 3) (abFree Z.1 (Z.2.1.1 2) (Z.1 1 3) x1 x2) 2 x1 x2) :
    slCall G mX12_push d K [sR 12 0, sI x1, sI x2] σ Φ := by
  refine vc_X12_push hG (by omega) hK  ?_
  have a4 := hZ.c.2.2.2.1
  have y0 := hY.z
  have f0 : mdF σ (slU σ 12 0 0 0) := mdF.id.up (Or.inl rfl)
  refine sp_X12_isLight hG (by omega) (by omega) y0.1 hZ.c i1 (slU_same _ _ _ _ _) (fun q1 => slKt.ok ⟨in1, fun _ => ?_, fun z => absurd z (by decide)⟩) (fun q => slKt.ok ⟨in0, fun z => absurd rfl z, fun _ => h.no hY q⟩)
  rw [y0.1.1.2.2.2.1]
  refine sp_X12_isFree hG (by omega) (by omega) (f := Z.2.1.1 2) y0.1 hZ.c i2 ⟨by omega, by omega⟩ ⟨by omega, by omega⟩ i1 (fun l a b => ⟨y0.2.1.2.2.1 l a b, (hZ.v.1 l a b).1⟩) (slKt.ok ⟨in01, fun z => ?_, fun z => ?_⟩)
  · refine sp_X12_refuses hG (by omega) (by omega) y0 ⟨by decide, by decide⟩ (fun τ f x e => slKt.ok (h.ref q1 (abIf_z z) (f0.tr f) x (by rw [e, slU_same])))
  · refine ms_act hG y0 hZ (k := 2) (w := x1) ⟨by decide, by decide⟩ (by unfold abMany; omega) (by unfold abPl; omega) (fun τ f x e => slKt.ok (h.act q1 (abIf_nz z) (f0.tr f) x (by rw [e, slU_same])))
set_option maxHeartbeats 1000000 in
set_option maxRecDepth 4000 in
theorem sp_X11_obey {G : slG} (hG : slGood G) {d K : Nat} (hd : 50 ≤ d) (hK : 0 ≤ K) {Φ : slPost} {σ : slM} {x1 : Int} {c s N : Nat} {Z : abZ} (hX : isX c s Z σ) (hZ : gdZ N Z) (i1 : InR x1) (h : ∀ τ, clF σ τ → isX c s (nxDo Z True (-1 ≤ x1 ∧ x1 < Z.1 4 4) 3 0 x1) τ → Φ (0, abIf (-1 ≤ x1 ∧ x1 < Z.1 4 4) 1 0) τ) :
    slCall G mX11_obey d K [sR 11 0, sI x1] σ Φ := by
  refine vc_X11_obey hG (by omega) hK  ?_
  unfold nxDo at h
  rw [abIte_t trivial] at h
  refine sp_X11_isLawOrNone hG (by omega) (by omega) hX hZ.c i1 (slKt.ok ⟨in01, fun z => ?_, fun z => ?_⟩)
  · rw [abIte_t (abIf_nz z), abIf_t (abIf_nz z)] at h
    refine sp_X11_act hG (by omega) (by omega) hX hZ ⟨by decide, by decide⟩ (by unfold abMany; omega) (fun τ f x => slKt.ok (h τ f x))
  · rw [abIte_f (abIf_z z), abIf_f (abIf_z z)] at h
    refine sp_X11_refuseAct hG (by omega) (by omega) (N := N) hX (fun τ f x => slKt.ok (h τ f x))
set_option maxHeartbeats 1000000 in
set_option maxRecDepth 4000 in
theorem sp_X12_obey {G : slG} (hG : slGood G) {d K : Nat} (hd : 50 ≤ d) (hK : 0 ≤ K) {Φ : slPost} {σ : slM} {x1 : Int} {N : Nat} {Z : abZ} (hY : isY Z σ) (hZ : gdZ N Z) (i1 : InR x1) (h : ∀ τ, mdF σ τ → isY (nxDo Z True (-1 ≤ x1 ∧ x1 < Z.1 4 4) 3 0 x1) τ → Φ (0, abIf (-1 ≤ x1 ∧ x1 < Z.1 4 4) 1 0) τ) :
    slCall G mX12_obey d K [sR 12 0, sI x1] σ Φ := by
  refine vc_X12_obey hG (by omega) hK  ?_
  have y0 := hY.z
  have f0 : mdF σ (slU σ 12 0 0 0) := mdF.id.up (Or.inl rfl)
  have a5 := hZ.c.2.2.2.2.2.2.2.2.2.2.1
  unfold nxDo at h
  rw [abIte_t trivial] at h
  rw [y0.1.1.2.2.2.2.2.2]
  refine ⟨i1, fun q => ?_, fun q => ⟨⟨i1, by omega, by omega⟩, fun q2 => ?_, fun q2 => ?_⟩⟩
  · rw [abIte_f (by omega), abIf_f (by omega)] at h
    refine sp_X12_refuses hG (by omega) (by omega) y0 ⟨by decide, by decide⟩ (fun τ f x e => slKt.ok ⟨⟨by decide, by decide⟩, fun _ => h τ (f0.tr f) x, fun z => absurd (by decide) z⟩)
  · rw [abIte_t (by omega), abIf_t (by omega)] at h
    refine ms_act hG y0 hZ (k := 3) (w := 0) ⟨by decide, by decide⟩ (by unfold abMany; omega) (by unfold abPl; omega) (fun τ f x e => slKt.ok (h τ (f0.tr f) x))
  · rw [abIte_f (by omega), abIf_f (by omega)] at h
    refine sp_X12_refuses hG (by omega) (by omega) y0 ⟨by decide, by decide⟩ (fun τ f x e => slKt.ok ⟨⟨by decide, by decide⟩, fun _ => h τ (f0.tr f) x, fun z => absurd (by decide) z⟩)
/-! undo -/
def nxUndo (Z : abZ) : abZ := match Z.2.1.2.1 with
  | [] => Z
  | e :: A => (Z.1, (abUnd Z.2.1.1 e.1 e.2.1 e.2.2, A, Z.2.1.2.2), Z.2.2)
def anUndo (Z : abZ) : Int := match Z.2.1.2.1 with
  | [] => -1
  | _ :: A => A.length
theorem gdZ.undo {N : Nat} {Z : abZ} (h : gdZ N Z) : gdZ (N + 1) (nxUndo Z) := by
  obtain ⟨P, ⟨T, A, L⟩, R⟩ := Z
  match A, h with
  | [], h => exact h.s
  | e :: A, h =>
    have hl : A.length + 1 ≤ 40 := h.2.1.2.2.1
    exact ⟨h.1, ⟨h.2.1.1.2.2.2, h.2.1.2.1, by show A.length ≤ 40; omega, h.2.1.2.2.2⟩, h.2.2.1, h.2.2.2.1, h.2.2.2.2.1, h.2.2.2.2.2.1, h.s.2.2.2.2.2.2⟩
set_option maxHeartbeats 1000000 in
set_option maxRecDepth 4000 in
theorem sp_X11_undo {G : slG} (hG : slGood G) {d K : Nat} (hd : 50 ≤ d) (hK : 0 ≤ K) {Φ : slPost} {σ : slM}  {c s N : Nat} {Z : abZ} (hX : isX c s Z σ) (hZ : gdZ N Z) (h : ∀ τ, clF σ τ → isX c s (nxUndo Z) τ → Φ (0, anUndo Z) τ) :
    slCall G mX11_undo d K [sR 11 0] σ Φ := by
  refine vc_X11_undo hG (by omega) hK  ?_
  obtain ⟨P, ⟨T, A, L⟩, R⟩ := Z
  have hS : isS s P (T, A, L) σ := hX.ss
  have hl : A.length ≤ 40 := hZ.2.1.2.2.1
  have e0 : σ 0 s 3 = (A.length : Int) := hS.2.2.2.2.2.1
  rw [hX.e5, e0]
  refine ⟨⟨by omega, by omega⟩, fun q => ?_, fun q => ?_⟩
  · match A, hX, hZ, h, hS, hl, e0, q with
    | [], _, _, _, _, _, _, q => exact absurd q (by decide)
    | e :: A, hX, hZ, h, hS, hl, e0, q =>
      obtain ⟨s0, s1, s2, s3, s4, s5, s6, s7, s8⟩ := hS
      have s6 : σ 20 s A.length = e.1 ∧ σ 21 s A.length = e.2.1 ∧ σ 22 s A.length = e.2.2 ∧ abAc (σ 20 s) (σ 21 s) (σ 22 s) A := s6
      have gu := hZ.2.1.1.2
      have l1 : ((e :: A).length : Int) - 1 = A.length := by show ((A.length + 1 : Nat) : Int) - 1 = _; omega
      have hl' : A.length + 1 ≤ 40 := hl
      refine vc_X8_undoLast hG (by omega) (by omega) ?_
      rw [slU_same, e0, l1, Int.toNat_natCast, slU_else (by omega), slU_else (by omega), slU_else (by omega), s6.1, s6.2.1, s6.2.2.1]
      refine ⟨⟨by omega, by omega⟩, fun z => by have : ((A.length + 1 : Nat) : Int) ≤ 0 := z; omega, fun _ => ⟨⟨by omega, by omega⟩, ⟨by omega, by omega⟩, ⟨by omega, by omega⟩, ?_⟩⟩
      have S2 : isS s P (T, A, L) (slU σ 0 s 3 (A.length : Int)) := by
        refine ⟨fun l a b => ?_, fun l a b => ?_, fun l a b => ?_, ?_, fun l a b => ?_, slU_same _ _ _ _ _, ?_, ?_, ?_⟩
        · rw [slU_else (by omega)]; exact s0 l a b
        · rw [slU_else (by omega)]; exact s1 l a b
        · rw [slU_else (by omega)]; exact s2 l a b
        · rw [slU_else (by omega)]; exact s3
        · rw [slU_else (by omega)]; exact s4 l a b
        · rw [slU_else (by omega), slU_else (by omega), slU_else (by omega)]; exact s6.2.2.2
        · rw [slU_else (by omega)]; exact s7
        · rw [slU_else (by omega), slU_else (by omega), slU_else (by omega), slU_else (by omega)]; exact s8
      refine sp_X8_change hG (by omega) (by omega) S2 hZ.c gu.1 gu.2.1 (fun τ f x => slKt.ok (slKt.ok ?_))
      have e11 : τ 11 0 = σ 11 0 := by rw [f 11 0 (by simp), slU_else (by omega)]
      have g := stR_fr (s := s) f (by simp [stR])
      have q : ∀ r i, r ≠ 11 → ¬ (r ∈ stR ∧ i = s) → slU τ 11 0 12 0 r i = σ r i := fun r i a b => by
        rw [slU_else (fun z => a z.1), g r i b, slU_else (fun z => b ⟨by rw [z.1]; decide, z.2⟩)]
      have x2 : isS s P (abUnd T e.1 e.2.1 e.2.2, A, L) (slU τ 11 0 12 0) := x.c (fun r hr => slU_else (by omega))
      rw [slU_else (by omega), slU_ne (by decide), e11, hX.e5, x.2.2.2.2.2.1]
      refine h _ (fun r hr => ?_) (hX.st q (fun k hk => by rw [slU_ne hk, e11]) x2 (Or.inl (slU_same _ _ _ _ _)))
      funext i
      exact q r i (by omega) (fun z => by have := (by decide : ∀ r ∈ stR, ¬ (r = 12 ∨ 61 ≤ r)) r z.1; exact this hr)
  · match A, hX, hZ, h, q with
    | [], hX, _, h, _ => exact h σ clF.id hX
    | e :: A, _, _, _, q => exact absurd (show (0 : Int) < ((A.length + 1 : Nat) : Int) by omega) q
set_option maxHeartbeats 1000000 in
set_option maxRecDepth 4000 in
theorem sp_X12_undo {G : slG} (hG : slGood G) {d K : Nat} (hd : 50 ≤ d) (hK : 0 ≤ K) {Φ : slPost} {σ : slM}  {N : Nat} {Z : abZ} (hY : isY Z σ) (hZ : gdZ N Z) (h : ∀ τ, mdF σ τ → isY (nxUndo Z) τ → Φ (0, anUndo Z) τ) :
    slCall G mX12_undo d K [sR 12 0] σ Φ := by
  refine vc_X12_undo hG (by omega) hK  ?_
  obtain ⟨P, ⟨T, A, L⟩, R⟩ := Z
  have y0 := hY.z
  have f0 : mdF σ (slU σ 12 0 0 0) := mdF.id.up (Or.inl rfl)
  have hl : A.length ≤ 40 := hZ.2.1.2.2.1
  have hN : isN 88 89 102 58 72 P (T, A, L) (slU σ 12 0 0 0) := y0.2.1
  have e0 : slU σ 12 0 0 0 12 0 58 = (A.length : Int) := hN.2.2.2.2.2.1
  have u1 : ∀ (τ : slM) (k : Nat) (v : Int), slU τ 88 0 k v 12 0 58 = τ 12 0 58 := fun τ k v => by rw [slU_else (by decide)]
  have u2 : ∀ (τ : slM) (k : Nat) (v : Int), slU τ 12 0 k v 89 0 = τ 89 0 := fun τ k v => by rw [slU_else (by decide)]
  simp only [u1, u2, slU_same, e0]
  have e89 : (slU σ 12 0 0 0) 89 0 = σ 89 0 := slU_else (by decide)
  refine ⟨⟨by omega, by omega⟩, fun q => ?_, fun q => ?_⟩
  · match A, hY, hZ, h, hN, hl, e0, q, y0 with
    | [], _, _, _, _, _, _, q, _ => exact absurd rfl q
    | e :: A, hY, hZ, h, hN, hl, e0, q, y0 =>
      have am : (slU σ 12 0 0 0) 89 0 (2 * A.length) = abPl e.1 e.2.1 ∧ (slU σ 12 0 0 0) 89 0 (2 * A.length + 1) = e.2.2 ∧ abAm ((slU σ 12 0 0 0) 89 0) A := hN.2.2.2.2.2.2.1
      rw [e89] at am
      have gu := hZ.2.1.1.2
      have r := abPl_r hZ.c gu.1 gu.2.1
      have l1 : ((e :: A).length : Int) - 1 = A.length := by show ((A.length + 1 : Nat) : Int) - 1 = _; omega
      have hl' : A.length + 1 ≤ 40 := hl
      rw [l1, show (2 * (A.length : Int)).toNat = 2 * A.length by omega, show (2 * (A.length : Int) + 1).toNat = 2 * A.length + 1 by omega, am.1, am.2.1]
      refine ⟨⟨by omega, by omega⟩, ⟨by omega, by omega⟩, r, h _ (((f0.up (Or.inl rfl)).up (Or.inr (by decide)))) ?_⟩
      refine hY.st ((((mFr.id.up12 (by decide)).up12 (by decide)).up (by decide) (by decide))) (hN.und hZ.c gu.1 gu.2.1 (fun i => ?_) ?_ ?_ ?_ ?_)
      · rw [slU_at, slU_else (by decide)]
      · rw [slU_else (by decide), slU_same]
      · rw [slU_else (by decide), slU_else (by decide), e89]; exact am.2.2
      · rw [slU_else (by decide), slU_else (by decide)]
      · rw [slU_else (by decide), slU_ne (by decide)]
  · match A, hY, hZ, h, q, y0 with
    | [], _, _, h, _, y0 => exact h _ f0 y0
    | e :: A, _, _, _, q, _ => exact absurd (show ((A.length + 1 : Nat) : Int) = 0 from q) (by omega)
