/-! ===== the law: one call after the other ===== -/
def w32 (v : Int) : Int := (Int32.ofInt v).toInt
theorem w32_r {v : Int} : InR (w32 v) := ⟨Int32.le_toInt _, Int32.toInt_lt _⟩
theorem slRv_w {ret : Option FieldType} {v : Int} (h : ret ≠ some .long) : slRv ret (w32 v) = slRv ret v := by
  unfold slRv w32
  split
  · rfl
  · exact absurd rfl h
  · rw [Int32.ofInt_toInt]
/-- an answer may be taken as the machine holds it -/
theorem slCall.wr {G : slG} {M : slMt} {d K : Nat} {av : List slV} {σ : slM} {Φ Ψ : slPost} (hM : M.2.2.2 ≠ some .long) (h : slCall G M d K av σ Φ) (h0 : ∀ v τ, Φ (0, v) τ → Ψ (0, w32 v) τ) (h1 : ∀ k τ, k = 1 ∨ k = 2 → Φ (k, 0) τ → Ψ (k, 0) τ) : slCall G M d K av σ Ψ := by
  intro hall p e ha hf hc s m args below a1 a2 a3 a4
  obtain ⟨n, o, b1, b2, b3, Q⟩ := h hall p e ha hf hc s m args below a1 a2 a3 a4
  refine ⟨n, o, b1, b2, b3, ?_⟩
  rcases Q with ⟨⟨v, σ', hΦ, ho, hr⟩, L⟩ | ⟨q, ho, E, ce, L, ⟨k, σ', hk, hΦ, he, hr⟩, rest⟩
  · exact Or.inl ⟨⟨w32 v, σ', h0 v σ' hΦ, by rw [ho, slRv_w hM], hr⟩, L⟩
  · exact Or.inr ⟨q, ho, E, ce, L, ⟨k, σ', hk, h1 k σ' hk hΦ, he, hr⟩, rest⟩
theorem isX.o {c s : Nat} {Z : abZ} {σ : slM} {k : Nat} {v : Int} (h : isX c s Z σ) : isX c s Z (slU σ 14 0 k v) := by
  have q : ∀ r i, r ≠ 14 → slU σ 14 0 k v r i = σ r i := fun r i a => slU_else (by omega)
  obtain ⟨h1, h2, h3, h4, h5, h6, h7, h8, h9, h10, h11, h12, h13, h14⟩ := h
  have e11 := q 11 0 (by decide)
  refine ⟨h1, by rw [e11]; exact h2, by rw [e11]; exact h3, by rw [q 7 0 (by decide)]; exact h4, by rw [q 7 0 (by decide)]; exact h5, h6.c (fun r hr => ?_), h7.c (fun r hr => q r s (by omega)), h8.c (by rw [e11]) (fun r hr => q r 2 (by omega)), ?_, ?_, by rw [e11]; exact h11, by rw [q 58 0 (by decide)]; exact h12, by rw [e11]; exact h13, by rw [q 59 0 (by decide)]; exact h14⟩
  · exact q r c ((by decide : ∀ r ∈ chR, r ≠ 14) r hr)
  · rw [e11]
    rcases h9 with z | z
    · exact Or.inl z
    · exact Or.inr ⟨z.1, z.2.c (fun r hr => q r 0 (by omega))⟩
  · intro i hi k hk
    rw [q 36 i (by decide)]
    exact h10 i hi k hk
theorem isY.o {Z : abZ} {σ : slM} {k : Nat} {v : Int} (h : isY Z σ) : isY Z (slU σ 14 0 k v) := h.fr (clF.id.up (by decide))
/-- both hold the same, and well -/
def lwI (N : Nat) (τ : slM) : Prop := ∃ c s Z, isX c s Z τ ∧ isY Z τ ∧ gdZ N Z
theorem sCmp_same (v : Int) : sCmp v v = 0 := by
  unfold sCmp lg_cmp
  simp
/-- what the law asks behind the class's answer v1 -/
def lwP (G : slG) (Mm : slMt) (am : List slV) (N : Nat) : slPost := slKn (fun v1 τ2 => slCall G Mm 100 0 am τ2 (slKn (fun v4 τ5 => slCall G mX12_thrown 100 0 [sR 12 0] τ5 (slKn (fun v7 τ8 => ((InR v7) ∧ (InR v1)) ∧ (v7 = v1 → ((InR v1)) ∧ (¬ v1 = 0 → lwI N τ8) ∧ (v1 = 0 → (InR v4) ∧ ((InR (sCmp (τ8 14 0 0) v4))) ∧ (sCmp (τ8 14 0 0) v4 = 0 → lwI N τ8) ∧ (¬ (sCmp (τ8 14 0 0) v4 = 0) → False))) ∧ (¬ (v7 = v1) → False))))))
theorem lwE {G : slG} (hG : slGood G) {N : Nat} {Mm : slMt} {am : List slV} {τ2 : slM} {v1 a : Int} (hM : Mm.2.2.2 ≠ some .long) (hv : v1 = 0 ∨ v1 = 1 ∨ v1 = 2) (h14 : v1 = 0 → τ2 14 0 0 = w32 a) (hm : slCall G Mm 100 0 am τ2 (fun r τ => r.1 = 0 ∧ r.2 = a ∧ mdF τ2 τ ∧ lwI N τ ∧ τ 12 0 0 = v1)) : lwP G Mm am N (0, v1) τ2 := by
  refine slKn.ok (slCall.wr hM hm (fun v τ h => ?_) (fun k τ hk h => by have : k = 0 := h.1; omega))
  obtain ⟨-, ev, md, I, et⟩ := h
  have ev : v = a := ev
  refine slKn.ok (vc_X12_thrown hG (by omega) (by omega) (slKn.ok ?_))
  rw [et]
  have iv : InR v1 := ⟨by omega, by omega⟩
  refine ⟨⟨iv, iv⟩, fun _ => ⟨iv, fun _ => I, fun z => ⟨w32_r, ?_⟩⟩, fun z => z rfl⟩
  have e14 : τ 14 0 0 = w32 v := by
    rw [md 14 (by decide), h14 z, ev]
  rw [e14, sCmp_same]
  exact ⟨in0, fun _ => I, fun z => z rfl⟩
/-- a case of the law, from the class's spec and the model's -/
theorem lwQ {G : slG} (hG : slGood G) {N c s : Nat} {Z' : abZ} {Y0 : slM → Prop} {σ : slM} {Mm : slMt} {am : List slV} {a : Nat × Int} (hM : Mm.2.2.2 ≠ some .long) (hZ' : gdZ N Z') (y0 : ∀ τ, clF σ τ → Y0 τ)
    (hm : ∀ (Φ : slPost) (σ' : slM), Y0 σ' → (∀ τ, mdF σ' τ → isY Z' τ → τ 12 0 0 = (a.1 : Int) → Φ (0, a.2) τ) → slCall G Mm 100 0 am σ' Φ) {τ : slM} (f : clF σ τ) (hX' : isX c s Z' τ) :
    (a.1 = 0 → lwP G Mm am N (0, 0) (slU τ 14 0 0 (w32 a.2))) ∧ (a.1 = 1 → lwP G Mm am N (0, 1) τ) ∧ (a.1 = 2 → lwP G Mm am N (0, 2) τ) := by
  refine ⟨fun e => ?_, fun e => ?_, fun e => ?_⟩
  · refine lwE hG (a := a.2) hM (Or.inl rfl) (fun _ => slU_same _ _ _ _ _) (hm _ _ (y0 _ (f.up (by decide))) (fun υ g hY e0 => ⟨rfl, rfl, g, ⟨c, s, Z', (hX'.o).fr g, hY, hZ'⟩, by rw [e0, e]; rfl⟩))
  · refine lwE hG (a := a.2) hM (Or.inr (Or.inl rfl)) (fun z => absurd z (by decide)) (hm _ _ (y0 _ f) (fun υ g hY e0 => ⟨rfl, rfl, g, ⟨c, s, Z', hX'.fr g, hY, hZ'⟩, by rw [e0, e]; rfl⟩))
  · refine lwE hG (a := a.2) hM (Or.inr (Or.inr rfl)) (fun z => absurd z (by decide)) (hm _ _ (y0 _ f) (fun υ g hY e0 => ⟨rfl, rfl, g, ⟨c, s, Z', hX'.fr g, hY, hZ'⟩, by rw [e0, e]; rfl⟩))
