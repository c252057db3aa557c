/-! ===== refusals, and the model's sailing over the state ===== -/
theorem gdZ.c {N : Nat} {Z : abZ} (h : gdZ N Z) : gdC Z.1 := h.1
theorem gdZ.v {N : Nat} {Z : abZ} (h : gdZ N Z) : gdV Z.1 Z.2.1.1 := h.2.1.1.v
theorem gdV.k {P : abP} {T : Int → Int → Int} (h : gdV P T) : gdK 240 P (abC P T) (T 0) := ⟨fun n _ _ => h.1.crs n.toNat, h.2.1⟩
theorem isX.cc {c s : Nat} {Z : abZ} {σ : slM} (h : isX c s Z σ) : isC c Z.1 σ := h.2.2.2.2.2.1
theorem isX.ss {c s : Nat} {Z : abZ} {σ : slM} (h : isX c s Z σ) : isS s Z.1 Z.2.1 σ := h.2.2.2.2.2.2.1
theorem isX.e4 {c s : Nat} {Z : abZ} {σ : slM} (h : isX c s Z σ) : (σ 11 0 4).toNat = c := by rw [h.2.1, Int.toNat_natCast]
theorem isX.e5 {c s : Nat} {Z : abZ} {σ : slM} (h : isX c s Z σ) : (σ 11 0 5).toNat = s := by rw [h.2.2.1, Int.toNat_natCast]
theorem isX.s1 {c s : Nat} {Z : abZ} {σ : slM} (h : isX c s Z σ) : s ≤ 1 := h.1.2
theorem isX.dz {c s : Nat} {Z : abZ} {σ : slM} (h : isX c s Z σ) : ∀ i : Nat, i ≤ 1 → ∀ k : Nat, k % 240 % 24 < 12 → σ 36 i k = 0 := h.2.2.2.2.2.2.2.2.2.1
theorem isX.sl {c s : Nat} {Z : abZ} {σ : slM} (h : isX c s Z σ) : σ 11 0 12 = 0 ∨ (σ 11 0 12 = 1 ∧ isStl Z.1 Z.2.1.1 σ) := h.2.2.2.2.2.2.2.2.1
/-- a question on the trial course alone leaves what is reckoned -/
theorem isX.q1 {c s : Nat} {Z : abZ} {σ τ : slM} (h : isX c s Z σ) (f : cQ σ τ) (q : ∀ r, r = 60 ∨ r = 56 ∨ r = 35 ∨ r = 36 → τ r 0 = σ r 0) (e12 : τ 11 0 12 = σ 11 0 12) (hd : ∀ k : Nat, k % 240 % 24 < 12 → τ 36 1 k = 0) : isX c s Z τ := by
  refine h.q f ?_ (fun i hi k hk => ?_)
  · rw [e12]
    rcases h.sl with z | z
    · exact Or.inl z
    · exact Or.inr ⟨z.1, z.2.c q⟩
  · by_cases z : i = 0
    · rw [z, q 36 (by decide)]; exact h.dz 0 (by decide) k hk
    · rw [show i = 1 by omega]; exact hd k hk
set_option maxHeartbeats 1000000 in
set_option maxRecDepth 4000 in
theorem sp_X11_needLight {G : slG} (hG : slGood G) {d K : Nat} (hd : 8 ≤ d) (hK : 1 ≤ K) {Φ : slPost} {σ : slM} {x1 : Int} {c s : Nat} {Z : abZ} (hX : isX c s Z σ) (hC : gdC Z.1) (hx : InR x1) (h0 : 0 ≤ x1 ∧ x1 < Z.1 1 3 → Φ (0, 0) σ) (h1 : ¬ (0 ≤ x1 ∧ x1 < Z.1 1 3) → Φ (1, 0) σ) :
    slCall G mX11_needLight d K [sR 11 0, sI x1] σ Φ := by
  refine vc_X11_needLight hG (by omega) hK  ?_
  have a := hC.2.2.2.1
  rw [hX.e4, hX.cc.1]
  exact ⟨hx, fun q => h1 (by omega), fun q => ⟨⟨hx, by omega, by omega⟩, fun q2 => h0 ⟨by omega, q2⟩, fun q2 => h1 (by omega)⟩⟩
set_option maxHeartbeats 1000000 in
set_option maxRecDepth 4000 in
theorem sp_X11_needShip {G : slG} (hG : slGood G) {d K : Nat} (hd : 8 ≤ d) (hK : 1 ≤ K) {Φ : slPost} {σ : slM} {x1 : Int} {c s : Nat} {Z : abZ} (hX : isX c s Z σ) (hC : gdC Z.1) (hx : InR x1) (h0 : 0 ≤ x1 ∧ x1 < Z.1 1 4 → Φ (0, 0) σ) (h1 : ¬ (0 ≤ x1 ∧ x1 < Z.1 1 4) → Φ (1, 0) σ) :
    slCall G mX11_needShip d K [sR 11 0, sI x1] σ Φ := by
  refine vc_X11_needShip hG (by omega) hK  ?_
  have a := hC.2.2.2.2.1
  rw [hX.e4, hX.cc.1]
  exact ⟨hx, fun q => h1 (by omega), fun q => ⟨⟨hx, by omega, by omega⟩, fun q2 => h0 ⟨by omega, q2⟩, fun q2 => h1 (by omega)⟩⟩
set_option maxHeartbeats 1000000 in
set_option maxRecDepth 4000 in
theorem sp_X11_needHour {G : slG} (hG : slGood G) {d K : Nat} (hd : 8 ≤ d) (hK : 1 ≤ K) {Φ : slPost} {σ : slM} {x0 : Int} (hx : InR x0) (h0 : 0 ≤ x0 ∧ x0 < 240 → Φ (0, 0) σ) (h1 : ¬ (0 ≤ x0 ∧ x0 < 240) → Φ (1, 0) σ) :
    slCall G mX11_needHour d K [sI x0] σ Φ := by
  refine vc_X11_needHour hG (by omega) hK  ?_
  exact ⟨hx, fun q => h1 (by omega), fun q => ⟨hx, fun q2 => h0 (by omega), fun q2 => h1 (by omega)⟩⟩
set_option maxHeartbeats 1000000 in
set_option maxRecDepth 4000 in
theorem sp_X11_needNight {G : slG} (hG : slGood G) {d K : Nat} (hd : 8 ≤ d) (hK : 1 ≤ K) {Φ : slPost} {σ : slM} {x0 : Int} (hx : InR x0) (h0 : 0 ≤ x0 ∧ x0 < 10 → Φ (0, 0) σ) (h1 : ¬ (0 ≤ x0 ∧ x0 < 10) → Φ (1, 0) σ) :
    slCall G mX11_needNight d K [sI x0] σ Φ := by
  refine vc_X11_needNight hG (by omega) hK  ?_
  exact ⟨hx, fun q => h1 (by omega), fun q => ⟨hx, fun q2 => h0 (by omega), fun q2 => h1 (by omega)⟩⟩
set_option maxHeartbeats 1000000 in
set_option maxRecDepth 4000 in
theorem sp_X11_needWhat {G : slG} (hG : slGood G) {d K : Nat} (hd : 8 ≤ d) (hK : 1 ≤ K) {Φ : slPost} {σ : slM} {x0 : Int} {x1 : Int} (hx : InR x0) (hx1 : InR x1) (h0 : 0 ≤ x0 ∧ x0 < x1 → Φ (0, 0) σ) (h1 : ¬ (0 ≤ x0 ∧ x0 < x1) → Φ (1, 0) σ) :
    slCall G mX11_needWhat d K [sI x0, sI x1] σ Φ := by
  refine vc_X11_needWhat hG (by omega) hK  ?_
  exact ⟨hx, fun q => h1 (by omega), fun q => ⟨⟨hx, hx1⟩, fun q2 => h0 (by omega), fun q2 => h1 (by omega)⟩⟩
set_option maxHeartbeats 1000000 in
set_option maxRecDepth 4000 in
theorem sp_X11_needTwo {G : slG} (hG : slGood G) {d K : Nat} (hd : 8 ≤ d) (hK : 1 ≤ K) {Φ : slPost} {σ : slM} {x0 : Int} {x1 : Int} (hx : InR x0) (hx1 : InR x1) (h0 : ¬ x0 = x1 → Φ (0, 0) σ) (h1 : x0 = x1 → Φ (2, 0) σ) :
    slCall G mX11_needTwo d K [sI x0, sI x1] σ Φ := by
  refine vc_X11_needTwo hG (by omega) hK  ?_
  exact ⟨⟨hx, hx1⟩, h0, h1⟩
set_option maxHeartbeats 1000000 in
set_option maxRecDepth 4000 in
theorem sp_X11_isLawOrNone {G : slG} (hG : slGood G) {d K : Nat} (hd : 0 ≤ d) (hK : 0 ≤ K) {Φ : slPost} {σ : slM} {x1 : Int} {c s : Nat} {Z : abZ} (hX : isX c s Z σ) (hC : gdC Z.1) (hx : InR x1) (h : Φ (0, abIf (-1 ≤ x1 ∧ x1 < Z.1 4 4) 1 0) σ) :
    slCall G mX11_isLawOrNone d K [sR 11 0, sI x1] σ Φ := by
  refine vc_X11_isLawOrNone hG (by omega) hK  ?_
  have a := hC.2.2.2.2.2.2.2.2.2.2.1
  obtain ⟨p1, p23, p24, p25, p26, p27, p28, p29, p30, p31, p32, p4, -⟩ := hX.cc
  rw [hX.e4, p4]
  refine ⟨hx, fun q => ?_, fun q => ⟨⟨hx, by omega, by omega⟩, fun q2 => ?_, fun q2 => ?_⟩⟩
  · rwa [abIf_f (by omega)] at h
  · rwa [abIf_f (by omega)] at h
  · rwa [abIf_t (by omega)] at h
set_option maxHeartbeats 1000000 in
set_option maxRecDepth 4000 in
theorem sp_X11_needLawOrNone {G : slG} (hG : slGood G) {d K : Nat} (hd : 8 ≤ d) (hK : 1 ≤ K) {Φ : slPost} {σ : slM} {x1 : Int} {c s : Nat} {Z : abZ} (hX : isX c s Z σ) (hC : gdC Z.1) (hx : InR x1) (h0 : -1 ≤ x1 ∧ x1 < Z.1 4 4 → Φ (0, 0) σ) (h1 : ¬ (-1 ≤ x1 ∧ x1 < Z.1 4 4) → Φ (1, 0) σ) :
    slCall G mX11_needLawOrNone d K [sR 11 0, sI x1] σ Φ := by
  refine vc_X11_needLawOrNone hG (by omega) hK  ?_
  refine sp_X11_isLawOrNone hG (by omega) (by omega) hX hC hx (slKt.ok ⟨in01, fun q => h0 (abIf_nz q), fun q => h1 (abIf_z q)⟩)
set_option maxHeartbeats 1000000 in
set_option maxRecDepth 4000 in
theorem sp_X12_right {G : slG} (hG : slGood G) {d K : Nat} (hd : 0 ≤ d) (hK : 0 ≤ K) {Φ : slPost} {σ : slM} {x1 : Int} {x2 : Int} (ht : σ 12 0 0 = 0) (hx : InR x1) (hx2 : InR x2) (h2 : x2 ≠ 0) (h0 : ¬ x1 = 0 → Φ (0, 1) σ) (h1 : x1 = 0 → Φ (0, 0) (slU σ 12 0 0 x2)) :
    slCall G mX12_right d K [sR 12 0, sI x1, sI x2] σ Φ := by
  refine vc_X12_right hG (by omega) hK  ?_
  rw [ht, slU_same]
  exact ⟨⟨by decide, by decide⟩, fun q => absurd rfl q, fun _ => ⟨hx, fun q => ⟨⟨by decide, by decide⟩, fun z => absurd rfl z, fun _ => h0 q⟩, fun q => ⟨hx2, fun _ => h1 q, fun z => absurd z h2⟩⟩⟩
set_option maxHeartbeats 1000000 in
set_option maxRecDepth 4000 in
theorem sp_X12_isLight {G : slG} (hG : slGood G) {d K : Nat} (hd : 1 ≤ d) (hK : 0 ≤ K) {Φ : slPost} {σ : slM} {x1 : Int} {P : abP} (hM : isM P σ) (hC : gdC P) (hx : InR x1) (ht : σ 12 0 0 = 0) (h0 : 0 ≤ x1 ∧ x1 < P 1 3 → Φ (0, 1) σ) (h1 : ¬ (0 ≤ x1 ∧ x1 < P 1 3) → Φ (0, 0) (slU σ 12 0 0 1)) :
    slCall G mX12_isLight d K [sR 12 0, sI x1] σ Φ := by
  refine vc_X12_isLight hG (by omega) hK  ?_
  have a := hC.2.2.2.1
  rw [hM.1.2.2.2.1]
  refine ⟨hx, fun q => ?_, fun q => ⟨⟨hx, by omega, by omega⟩, ?_⟩⟩
  · refine sp_X12_right hG (by omega) (by omega) ht ⟨by decide, by decide⟩ ⟨by decide, by decide⟩ (by decide) (fun z => absurd rfl z) (fun _ => slKt.ok ⟨Or.inl rfl, h1 (by omega)⟩)
  · refine sp_X12_right hG (by omega) (by omega) ht ?_ ⟨by decide, by decide⟩ (by decide) (fun z => slKt.ok ⟨Or.inr rfl, h0 ?_⟩) (fun z => slKt.ok ⟨Or.inl rfl, h1 ?_⟩)
    · split <;> exact ⟨by decide, by decide⟩
    · by_cases w : P 1 3 ≤ x1
      · rw [if_pos w] at z; exact absurd rfl z
      · omega
    · by_cases w : P 1 3 ≤ x1
      · omega
      · rw [if_neg w] at z; omega
set_option maxHeartbeats 1000000 in
set_option maxRecDepth 4000 in
theorem sp_X12_isShip {G : slG} (hG : slGood G) {d K : Nat} (hd : 1 ≤ d) (hK : 0 ≤ K) {Φ : slPost} {σ : slM} {x1 : Int} {P : abP} (hM : isM P σ) (hC : gdC P) (hx : InR x1) (ht : σ 12 0 0 = 0) (h0 : 0 ≤ x1 ∧ x1 < P 1 4 → Φ (0, 1) σ) (h1 : ¬ (0 ≤ x1 ∧ x1 < P 1 4) → Φ (0, 0) (slU σ 12 0 0 1)) :
    slCall G mX12_isShip d K [sR 12 0, sI x1] σ Φ := by
  refine vc_X12_isShip hG (by omega) hK  ?_
  have a := hC.2.2.2.2.1
  rw [hM.1.2.2.2.2.1]
  refine ⟨hx, fun q => ?_, fun q => ⟨⟨hx, by omega, by omega⟩, ?_⟩⟩
  · refine sp_X12_right hG (by omega) (by omega) ht ⟨by decide, by decide⟩ ⟨by decide, by decide⟩ (by decide) (fun z => absurd rfl z) (fun _ => slKt.ok ⟨Or.inl rfl, h1 (by omega)⟩)
  · refine sp_X12_right hG (by omega) (by omega) ht ?_ ⟨by decide, by decide⟩ (by decide) (fun z => slKt.ok ⟨Or.inr rfl, h0 ?_⟩) (fun z => slKt.ok ⟨Or.inl rfl, h1 ?_⟩)
    · split <;> exact ⟨by decide, by decide⟩
    · by_cases w : P 1 4 ≤ x1
      · rw [if_pos w] at z; exact absurd rfl z
      · omega
    · by_cases w : P 1 4 ≤ x1
      · omega
      · rw [if_neg w] at z; omega
set_option maxHeartbeats 1000000 in
set_option maxRecDepth 4000 in
theorem sp_X12_isLaw {G : slG} (hG : slGood G) {d K : Nat} (hd : 1 ≤ d) (hK : 0 ≤ K) {Φ : slPost} {σ : slM} {x1 : Int} {P : abP} (hM : isM P σ) (hC : gdC P) (hx : InR x1) (ht : σ 12 0 0 = 0) (h0 : -1 ≤ x1 ∧ x1 < P 4 4 → Φ (0, 1) σ) (h1 : ¬ (-1 ≤ x1 ∧ x1 < P 4 4) → Φ (0, 0) (slU σ 12 0 0 1)) :
    slCall G mX12_isLaw d K [sR 12 0, sI x1] σ Φ := by
  refine vc_X12_isLaw hG (by omega) hK  ?_
  have a := hC.2.2.2.2.2.2.2.2.2.2.1
  rw [hM.1.2.2.2.2.2.2]
  refine ⟨hx, fun q => ?_, fun q => ⟨⟨hx, by omega, by omega⟩, ?_⟩⟩
  · refine sp_X12_right hG (by omega) (by omega) ht ⟨by decide, by decide⟩ ⟨by decide, by decide⟩ (by decide) (fun z => absurd rfl z) (fun _ => slKt.ok ⟨Or.inl rfl, h1 (by omega)⟩)
  · refine sp_X12_right hG (by omega) (by omega) ht ?_ ⟨by decide, by decide⟩ (by decide) (fun z => slKt.ok ⟨Or.inr rfl, h0 ?_⟩) (fun z => slKt.ok ⟨Or.inl rfl, h1 ?_⟩)
    · split <;> exact ⟨by decide, by decide⟩
    · by_cases w : P 4 4 ≤ x1
      · rw [if_pos w] at z; exact absurd rfl z
      · omega
    · by_cases w : P 4 4 ≤ x1
      · omega
      · rw [if_neg w] at z; omega
set_option maxHeartbeats 1000000 in
set_option maxRecDepth 4000 in
theorem sp_X12_isHour {G : slG} (hG : slGood G) {d K : Nat} (hd : 1 ≤ d) (hK : 0 ≤ K) {Φ : slPost} {σ : slM} {x1 : Int} (hx : InR x1) (ht : σ 12 0 0 = 0) (h0 : 0 ≤ x1 ∧ x1 < 240 → Φ (0, 1) σ) (h1 : ¬ (0 ≤ x1 ∧ x1 < 240) → Φ (0, 0) (slU σ 12 0 0 1)) :
    slCall G mX12_isHour d K [sR 12 0, sI x1] σ Φ := by
  refine vc_X12_isHour hG (by omega) hK  ?_
  refine sp_X12_within hG (by omega) (by omega) hx ⟨by decide, by decide⟩ ⟨by decide, by decide⟩ (slKt.ok ?_)
  refine sp_X12_right hG (by omega) (by omega) ht in01 ⟨by decide, by decide⟩ (by decide) (fun z => slKt.ok ⟨Or.inr rfl, h0 (by have := abIf_nz z; omega)⟩) (fun z => slKt.ok ⟨Or.inl rfl, h1 (by have := abIf_z z; omega)⟩)
set_option maxHeartbeats 1000000 in
set_option maxRecDepth 4000 in
theorem sp_X12_isNight {G : slG} (hG : slGood G) {d K : Nat} (hd : 1 ≤ d) (hK : 0 ≤ K) {Φ : slPost} {σ : slM} {x1 : Int} (hx : InR x1) (ht : σ 12 0 0 = 0) (h0 : 0 ≤ x1 ∧ x1 < 10 → Φ (0, 1) σ) (h1 : ¬ (0 ≤ x1 ∧ x1 < 10) → Φ (0, 0) (slU σ 12 0 0 1)) :
    slCall G mX12_isNight d K [sR 12 0, sI x1] σ Φ := by
  refine vc_X12_isNight hG (by omega) hK  ?_
  refine sp_X12_within hG (by omega) (by omega) hx ⟨by decide, by decide⟩ ⟨by decide, by decide⟩ (slKt.ok ?_)
  refine sp_X12_right hG (by omega) (by omega) ht in01 ⟨by decide, by decide⟩ (by decide) (fun z => slKt.ok ⟨Or.inr rfl, h0 (by have := abIf_nz z; omega)⟩) (fun z => slKt.ok ⟨Or.inl rfl, h1 (by have := abIf_z z; omega)⟩)
set_option maxHeartbeats 1000000 in
set_option maxRecDepth 4000 in
theorem sp_X12_isWhat {G : slG} (hG : slGood G) {d K : Nat} (hd : 1 ≤ d) (hK : 0 ≤ K) {Φ : slPost} {σ : slM} {x1 : Int} {x2 : Int} (hx : InR x1) (hx2 : InR x2) (ht : σ 12 0 0 = 0) (h0 : 0 ≤ x1 ∧ x1 < x2 + 1 → Φ (0, 1) σ) (h1 : ¬ (0 ≤ x1 ∧ x1 < x2 + 1) → Φ (0, 0) (slU σ 12 0 0 1)) :
    slCall G mX12_isWhat d K [sR 12 0, sI x1, sI x2] σ Φ := by
  refine vc_X12_isWhat hG (by omega) hK  ?_
  refine sp_X12_within hG (by omega) (by omega) hx ⟨by decide, by decide⟩ hx2 (slKt.ok ?_)
  refine sp_X12_right hG (by omega) (by omega) ht in01 ⟨by decide, by decide⟩ (by decide) (fun z => slKt.ok ⟨Or.inr rfl, h0 (by have := abIf_nz z; omega)⟩) (fun z => slKt.ok ⟨Or.inl rfl, h1 (by have := abIf_z z; omega)⟩)
/-- the model sails by a law, from begins b with oil o -/
theorem ms_sails {G : slG} (hG : slGood G) {d K : Nat} (hd : 10 ≤ d) {Φ : slPost} {σ : slM} {x1 x2 : Int} {P : abP} {b oil : Int → Int} (hM : isM P σ) (hC : gdC P) (h1 : 1 ≤ x1 ∧ x1 ≤ 240) (h2 : x2 = -1 ∨ (0 ≤ x2 ∧ x2 < P 4 4)) (hb : ∀ l : Int, 0 ≤ l → l < P 1 3 → σ 88 0 (13 + l).toNat = b l) (hg : gdP P b) (ho : ∀ l : Int, 0 ≤ l → l < P 1 3 → σ 88 0 (0 + l).toNat = oil l) (h0 : ∀ l : Int, 0 ≤ l → l < P 1 3 → 0 ≤ oil l ∧ oil l ≤ 200)
    (h : ∀ τ, mFr [90, 91, 92, 93, 94, 95] [65] σ τ → mSl x1 P (fun h l => (abCrs P (abOrd P x2 oil) b h.toNat).1 l) oil τ → τ 12 0 65 = (abCrs P (abOrd P x2 oil) b (x1 - 1).toNat).2 → Φ (0, 0) τ) : slCall G mX12_sails d K [sR 12 0, sI x1, sI x2] σ Φ := by
  refine sp_X12_sails hG (by omega) (by omega) hM hC h1 h2 hb hg ho h0 (fun τ f c1 c2 c3 => h τ f (fun n l a b' c d' => ?_) c3)
  have e1 := c1 n.toNat l (by omega) c d'
  have e2 := c2 n.toNat l (by omega) c d'
  rw [show ((n.toNat : Nat) : Int) = n by omega] at e1 e2
  exact ⟨e1, e2⟩
set_option maxHeartbeats 1000000 in
set_option maxRecDepth 4000 in
theorem sp_X12_sailsNow {G : slG} (hG : slGood G) {d K : Nat} (hd : 11 ≤ d) (hK : 0 ≤ K) {Φ : slPost} {σ : slM}  {N : Nat} {Z : abZ} (hY : isY Z σ) (hZ : gdZ N Z) (h : ∀ τ, mFr [90, 91, 92, 93, 94, 95] [65] σ τ → mSl 240 Z.1 (abC Z.1 Z.2.1.1) (Z.2.1.1 0) τ → Φ (0, 0) τ) :
    slCall G mX12_sailsNow d K [sR 12 0] σ Φ := by
  refine vc_X12_sailsNow hG (by omega) hK  ?_
  have n := hY.2.1
  rw [n.2.2.2.1]
  exact ms_sails hG (by omega) hY.1 hZ.c ⟨by decide, by decide⟩ hZ.v.2.2.2.2 n.2.2.1 hZ.v.1 n.1 hZ.v.2.1 (fun τ f c1 _ => slKt.ok (h τ f c1))
/-! answers: a code and a value -/
noncomputable def abOk (p : Prop) (v : Int) : Nat × Int := abIte p (0, v) (1, 0)
theorem abOk_t {p : Prop} {v : Int} (h : p) : abOk p v = (0, v) := abIte_t h
theorem abOk_f {p : Prop} {v : Int} (h : ¬ p) : abOk p v = (1, 0) := abIte_f h
theorem mQ.id {σ : slM} : mQ σ σ := mFr.id
theorem mQ.t0 {σ τ : slM} {v : Int} (h : mQ σ τ) : mQ σ (slU τ 12 0 0 v) := mFr.up12 h (by decide)
