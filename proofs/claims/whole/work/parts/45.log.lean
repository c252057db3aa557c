/-! ===== the log, images, light ===== -/
theorem abLc_c {a b c d a' b' c' d' : Nat → Int} : ∀ {A : List (Int × Int × Int × Int)}, (∀ k, k < A.length → a' k = a k ∧ b' k = b k ∧ c' k = c k ∧ d' k = d k) → abLc a b c d A → abLc a' b' c' d' A
  | [], _, _ => trivial
  | e :: t, q, h => by
    have k := q t.length (Nat.lt_succ_self _)
    exact ⟨k.1.trans h.1, k.2.1.trans h.2.1, k.2.2.1.trans h.2.2.1, k.2.2.2.trans h.2.2.2.1, abLc_c (fun j hj => q j (Nat.lt_succ_of_lt hj)) h.2.2.2.2⟩
theorem abLm_c {a a' : Nat → Int} : ∀ {A : List (Int × Int × Int × Int)}, (∀ k, k < 4 * A.length → a' k = a k) → abLm a A → abLm a' A
  | [], _, _ => trivial
  | e :: t, q, h => by
    have ln : (e :: t).length = t.length + 1 := rfl
    rw [ln] at q
    exact ⟨(q _ (by omega)).trans h.1, (q _ (by omega)).trans h.2.1, (q _ (by omega)).trans h.2.2.1, (q _ (by omega)).trans h.2.2.2.1, abLm_c (fun j hj => q j (by omega)) h.2.2.2.2⟩
def abB01 (x : Int) : Int := if x = 0 then 0 else 1
noncomputable def nxLog (Z : abZ) (a b c d : Int) : abZ :=
  abIte ((0 ≤ a ∧ a < Z.1 1 4) ∧ (0 ≤ b ∧ b < 240) ∧ 0 ≤ c ∧ c < Z.1 1 3) (if Z.2.1.2.2.length < 8 then (Z.1, (Z.2.1.1, Z.2.1.2.1, (a, b, c, abB01 d) :: Z.2.1.2.2), Z.2.2) else nxRef Z 2) Z
noncomputable def anLog (Z : abZ) (a b c : Int) : Nat × Int :=
  abOk ((0 ≤ a ∧ a < Z.1 1 4) ∧ (0 ≤ b ∧ b < 240) ∧ 0 ≤ c ∧ c < Z.1 1 3) (if Z.2.1.2.2.length < 8 then (Z.2.1.2.2.length : Int) + 1 else -1)
theorem gdZ.log {N : Nat} {Z : abZ} {a b c d : Int} (h : gdZ N Z) : gdZ (N + 1) (nxLog Z a b c d) := by
  unfold nxLog
  by_cases p : (0 ≤ a ∧ a < Z.1 1 4) ∧ (0 ≤ b ∧ b < 240) ∧ 0 ≤ c ∧ c < Z.1 1 3
  · rw [abIte_t p]
    by_cases q : Z.2.1.2.2.length < 8
    · rw [if_pos q]
      refine ⟨h.1, ⟨h.2.1.1, fun e he => ?_, h.2.1.2.2.1, by show Z.2.1.2.2.length + 1 ≤ 8; omega⟩, h.2.2.1, h.2.2.2.1, h.2.2.2.2.1, h.2.2.2.2.2.1, h.s.2.2.2.2.2.2⟩
      rcases List.mem_cons.mp he with z | z
      · rw [z]
        refine ⟨p.1, p.2.1, p.2.2, ?_⟩
        show abB01 d = 0 ∨ abB01 d = 1
        unfold abB01
        omega
      · exact h.2.1.2.1 e z
    · rw [if_neg q]; exact h.ref
  · rw [abIte_f p]; exact h.s
theorem isX.log {c s : Nat} {Z : abZ} {σ τ : slM} {L : List (Int × Int × Int × Int)} (hX : isX c s Z σ) (f : slFr [(5, s), (40, s), (41, s), (42, s), (43, s)] σ τ) (e5 : τ 5 s 4 = L.length) (e40 : abLc (τ 40 s) (τ 41 s) (τ 42 s) (τ 43 s) L) : isX c s (Z.1, (Z.2.1.1, Z.2.1.2.1, L), Z.2.2) τ := by
  have e11 : τ 11 0 = σ 11 0 := f 11 0 (by simp)
  have g := stR_fr (s := s) f (by simp [stR])
  obtain ⟨s0, s1, s2, s3, s4, s5, s6, s7, s8⟩ := hX.ss
  refine hX.st (fun r i _ b => g r i b) (fun k _ => by rw [e11]) ⟨fun l a b => ?_, fun l a b => ?_, fun l a b => ?_, ?_, fun l a b => ?_, ?_, ?_, e5, e40⟩ ?_
  · rw [f 52 s (by simp)]; exact s0 l a b
  · rw [f 53 s (by simp)]; exact s1 l a b
  · rw [f 51 s (by simp)]; exact s2 l a b
  · rw [f 8 s (by simp)]; exact s3
  · rw [f 54 s (by simp)]; exact s4 l a b
  · rw [f 0 s (by simp)]; exact s5
  · rw [f 20 s (by simp), f 21 s (by simp), f 22 s (by simp)]; exact s6
  · rw [e11]
    rcases hX.sl with z | z
    · exact Or.inl z
    · exact Or.inr ⟨z.1, z.2.c (fun r hr => f r 0 (by simp; omega))⟩
set_option maxHeartbeats 1000000 in
set_option maxRecDepth 4000 in
theorem sp_X5_enter {G : slG} (hG : slGood G) {d K : Nat} (hd : 0 ≤ d) (hK : 0 ≤ K) {Φ : slPost} {σ : slM} {i0 : Nat} {x1 : Int} {x2 : Int} {x3 : Int} {x4 : Int} {A : List (Int × Int × Int × Int)} (hA : σ 5 i0 4 = A.length) (hl : A.length < 8) (hc : abLc (σ 40 i0) (σ 41 i0) (σ 42 i0) (σ 43 i0) A) (i4 : InR x4) (h : ∀ τ, slFr [(5, i0), (40, i0), (41, i0), (42, i0), (43, i0)] σ τ → τ 5 i0 4 = ((x1, x2, x3, abB01 x4) :: A).length → abLc (τ 40 i0) (τ 41 i0) (τ 42 i0) (τ 43 i0) ((x1, x2, x3, abB01 x4) :: A) → Φ (0, 0) τ) :
    slCall G mX5_enter d K [sR 5 i0, sI x1, sI x2, sI x3, sI x4] σ Φ := by
  refine vc_X5_enter hG (by omega) hK  ?_
  have u : ∀ (τ : slM) (r k : Nat) (v : Int), r ≠ 5 → slU τ r i0 k v 5 i0 4 = τ 5 i0 4 := fun τ r k v hr => by rw [slU_else (fun z => hr z.1.symm)]
  simp only [u _ 40 _ _ (by decide), u _ 41 _ _ (by decide), u _ 42 _ _ (by decide), u _ 43 _ _ (by decide), hA, Int.toNat_natCast]
  refine ⟨⟨by omega, by omega⟩, fun q => by omega, fun q => ⟨⟨by omega, by omega⟩, ⟨by omega, by omega⟩, ⟨by omega, by omega⟩, i4, ⟨by omega, by omega⟩, h _ (((((slFr.id.up (by simp)).up (by simp)).up (by simp)).up (by simp)).up (by simp)) ?_ ⟨?_, ?_, ?_, ?_, ?_⟩⟩⟩
  · rw [slU_same]; rfl
  · rw [slU_else (by omega), slU_else (by omega), slU_else (by omega), slU_else (by omega), slU_same]
  · rw [slU_else (by omega), slU_else (by omega), slU_else (by omega), slU_same]
  · rw [slU_else (by omega), slU_else (by omega), slU_same]
  · rw [slU_else (by omega), slU_same]; rfl
  · refine abLc_c (fun k hk => ⟨?_, ?_, ?_, ?_⟩) hc
    · rw [slU_else (by omega), slU_else (by omega), slU_else (by omega), slU_else (by omega), slU_ne (by omega)]
    · rw [slU_else (by omega), slU_else (by omega), slU_else (by omega), slU_ne (by omega), slU_else (by omega)]
    · rw [slU_else (by omega), slU_else (by omega), slU_ne (by omega), slU_else (by omega), slU_else (by omega)]
    · rw [slU_else (by omega), slU_ne (by omega), slU_else (by omega), slU_else (by omega), slU_else (by omega)]
theorem st_clF {L : List (Nat × Nat)} {s : Nat} {σ τ : slM} (f : slFr L σ τ) (hL : ∀ p ∈ L, p.1 ∈ stR ∧ p.2 = s) : clF σ τ := fun r hr => by
  funext i
  exact stR_fr f hL r i (fun z => by have := (by decide : ∀ r ∈ stR, ¬ (r = 12 ∨ 61 ≤ r)) r z.1; exact this hr)
set_option maxHeartbeats 1000000 in
set_option maxRecDepth 4000 in
theorem sp_X11_log {G : slG} (hG : slGood G) {d K : Nat} (hd : 50 ≤ d) (hK : 3 ≤ K) {Φ : slPost} {σ : slM} {x1 : Int} {x2 : Int} {x3 : Int} {x4 : Int} {c s N : Nat} {Z : abZ} (hX : isX c s Z σ) (hZ : gdZ N Z) (i1 : InR x1) (i2 : InR x2) (i3 : InR x3) (i4 : InR x4) (h : ∀ τ, clF σ τ → isX c s (nxLog Z x1 x2 x3 x4) τ → Φ (anLog Z x1 x2 x3) τ) :
    slCall G mX11_log d K [sR 11 0, sI x1, sI x2, sI x3, sI x4] σ Φ := by
  refine vc_X11_log hG (by omega) hK  ?_
  unfold nxLog anLog at h
  have no : ¬ ((0 ≤ x1 ∧ x1 < Z.1 1 4) ∧ (0 ≤ x2 ∧ x2 < 240) ∧ 0 ≤ x3 ∧ x3 < Z.1 1 3) → Φ (1, 0) σ := fun p => by
    have := h σ clF.id
    rw [abIte_f p, abOk_f p] at this
    exact this hX
  refine sp_X11_needShip hG (by omega) (by omega) hX hZ.c i1 (fun q1 => slKt.ok ?_) (fun q => slKt.ex (Or.inl rfl) (no (fun z => q z.1)))
  refine sp_X11_needHour hG (by omega) (by omega) i2 (fun q2 => slKt.ok ?_) (fun q => slKt.ex (Or.inl rfl) (no (fun z => q z.2.1)))
  refine sp_X11_needLight hG (by omega) (by omega) hX hZ.c i3 (fun q3 => slKt.ok ?_) (fun q => slKt.ex (Or.inl rfl) (no (fun z => q z.2.2)))
  rw [abIte_t ⟨q1, q2, q3⟩, abOk_t ⟨q1, q2, q3⟩] at h
  have e5 := hX.ss.2.2.2.2.2.2.2.1
  have l8 := hZ.2.1.2.2.2
  rw [hX.e5, e5]
  refine ⟨⟨by omega, by omega⟩, fun q => ?_, fun q => ?_⟩
  · have q' : Z.2.1.2.2.length < 8 := by omega
    rw [if_pos q', if_pos q'] at h
    refine sp_X5_enter hG (by omega) (by omega) e5 q' hX.ss.2.2.2.2.2.2.2.2 i4 (fun τ f a b => slKt.ok ?_)
    have e11 : τ 11 0 = σ 11 0 := f 11 0 (by simp)
    rw [e11, hX.e5, a]
    exact h τ (st_clF (s := s) f (by simp [stR])) (hX.log f a b)
  · have q' : ¬ Z.2.1.2.2.length < 8 := by omega
    rw [if_neg q', if_neg q'] at h
    have h0 := hX
    obtain ⟨h1, h2, h3, h4, h5, h6, h7, h8, h9, h10, h11, h12, h13, h14⟩ := hX
    refine h _ (clF.id.up (by decide)) (h0.tp (cFr.id.up (by decide) (by decide)) (by rw [slU_else (by decide)]; exact h11) (fun k hk => by rw [slU_else (by decide)]; exact h12 k hk) (by rw [slU_else (by decide)]; exact h13) (fun k hk => ?_))
    rw [slU_at, h14 2 (by decide)]
    by_cases z : k = 2
    · rw [if_pos z, if_pos z, z]
    · rw [if_neg z, if_neg z]; exact h14 k hk
theorem isN.log {P : abP} {D : abD} {σ τ : slM} {L : List (Int × Int × Int × Int)} (h : isN 88 89 102 58 72 P D σ) (e88 : τ 88 0 = σ 88 0) (e89 : τ 89 0 = σ 89 0) (e58 : τ 12 0 58 = σ 12 0 58) (e72 : τ 12 0 72 = L.length) (e102 : abLm (τ 102 0) L) : isN 88 89 102 58 72 P (D.1, D.2.1, L) τ := by
  obtain ⟨t0, t1, t2, t3, t4, t5, t6, t7, t8⟩ := h
  unfold isN
  rw [e88, e89, e58]
  exact ⟨t0, t1, t2, t3, t4, t5, t6, e72, e102⟩
set_option maxHeartbeats 1000000 in
set_option maxRecDepth 4000 in
theorem sp_X12_log {G : slG} (hG : slGood G) {d K : Nat} (hd : 50 ≤ d) (hK : 0 ≤ K) {Φ : slPost} {σ : slM} {x1 : Int} {x2 : Int} {x3 : Int} {x4 : Int} {N : Nat} {Z : abZ} (hY : isY Z σ) (hZ : gdZ N Z) (i1 : InR x1) (i2 : InR x2) (i3 : InR x3) (i4 : InR x4) (h : ∀ τ, mdF σ τ → isY (nxLog Z x1 x2 x3 x4) τ → τ 12 0 0 = (anLog Z x1 x2 x3).1 → Φ (0, (anLog Z x1 x2 x3).2) τ) :
    slCall G mX12_log d K [sR 12 0, sI x1, sI x2, sI x3, sI x4] σ Φ := by
  refine vc_X12_log hG (by omega) hK  ?_
  unfold nxLog anLog at h
  have y0 := hY.z
  have f0 : mdF σ (slU σ 12 0 0 0) := mdF.id.up (Or.inl rfl)
  have no : ¬ ((0 ≤ x1 ∧ x1 < Z.1 1 4) ∧ (0 ≤ x2 ∧ x2 < 240) ∧ 0 ≤ x3 ∧ x3 < Z.1 1 3) → Φ (0, 0) (slU (slU σ 12 0 0 0) 12 0 0 1) := fun p => by
    have := h (slU (slU σ 12 0 0 0) 12 0 0 1) (f0.up (Or.inl rfl))
    rw [abIte_f p, abOk_f p] at this
    exact this (y0.q mQ.id.t0) (slU_same _ _ _ _ _)
  refine sp_X12_isShip hG (by omega) (by omega) y0.1 hZ.c i1 (slU_same _ _ _ _ _) (fun q1 => slKt.ok ⟨in1, fun z => absurd z (by decide), fun _ => ?_⟩) (fun q => slKt.ok ⟨in0, fun _ => no (fun z => q z.1), fun z => absurd rfl z⟩)
  refine sp_X12_isHour hG (by omega) (by omega) i2 (slU_same _ _ _ _ _) (fun q2 => slKt.ok ⟨in1, fun z => absurd z (by decide), fun _ => ?_⟩) (fun q => slKt.ok ⟨in0, fun _ => no (fun z => q z.2.1), fun z => absurd rfl z⟩)
  refine sp_X12_isLight hG (by omega) (by omega) y0.1 hZ.c i3 (slU_same _ _ _ _ _) (fun q3 => slKt.ok ⟨in1, fun _ => ?_, fun z => absurd z (by decide)⟩) (fun q => slKt.ok ⟨in0, fun z => absurd rfl z, fun _ => no (fun z => q z.2.2)⟩)
  rw [abIte_t ⟨q1, q2, q3⟩, abOk_t ⟨q1, q2, q3⟩] at h
  have e72 := y0.2.1.2.2.2.2.2.2.2.1
  have lm := y0.2.1.2.2.2.2.2.2.2.2
  have l8 := hZ.2.1.2.2.2
  have u1 : ∀ (τ : slM) (k : Nat) (v : Int), slU τ 102 0 k v 12 0 72 = τ 12 0 72 := fun τ k v => by rw [slU_else (by decide)]
  simp only [u1, slU_same, e72]
  refine ⟨⟨by omega, by omega⟩, fun q => ⟨⟨by omega, by omega⟩, ⟨by omega, by omega⟩, ⟨by omega, by omega⟩, i4, ⟨by omega, by omega⟩, ?_⟩, fun q => ?_⟩
  · have q' : Z.2.1.2.2.length < 8 := by omega
    rw [if_pos q', if_pos q'] at h
    refine h _ (((((f0.up (Or.inr (by decide))).up (Or.inr (by decide))).up (Or.inr (by decide))).up (Or.inr (by decide))).up (Or.inl rfl)) (hY.st (((((((mFr.id (σ := σ)).up12 (by decide)).up (by decide) (by decide)).up (by decide) (by decide)).up (by decide) (by decide)).up (by decide) (by decide)).up12 (by decide)) (y0.2.1.log ?_ ?_ ?_ ?_ ⟨?_, ?_, ?_, ?_, ?_⟩)) ?_
    · rw [slU_else (by decide), slU_else (by decide), slU_else (by decide), slU_else (by decide), slU_else (by decide)]
    · rw [slU_else (by decide), slU_else (by decide), slU_else (by decide), slU_else (by decide), slU_else (by decide)]
    · rw [slU_ne (by decide), slU_else (by decide), slU_else (by decide), slU_else (by decide), slU_else (by decide)]
    · rw [slU_same]; rfl
    · rw [slU_else (by decide), slU_ne (by omega), slU_ne (by omega), slU_ne (by omega), show (4 * (Z.2.1.2.2.length : Int)).toNat = 4 * Z.2.1.2.2.length by omega, slU_same]
    · rw [slU_else (by decide), slU_ne (by omega), slU_ne (by omega), show (4 * (Z.2.1.2.2.length : Int) + 1).toNat = 4 * Z.2.1.2.2.length + 1 by omega, slU_same]
    · rw [slU_else (by decide), slU_ne (by omega), show (4 * (Z.2.1.2.2.length : Int) + 2).toNat = 4 * Z.2.1.2.2.length + 2 by omega, slU_same]
    · rw [slU_else (by decide), show (4 * (Z.2.1.2.2.length : Int) + 3).toNat = 4 * Z.2.1.2.2.length + 3 by omega, slU_same]; rfl
    · refine abLm_c (fun j hj => ?_) lm
      rw [slU_else (by decide), slU_ne (by omega), slU_ne (by omega), slU_ne (by omega), slU_ne (by omega)]
    · rw [slU_ne (by decide), slU_else (by decide), slU_else (by decide), slU_else (by decide), slU_else (by decide), slU_same]; rfl
  · have q' : ¬ Z.2.1.2.2.length < 8 := by omega
    rw [if_neg q', if_neg q'] at h
    refine sp_X12_refuses hG (by omega) (by omega) y0 ⟨by decide, by decide⟩ (fun τ f x e => slKt.ok (h τ (f0.tr f) x (by rw [e, slU_same]; rfl)))
def nxForget (Z : abZ) : abZ := (Z.1, (Z.2.1.1, Z.2.1.2.1, []), Z.2.2)
theorem gdZ.forget {N : Nat} {Z : abZ} (h : gdZ N Z) : gdZ (N + 1) (nxForget Z) := ⟨h.1, ⟨h.2.1.1, fun e he => absurd he (by simp [nxForget]), h.2.1.2.2.1, by show (0 : Nat) ≤ 8; omega⟩, h.2.2.1, h.2.2.2.1, h.2.2.2.2.1, h.2.2.2.2.2.1, h.s.2.2.2.2.2.2⟩
set_option maxHeartbeats 1000000 in
set_option maxRecDepth 4000 in
theorem sp_X11_forget {G : slG} (hG : slGood G) {d K : Nat} (hd : 50 ≤ d) (hK : 0 ≤ K) {Φ : slPost} {σ : slM}  {c s : Nat} {Z : abZ} (hX : isX c s Z σ) (h : ∀ τ, clF σ τ → isX c s (nxForget Z) τ → Φ (0, 0) τ) :
    slCall G mX11_forget d K [sR 11 0] σ Φ := by
  refine vc_X11_forget hG (by omega) hK  ?_
  rw [hX.e5]
  have f : slFr [(5, s), (40, s), (41, s), (42, s), (43, s)] σ (slU σ 5 s 4 0) := slFr.id.up (by simp)
  exact h _ (st_clF (s := s) f (by simp [stR])) (hX.log (L := []) f (slU_same _ _ _ _ _) trivial)
set_option maxHeartbeats 1000000 in
set_option maxRecDepth 4000 in
theorem sp_X12_forget {G : slG} (hG : slGood G) {d K : Nat} (hd : 50 ≤ d) (hK : 0 ≤ K) {Φ : slPost} {σ : slM}  {Z : abZ} (hY : isY Z σ) (h : ∀ τ, mdF σ τ → isY (nxForget Z) τ → Φ (0, 0) τ) :
    slCall G mX12_forget d K [sR 12 0] σ Φ := by
  refine vc_X12_forget hG (by omega) hK  ?_
  refine h _ ((mdF.id.up (Or.inl rfl)).up (Or.inl rfl)) (hY.st (((mFr.id (σ := σ)).up12 (by decide)).up12 (by decide)) (hY.2.1.log (L := []) ?_ ?_ ?_ ?_ trivial))
  · rw [slU_else (by decide), slU_else (by decide)]
  · rw [slU_else (by decide), slU_else (by decide)]
  · rw [slU_ne (by decide), slU_ne (by decide)]
  · rw [slU_same]; rfl
/-! false entries -/
noncomputable def abFal (V : Int → Int → Int) : List (Int × Int × Int × Int) → Int
  | [] => 0
  | e :: t => abFal V t + abIf (abBit (V e.1 e.2.1) e.2.2.1 = e.2.2.2) 0 1
theorem abFal_r {V : Int → Int → Int} : ∀ {L : List (Int × Int × Int × Int)}, 0 ≤ abFal V L ∧ abFal V L ≤ L.length
  | [] => ⟨by show (0 : Int) ≤ 0; omega, by show (0 : Int) ≤ ((0 : Nat) : Int); omega⟩
  | e :: t => by
    have a := abFal_r (V := V) (L := t)
    show 0 ≤ abFal V t + abIf (abBit (V e.1 e.2.1) e.2.2.1 = e.2.2.2) 0 1 ∧ abFal V t + abIf (abBit (V e.1 e.2.1) e.2.2.1 = e.2.2.2) 0 1 ≤ ((t.length + 1 : Nat) : Int)
    by_cases z : abBit (V e.1 e.2.1) e.2.2.1 = e.2.2.2
    · rw [abIf_t z]; omega
    · rw [abIf_f z]; omega
theorem abFal_c {V U : Int → Int → Int} : ∀ {L : List (Int × Int × Int × Int)}, (∀ e ∈ L, V e.1 e.2.1 = U e.1 e.2.1) → abFal V L = abFal U L
  | [], _ => rfl
  | e :: t, h => by
    show abFal V t + abIf (abBit (V e.1 e.2.1) e.2.2.1 = e.2.2.2) 0 1 = abFal U t + abIf (abBit (U e.1 e.2.1) e.2.2.1 = e.2.2.2) 0 1
    rw [abFal_c (fun x hx => h x (List.mem_cons_of_mem _ hx)), h e List.mem_cons_self]
theorem abLc_tl {a b c d : Nat → Int} {t : List (Int × Int × Int × Int)} : ∀ {R : List (Int × Int × Int × Int)}, abLc a b c d (R ++ t) → abLc a b c d t
  | [], h => h
  | e :: R, h => abLc_tl (R := R) h.2.2.2.2
theorem abLm_tl {a : Nat → Int} {t : List (Int × Int × Int × Int)} : ∀ {R : List (Int × Int × Int × Int)}, abLm a (R ++ t) → abLm a t
  | [], h => h
  | e :: R, h => abLm_tl (R := R) h.2.2.2.2
theorem ab_last {α : Type} {R : List α} (h : R ≠ []) : ∃ R' e, R = R' ++ [e] := ⟨R.dropLast, R.getLast h, (List.dropLast_concat_getLast h).symm⟩
set_option maxHeartbeats 1000000 in
set_option maxRecDepth 4000 in
theorem sp_X5_falseBy {G : slG} (hG : slGood G) {d K : Nat} (hd : 1 ≤ d) (hK : 0 ≤ K) {Φ : slPost} {σ : slM} {i0 : Nat} {k : Nat} {P : abP} {V : Int → Int → Int} {L : List (Int × Int × Int × Int)} (hC : gdC P) (hA : σ 5 i0 4 = L.length) (hl : L.length ≤ 8) (hc : abLc (σ 40 i0) (σ 41 i0) (σ 42 i0) (σ 43 i0) L) (hg : gdL P L) (hv : ∀ s h : Int, 0 ≤ s → s < P 1 4 → 0 ≤ h → h < 240 → σ 36 k (s * 240 + h).toNat = V s h ∧ 0 ≤ V s h ∧ V s h < 32) (h : Φ (0, abFal V L) σ) :
    slCall G mX5_falseBy d K [sR 5 i0, sR 3 k] σ Φ := by
  refine vc_X5_falseBy hG (by omega) hK (fun μ y2 y3 σ' => σ' = σ ∧ ∃ R t, L = R ++ t ∧ μ = (R.length, 0, 0) ∧ y3 = (t.length : Int) ∧ y2 = abFal V t) ?_ ?_
  · exact ⟨_, rfl, L, [], (List.append_nil L).symm, rfl, rfl, rfl⟩
  · have a3 := hC.2.2.2.1
    have a4 := hC.2.2.2.2.1
    rintro μ y2 y3 σ' ⟨rfl, R, t, rfl, rfl, rfl, rfl⟩
    have ln : (R ++ t).length = R.length + t.length := List.length_append
    rw [hA]
    refine ⟨⟨⟨by omega, by omega⟩, by omega, by omega⟩, fun q => ?_, fun q => ?_⟩
    · have : R = [] := List.length_eq_zero_iff.mp (by omega)
      subst this
      exact h
    · obtain ⟨R', e, rfl⟩ := ab_last (R := R) (fun z => q (by rw [z]; exact Int.le_refl _))
      have l1 : (R' ++ [e]).length = R'.length + 1 := by rw [List.length_append]; rfl
      have eq : R' ++ [e] ++ t = R' ++ e :: t := by rw [List.append_assoc]; rfl
      rw [eq] at hc hg
      have lc := abLc_tl hc
      have ge := hg e (by simp)
      obtain ⟨c1, c2, c3, c4, -⟩ := lc
      rw [Int.toNat_natCast, c1, c2]
      refine ⟨⟨by omega, by omega⟩, ⟨by omega, by omega⟩, ?_⟩
      refine sp_X3_sightsOf hG (by omega) (by omega) ⟨by omega, by omega⟩ ge.2.1 (slKt.ok ⟨⟨by omega, by omega⟩, ⟨by omega, by omega⟩, ?_⟩)
      have v := hv e.1 e.2.1 ge.1.1 ge.1.2 ge.2.1.1 ge.2.1.2
      rw [c3, c4, v.1, sBit v.2.1 (by omega) ge.2.2.1.1 (by omega)]
      have b := abBit01 (V e.1 e.2.1) e.2.2.1
      have lt : slLt (R'.length, 0, 0) ((R' ++ [e]).length, 0, 0) := Or.inl (by show R'.length < (R' ++ [e]).length; omega)
      refine ⟨⟨⟨by omega, by omega⟩, by omega, by omega⟩, fun z => ⟨_, lt, rfl, R', e :: t, eq, rfl, rfl, ?_⟩, fun z => ⟨_, lt, rfl, R', e :: t, eq, rfl, rfl, ?_⟩⟩
      · show _ = abFal V t + abIf _ 0 1
        rw [abIf_t z, Int.add_zero]
      · show _ = abFal V t + abIf _ 0 1
        rw [abIf_f z]
noncomputable def abFls (Z : abZ) : Int := abFal (abNow Z.1 (abC Z.1 Z.2.1.1) (Z.2.1.1 0) (Z.2.1.1 1)) Z.2.1.2.2
set_option maxHeartbeats 1000000 in
set_option maxRecDepth 4000 in
theorem sp_X11_falsely {G : slG} (hG : slGood G) {d K : Nat} (hd : 50 ≤ d) (hK : 0 ≤ K) {Φ : slPost} {σ : slM}  {c s N : Nat} {Z : abZ} (hX : isX c s Z σ) (hZ : gdZ N Z) (h : cA c s Z σ Φ (0, abFls Z)) :
    slCall G mX11_falsely d K [sR 11 0] σ Φ := by
  refine vc_X11_falsely hG (by omega) hK  ?_
  refine sp_X11_settle hG (by omega) (by omega) hX hZ (fun τ f x t => slKt.ok ?_)
  rw [x.e5]
  refine sp_X5_falseBy hG (by omega) (by omega) (V := abNow Z.1 (abC Z.1 Z.2.1.1) (Z.2.1.1 0) (Z.2.1.1 1)) hZ.c x.ss.2.2.2.2.2.2.2.1 hZ.2.1.2.2.2 x.ss.2.2.2.2.2.2.2.2 hZ.2.1.2.1 (fun s h a b c d => ⟨t.2.2.2 s h a b c d, abNow_r hZ.c⟩) (slKt.ok (h τ f x))
set_option maxHeartbeats 1000000 in
set_option maxRecDepth 4000 in
theorem sp_X12_falseNow {G : slG} (hG : slGood G) {d K : Nat} (hd : 40 ≤ d) (hK : 0 ≤ K) {Φ : slPost} {σ : slM}  {N : Nat} {Z : abZ} (hY : isY Z σ) (hZ : gdZ N Z) (h : ∀ τ, mFr [90, 91, 92, 93, 94, 95] [65] σ τ → Φ (0, abFls Z) τ) :
    slCall G mX12_falseNow d K [sR 12 0] σ Φ := by
  refine vc_X12_falseNow hG (by omega) hK (fun μ y1 y2 σ' => mFr [90, 91, 92, 93, 94, 95] [65] σ σ' ∧ mSl 240 Z.1 (abC Z.1 Z.2.1.1) (Z.2.1.1 0) σ' ∧ ∃ R t, Z.2.1.2.2 = R ++ t ∧ μ = (R.length, 0, 0) ∧ y2 = 4 * (t.length : Int) ∧ y1 = abFal (abNow Z.1 (abC Z.1 Z.2.1.1) (Z.2.1.1 0) (Z.2.1.1 1)) t) ?_ ?_
  · refine sp_X12_sailsNow hG (by omega) (by omega) hY hZ (fun τ f m => slKt.ok ⟨_, f, m, Z.2.1.2.2, [], (List.append_nil _).symm, rfl, rfl, rfl⟩)
  · have hC := hZ.c
    have a3 := hC.2.2.2.1
    have a4 := hC.2.2.2.2.1
    have l8 := hZ.2.1.2.2.2
    have hg := hZ.2.1.2.1
    rintro μ y1 y2 σ' ⟨fr, m, R, t, eL, rfl, rfl, rfl⟩
    have Y := hY.q (mSq fr)
    have hA := Y.2.1.2.2.2.2.2.2.2.1
    have hc := Y.2.1.2.2.2.2.2.2.2.2
    have h' := h σ' fr
    unfold abFls at h'
    rw [eL] at hA hc l8 hg h'
    have ln : (R ++ t).length = R.length + t.length := List.length_append
    rw [hA]
    refine ⟨⟨⟨by omega, by omega⟩, by omega, by omega⟩, fun q => ?_, fun q => ?_⟩
    · have : R = [] := List.length_eq_zero_iff.mp (by omega)
      subst this
      exact h'
    · obtain ⟨R', e, rfl⟩ := ab_last (R := R) (fun z => q (by rw [z]; exact Int.le_refl _))
      have l1 : (R' ++ [e]).length = R'.length + 1 := by rw [List.length_append]; rfl
      have eq : R' ++ [e] ++ t = R' ++ e :: t := by rw [List.append_assoc]; rfl
      rw [eq] at hc hg
      have lc := abLm_tl hc
      have ge := hg e (by simp)
      obtain ⟨c1, c2, c3, c4, -⟩ := lc
      rw [show (4 * (t.length : Int)).toNat = 4 * t.length by omega, show (4 * (t.length : Int) + 1).toNat = 4 * t.length + 1 by omega, show (4 * (t.length : Int) + 2).toNat = 4 * t.length + 2 by omega, show (4 * (t.length : Int) + 3).toNat = 4 * t.length + 3 by omega, c1, c2]
      refine ⟨⟨by omega, by omega⟩, ⟨by omega, by omega⟩, ?_⟩
      refine sp_X12_seenNow hG (by omega) (by omega) Y.1 hC m hZ.v.k Y.mo hZ.v.2.2.1 ge.1 ge.2.1 (slKt.ok ⟨⟨by omega, by omega⟩, ⟨by omega, by omega⟩, ?_⟩)
      have v := abNow_r (C := abC Z.1 Z.2.1.1) (oil := Z.2.1.1 0) (mo := Z.2.1.1 1) (s := e.1) (h := e.2.1) hC
      rw [c3, c4, sBit v.1 (by omega) ge.2.2.1.1 (by omega)]
      have b := abBit01 (abNow Z.1 (abC Z.1 Z.2.1.1) (Z.2.1.1 0) (Z.2.1.1 1) e.1 e.2.1) e.2.2.1
      have lt : slLt (R'.length, 0, 0) ((R' ++ [e]).length, 0, 0) := Or.inl (by show R'.length < (R' ++ [e]).length; omega)
      refine ⟨⟨⟨by omega, by omega⟩, by omega, by omega⟩, _, lt, fr, m, R', e :: t, by rw [eL, eq], rfl, ?_, ?_⟩
      · show _ = 4 * ((t.length + 1 : Nat) : Int)
        omega
      · show _ = abFal _ t + abIf _ 0 1
        by_cases z : abBit (abNow Z.1 (abC Z.1 Z.2.1.1) (Z.2.1.1 0) (Z.2.1.1 1) e.1 e.2.1) e.2.2.1 = e.2.2.2
        · rw [abIf_t z, if_pos z]
        · rw [abIf_f z, if_neg z]
set_option maxHeartbeats 1000000 in
set_option maxRecDepth 4000 in
theorem sp_X12_falsely {G : slG} (hG : slGood G) {d K : Nat} (hd : 50 ≤ d) (hK : 0 ≤ K) {Φ : slPost} {σ : slM}  {N : Nat} {Z : abZ} (hY : isY Z σ) (hZ : gdZ N Z) (h : mA Z σ Φ (0, abFls Z)) :
    slCall G mX12_falsely d K [sR 12 0] σ Φ := by
  refine vc_X12_falsely hG (by omega) hK  ?_
  refine sp_X12_falseNow hG (by omega) (by omega) hY.z hZ (fun τ f => slKt.ok (h τ (mQ.id.t0.tr (mSq f)) (hY.z.q (mSq f)) (by rw [mSt f, slU_same]; rfl)))
/-! images -/
set_option maxHeartbeats 1000000 in
set_option maxRecDepth 4000 in
theorem sp_X0_take {G : slG} (hG : slGood G) {d K : Nat} (hd : 2 ≤ d) (hK : 0 ≤ K) {Φ : slPost} {σ : slM} {i0 : Nat} {i1 : Nat} (ne : i0 ≠ i1) (h : ∀ τ, slFr [(0, i0), (20, i0), (21, i0), (22, i0)] σ τ → τ 0 i0 3 = σ 0 i1 3 → (∀ k, k < 40 → τ 20 i0 k = σ 20 i1 k ∧ τ 21 i0 k = σ 21 i1 k ∧ τ 22 i0 k = σ 22 i1 k) → Φ (0, 0) τ) :
    slCall G mX0_take d K [sR 0 i0, sR 0 i1] σ Φ := by
  refine vc_X0_take hG (by omega) hK  ?_
  refine h _ ((slFr_cpy (slFr_cpy (slFr_cpy slFr.id (by simp)) (by simp)) (by simp)).up (by simp)) ?_ (fun k hk => ⟨?_, ?_, ?_⟩)
  · rw [slU_same, slCpy_else (by omega), slCpy_else (by omega), slCpy_else (by omega)]
  · rw [slU_else (by omega), slCpy_else (by omega), slCpy_else (by omega), slCpy_0 hk]
  · rw [slU_else (by omega), slCpy_else (by omega), slCpy_0 hk, slCpy_else (by omega)]
  · rw [slU_else (by omega), slCpy_0 hk, slCpy_else (by omega), slCpy_else (by omega)]
set_option maxHeartbeats 1000000 in
set_option maxRecDepth 4000 in
theorem sp_X5_take {G : slG} (hG : slGood G) {d K : Nat} (hd : 2 ≤ d) (hK : 0 ≤ K) {Φ : slPost} {σ : slM} {i0 : Nat} {i1 : Nat} (ne : i0 ≠ i1) (h : ∀ τ, slFr [(5, i0), (40, i0), (41, i0), (42, i0), (43, i0)] σ τ → τ 5 i0 4 = σ 5 i1 4 → (∀ k, k < 8 → τ 40 i0 k = σ 40 i1 k ∧ τ 41 i0 k = σ 41 i1 k ∧ τ 42 i0 k = σ 42 i1 k ∧ τ 43 i0 k = σ 43 i1 k) → Φ (0, 0) τ) :
    slCall G mX5_take d K [sR 5 i0, sR 5 i1] σ Φ := by
  refine vc_X5_take hG (by omega) hK  ?_
  refine h _ ((slFr_cpy (slFr_cpy (slFr_cpy (slFr_cpy slFr.id (by simp)) (by simp)) (by simp)) (by simp)).up (by simp)) ?_ (fun k hk => ⟨?_, ?_, ?_, ?_⟩)
  · rw [slU_same, slCpy_else (by omega), slCpy_else (by omega), slCpy_else (by omega), slCpy_else (by omega)]
  · rw [slU_else (by omega), slCpy_else (by omega), slCpy_else (by omega), slCpy_else (by omega), slCpy_0 hk]
  · rw [slU_else (by omega), slCpy_else (by omega), slCpy_else (by omega), slCpy_0 hk, slCpy_else (by omega)]
  · rw [slU_else (by omega), slCpy_else (by omega), slCpy_0 hk, slCpy_else (by omega), slCpy_else (by omega)]
  · rw [slU_else (by omega), slCpy_0 hk, slCpy_else (by omega), slCpy_else (by omega), slCpy_else (by omega)]
set_option maxHeartbeats 1000000 in
set_option maxRecDepth 4000 in
theorem sp_X8_take {G : slG} (hG : slGood G) {d K : Nat} (hd : 3 ≤ d) (hK : 0 ≤ K) {Φ : slPost} {σ : slM} {i0 : Nat} {i1 : Nat} {P : abP} {D : abD} (ne : i0 ≠ i1) (hC : gdC P) (hS : isS i1 P D σ) (hD : D.2.1.length ≤ 40 ∧ D.2.2.length ≤ 8) (h : ∀ τ, slFr [(51, i0), (52, i0), (53, i0), (54, i0), (8, i0), (0, i0), (20, i0), (21, i0), (22, i0), (5, i0), (40, i0), (41, i0), (42, i0), (43, i0)] σ τ → isS i0 P D τ → Φ (0, 0) τ) :
    slCall G mX8_take d K [sR 8 i0, sR 8 i1] σ Φ := by
  refine vc_X8_take hG (by omega) hK  ?_
  have a3 := hC.2.2.2.1
  have a4 := hC.2.2.2.2.1
  obtain ⟨s0, s1, s2, s3, s4, s5, s6, s7, s8⟩ := hS
  refine sp_X0_take hG (by omega) (by omega) ne (fun τ f a b => slKt.ok ?_)
  refine sp_X5_take hG (by omega) (by omega) ne (fun τ' f' a' b' => slKt.ok ?_)
  have fr0 : slFr [(51, i0), (52, i0), (53, i0), (54, i0), (8, i0), (0, i0), (20, i0), (21, i0), (22, i0), (5, i0), (40, i0), (41, i0), (42, i0), (43, i0)] σ (slCpy (slCpy (slCpy (slCpy σ 51 i1 0 51 i0 0 5) 52 i1 0 52 i0 0 5) 53 i1 0 53 i0 0 8) 54 i1 0 54 i0 0 8) := slFr_cpy (slFr_cpy (slFr_cpy (slFr_cpy slFr.id (by simp)) (by simp)) (by simp)) (by simp)
  refine h _ (((fr0.tr (f.mono (by simp))).tr (f'.mono (by simp))).up (by simp)) ⟨fun l x y => ?_, fun l x y => ?_, fun l x y => ?_, ?_, fun l x y => ?_, ?_, ?_, ?_, ?_⟩
  · rw [slU_else (by omega), f' 52 i0 (by simp), f 52 i0 (by simp), slCpy_else (by omega), slCpy_else (by omega), slCpy_0 (by omega), slCpy_else (by omega)]; exact s0 l x y
  · rw [slU_else (by omega), f' 53 i0 (by simp), f 53 i0 (by simp), slCpy_else (by omega), slCpy_0 (by omega), slCpy_else (by omega), slCpy_else (by omega)]; exact s1 l x y
  · rw [slU_else (by omega), f' 51 i0 (by simp), f 51 i0 (by simp), slCpy_else (by omega), slCpy_else (by omega), slCpy_else (by omega), slCpy_0 (by omega)]; exact s2 l x y
  · rw [slU_same, f' 8 i1 (by simp), f 8 i1 (by simp), slCpy_else (by omega), slCpy_else (by omega), slCpy_else (by omega), slCpy_else (by omega)]; exact s3
  · rw [slU_else (by omega), f' 54 i0 (by simp), f 54 i0 (by simp), slCpy_0 (by omega), slCpy_else (by omega), slCpy_else (by omega), slCpy_else (by omega)]; exact s4 l x y
  · rw [slU_else (by omega), f' 0 i0 (by simp), a, slCpy_else (by omega), slCpy_else (by omega), slCpy_else (by omega), slCpy_else (by omega)]; exact s5
  · rw [slU_else (by omega), slU_else (by omega), slU_else (by omega), f' 20 i0 (by simp), f' 21 i0 (by simp), f' 22 i0 (by simp)]
    refine abAc_c (fun k hk => ⟨?_, ?_, ?_⟩) s6
    · rw [(b k (by omega)).1, slCpy_else (by omega), slCpy_else (by omega), slCpy_else (by omega), slCpy_else (by omega)]
    · rw [(b k (by omega)).2.1, slCpy_else (by omega), slCpy_else (by omega), slCpy_else (by omega), slCpy_else (by omega)]
    · rw [(b k (by omega)).2.2, slCpy_else (by omega), slCpy_else (by omega), slCpy_else (by omega), slCpy_else (by omega)]
  · rw [slU_else (by omega), a', f 5 i1 (by simp), slCpy_else (by omega), slCpy_else (by omega), slCpy_else (by omega), slCpy_else (by omega)]; exact s7
  · rw [slU_else (by omega), slU_else (by omega), slU_else (by omega), slU_else (by omega)]
    refine abLc_c (fun k hk => ⟨?_, ?_, ?_, ?_⟩) s8
    · rw [(b' k (by omega)).1, f 40 i1 (by simp), slCpy_else (by omega), slCpy_else (by omega), slCpy_else (by omega), slCpy_else (by omega)]
    · rw [(b' k (by omega)).2.1, f 41 i1 (by simp), slCpy_else (by omega), slCpy_else (by omega), slCpy_else (by omega), slCpy_else (by omega)]
    · rw [(b' k (by omega)).2.2.1, f 42 i1 (by simp), slCpy_else (by omega), slCpy_else (by omega), slCpy_else (by omega), slCpy_else (by omega)]
    · rw [(b' k (by omega)).2.2.2, f 43 i1 (by simp), slCpy_else (by omega), slCpy_else (by omega), slCpy_else (by omega), slCpy_else (by omega)]
def nxImage (Z : abZ) : abZ := (Z.1, Z.2.1, some Z.2.1, Z.2.2.2)
theorem gdZ.image {N : Nat} {Z : abZ} (h : gdZ N Z) : gdZ (N + 1) (nxImage Z) := ⟨h.1, h.2.1, h.2.1, h.2.2.2.1, h.2.2.2.2.1, h.2.2.2.2.2.1, h.s.2.2.2.2.2.2⟩
set_option maxHeartbeats 1000000 in
set_option maxRecDepth 4000 in
theorem sp_X11_image {G : slG} (hG : slGood G) {d K : Nat} (hd : 50 ≤ d) (hK : 0 ≤ K) {Φ : slPost} {σ : slM}  {c s N : Nat} {Z : abZ} (hX : isX c s Z σ) (hZ : gdZ N Z) (h : ∀ τ, clF σ τ → isX c s (nxImage Z) τ → Φ (0, 0) τ) :
    slCall G mX11_image d K [sR 11 0] σ Φ := by
  refine vc_X11_image hG (by omega) hK  ?_
  rw [hX.e5]
  have s1 := hX.s1
  refine sp_X8_take hG (by omega) (by omega) (i0 := 2) (by omega) hZ.c hX.ss hZ.2.1.2.2 (fun τ f x => slKt.ok ?_)
  have e11 : τ 11 0 = σ 11 0 := f 11 0 (by simp)
  have g := stR_fr (s := 2) f (by simp [stR])
  have n : ∀ r i, r ≠ 11 → ¬ (r ∈ stR ∧ i = 2) → slU τ 11 0 8 1 r i = σ r i := fun r i a b => by rw [slU_else (fun z => a z.1), g r i b]
  have n11 : ∀ k, k ≠ 8 → slU τ 11 0 8 1 11 0 k = σ 11 0 k := fun k a => by rw [slU_ne a, e11]
  have nn : ∀ r i, r ≠ 11 → r ∉ stR → slU τ 11 0 8 1 r i = σ r i := fun r i a b => n r i a (fun z => b z.1)
  have c0 : clF σ (slU τ 11 0 8 1) := (st_clF (s := 2) f (by simp [stR])).up (by decide)
  obtain ⟨h1, h2, h3, h4, h5, h6, h7, h8, h9, h10, h11, h12, h13, h14⟩ := hX
  refine h _ c0 ⟨h1, by rw [n11 4 (by decide)]; exact h2, by rw [n11 5 (by decide)]; exact h3, by rw [nn 7 0 (by decide) (by decide)]; exact h4, by rw [nn 7 0 (by decide) (by decide)]; exact h5, h6.c (fun r hr => nn r c ((by decide : ∀ r ∈ chR, r ≠ 11) r hr) ((by decide : ∀ r ∈ chR, r ∉ stR) r hr)), h7.c (fun r hr => n r s (by omega) (by omega)), ⟨slU_same _ _ _ _ _, x.c (fun r hr => slU_else (by omega))⟩, ?_, fun i hi k hk => by rw [nn 36 i (by decide) (by decide)]; exact h10 i hi k hk, by rw [n11 1 (by decide)]; exact h11, by rw [nn 58 0 (by decide) (by decide)]; exact h12, by rw [n11 2 (by decide)]; exact h13, by rw [nn 59 0 (by decide) (by decide)]; exact h14⟩
  rw [n11 12 (by decide)]
  rcases h9 with z | z
  · exact Or.inl z
  · exact Or.inr ⟨z.1, z.2.c (fun r hr => nn r 0 (by omega) (by rcases hr with e | e | e | e <;> rw [e] <;> decide))⟩
set_option maxHeartbeats 1000000 in
set_option maxRecDepth 4000 in
theorem sp_X12_copies {G : slG} (hG : slGood G) {d K : Nat} (hd : 0 ≤ d) (hK : 0 ≤ K) {Φ : slPost} {σ : slM} {ra : Nat} {rb : Nat} (hra : (slR ra).1 = 1) (hrb : (slR rb).1 = 1) (hn : (slR ra).2.1 ≤ (slR rb).2.1) (hs : (slR ra).2.1 < 5000) (ne : ra ≠ rb) (h : ∀ τ, slFr [(rb, 0)] σ τ → (∀ k, k < (slR ra).2.1 → τ rb 0 k = σ ra 0 k) → Φ (0, 0) τ) :
    slCall G mX12_copies d K [sR 12 0, sR ra 0, sR rb 0] σ Φ := by
  refine vc_X12_copies hG (by omega) hK hra hrb (fun μ y3 σ' => slFr [(rb, 0)] σ σ' ∧ μ = ((((slR ra).2.1 : Int) - y3).toNat, 0, 0) ∧ (0 ≤ y3 ∧ y3 ≤ (slR ra).2.1) ∧ ∀ k : Nat, (k : Int) < y3 → σ' rb 0 k = σ ra 0 k) ?_ ?_
  · exact ⟨_, slFr.id, rfl, ⟨by omega, by omega⟩, fun k hk => by omega⟩
  · rintro μ y3 σ' ⟨fr, rfl, hy, ct⟩
    refine ⟨⟨⟨by omega, by omega⟩, by omega, by omega⟩, fun q => h σ' fr (fun k hk => ct k (by omega)), fun q => ⟨⟨by omega, by omega⟩, ⟨by omega, by omega⟩, _, Or.inl (by show (((slR ra).2.1 : Int) - (y3 + 1)).toNat < (((slR ra).2.1 : Int) - y3).toNat; omega), fr.up (by simp), rfl, ⟨by omega, by omega⟩, fun k hk => ?_⟩⟩
    rw [slU_at, fr ra 0 (by simp [ne])]
    by_cases z : k = y3.toNat
    · rw [if_pos z, z]
    · rw [if_neg z]; exact ct k (by omega)
theorem isN.cp {rN rA rL sA sL rN' rA' rL' sA' sL' : Nat} {P : abP} {D : abD} {σ τ : slM} (hC : gdC P) (hD : D.2.1.length ≤ 40 ∧ D.2.2.length ≤ 8) (h : isN rN rA rL sA sL P D σ) (h1 : ∀ k, k < 27 → τ rN' 0 k = σ rN 0 k) (h2 : ∀ k, k < 80 → τ rA' 0 k = σ rA 0 k) (h3 : ∀ k, k < 32 → τ rL' 0 k = σ rL 0 k) (h4 : τ 12 0 sA' = σ 12 0 sA) (h5 : τ 12 0 sL' = σ 12 0 sL) : isN rN' rA' rL' sA' sL' P D τ := by
  have a3 := hC.2.2.2.1
  have a4 := hC.2.2.2.2.1
  obtain ⟨t0, t1, t2, t3, t4, t5, t6, t7, t8⟩ := h
  refine ⟨fun l a b => ?_, fun l a b => ?_, fun l a b => ?_, ?_, fun l a b => ?_, by rw [h4]; exact t5, abAm_c (fun k hk => h2 k (by omega)) t6, by rw [h5]; exact t7, abLm_c (fun k hk => h3 k (by omega)) t8⟩
  · rw [h1 _ (by omega)]; exact t0 l a b
  · rw [h1 _ (by omega)]; exact t1 l a b
  · rw [h1 _ (by omega)]; exact t2 l a b
  · rw [h1 _ (by omega)]; exact t3
  · rw [h1 _ (by omega)]; exact t4 l a b
theorem slFr.m {L : List (Nat × Nat)} {σ τ : slM} {L' S : List Nat} (h : slFr L σ τ) (hL : ∀ p ∈ L, p.1 ∈ L' ∧ p.1 ≠ 12) : mFr L' S σ τ := ⟨fun r i _ b => h r i (fun z => b (hL _ z).1), fun k _ => by rw [h 12 0 (fun z => (hL _ z).2 rfl)]⟩
set_option maxHeartbeats 1000000 in
set_option maxRecDepth 4000 in
theorem sp_X12_image {G : slG} (hG : slGood G) {d K : Nat} (hd : 50 ≤ d) (hK : 0 ≤ K) {Φ : slPost} {σ : slM}  {N : Nat} {Z : abZ} (hY : isY Z σ) (hZ : gdZ N Z) (h : ∀ τ, mdF σ τ → isY (nxImage Z) τ → Φ (0, 0) τ) :
    slCall G mX12_image d K [sR 12 0] σ Φ := by
  refine vc_X12_image hG (by omega) hK  ?_
  have u1 : ∀ (τ : slM) (k j : Nat) (v : Int), j ≠ k → slU τ 12 0 k v 12 0 j = τ 12 0 j := fun τ k j v hj => slU_ne hj
  rw [slU_ne (show (58 : Nat) ≠ 76 by decide), slU_ne (show (58 : Nat) ≠ 0 by decide), slU_ne (show (72 : Nat) ≠ 77 by decide), slU_ne (show (72 : Nat) ≠ 76 by decide), slU_ne (show (72 : Nat) ≠ 0 by decide)]
  refine sp_X12_copies hG (by omega) (by omega) rfl rfl (by decide) (by decide) (by decide) (fun τ1 f1 c1 => slKt.ok ?_)
  refine sp_X12_copies hG (by omega) (by omega) rfl rfl (by decide) (by decide) (by decide) (fun τ2 f2 c2 => slKt.ok ?_)
  refine sp_X12_copies hG (by omega) (by omega) rfl rfl (by decide) (by decide) (by decide) (fun τ3 f3 c3 => slKt.ok ?_)
  have g0 : mFr [104, 105, 106] [0, 76, 77, 78] σ (slU (slU (slU (slU σ 12 0 0 0) 12 0 76 1) 12 0 77 (σ 12 0 58)) 12 0 78 (σ 12 0 72)) := (((mFr.id.up12 (by decide)).up12 (by decide)).up12 (by decide)).up12 (by decide)
  have g1 : mFr [104, 105, 106] [0, 76, 77, 78] σ τ1 := g0.tr (f1.m (by decide))
  have g2 : mFr [104, 105, 106] [0, 76, 77, 78] σ τ2 := g1.tr (f2.m (by decide))
  have g3 : mFr [104, 105, 106] [0, 76, 77, 78] σ τ3 := g2.tr (f3.m (by decide))
  have e12 : τ3 12 0 = slU (slU (slU (slU σ 12 0 0 0) 12 0 76 1) 12 0 77 (σ 12 0 58)) 12 0 78 (σ 12 0 72) 12 0 := by rw [f3 12 0 (by simp), f2 12 0 (by simp), f1 12 0 (by simp)]
  obtain ⟨h1, h2, h3, h4, h5, h6, h7⟩ := hY
  refine h τ3 (g3.md (by decide)) ⟨h1.fr g3 (by decide) (by decide), h2.c (g3.1 88 0 (by decide) (by decide)) (g3.1 89 0 (by decide) (by decide)) (g3.1 102 0 (by decide) (by decide)) (g3.2 58 (by decide)) (g3.2 72 (by decide)), ⟨?_, h2.cp hZ.c hZ.2.1.2.2 (fun k hk => ?_) (fun k hk => ?_) (fun k hk => ?_) ?_ ?_⟩, by rw [g3.2 20 (by decide)]; exact h4, by rw [g3.1 72 0 (by decide) (by decide)]; exact h5, by rw [g3.2 22 (by decide)]; exact h6, by rw [g3.1 73 0 (by decide) (by decide)]; exact h7⟩
  · rw [e12, slU_ne (by decide), slU_ne (by decide), slU_same]
  · rw [f3 104 0 (by simp), f2 104 0 (by simp), c1 k hk, g0.1 88 0 (by decide) (by decide)]
  · rw [f3 105 0 (by simp), c2 k hk, g1.1 89 0 (by decide) (by decide)]
  · rw [c3 k hk, g2.1 102 0 (by decide) (by decide)]
  · rw [e12, slU_ne (by decide), slU_same]
  · rw [e12, slU_same]
def nxRest (Z : abZ) : abZ := match Z.2.2.1 with
  | none => Z
  | some D => (Z.1, D, Z.2.2)
def anRest (Z : abZ) : Int := match Z.2.2.1 with
  | none => 0
  | some _ => 1
theorem gdZ.rest {N : Nat} {Z : abZ} (h : gdZ N Z) : gdZ (N + 1) (nxRest Z) := by
  obtain ⟨P, D, O, R⟩ := Z
  match O, h with
  | none, h => exact h.s
  | some D', h => exact ⟨h.1, h.2.2.1, h.2.2.1, h.2.2.2.1, h.2.2.2.2.1, h.2.2.2.2.2.1, h.s.2.2.2.2.2.2⟩
set_option maxHeartbeats 1000000 in
set_option maxRecDepth 4000 in
theorem sp_X11_restore {G : slG} (hG : slGood G) {d K : Nat} (hd : 50 ≤ d) (hK : 0 ≤ K) {Φ : slPost} {σ : slM}  {c s N : Nat} {Z : abZ} (hX : isX c s Z σ) (hZ : gdZ N Z) (h : ∀ τ, clF σ τ → isX c s (nxRest Z) τ → Φ (0, anRest Z) τ) :
    slCall G mX11_restore d K [sR 11 0] σ Φ := by
  refine vc_X11_restore hG (by omega) hK  ?_
  obtain ⟨P, D, O, R⟩ := Z
  have s1 := hX.s1
  match O, hX, hZ, h with
  | none, hX, hZ, h =>
    have e8 : σ 11 0 8 = 0 := hX.2.2.2.2.2.2.2.1
    rw [e8]
    exact ⟨in0, fun z => absurd rfl z, fun _ => h σ clF.id hX⟩
  | some D', hX, hZ, h =>
    have e8 : σ 11 0 8 = 1 ∧ isS 2 P D' σ := hX.2.2.2.2.2.2.2.1
    have gd : gdD P D' := hZ.2.2.1
    rw [e8.1, hX.e5]
    refine ⟨in1, fun _ => ?_, fun z => absurd z (by decide)⟩
    refine sp_X8_take hG (by omega) (by omega) (i1 := 2) (by omega) hZ.c e8.2 gd.2.2 (fun τ f x => slKt.ok ?_)
    have e11 : τ 11 0 = σ 11 0 := f 11 0 (by simp)
    have g := stR_fr (s := s) f (by simp [stR])
    refine h _ ((st_clF (s := s) f (by simp [stR])).up (by decide)) (hX.st (fun r i a b => by rw [slU_else (fun z => a z.1), g r i b]) (fun k hk => by rw [slU_ne hk, e11]) (x.c (fun r hr => slU_else (by omega))) (Or.inl (slU_same _ _ _ _ _)))
set_option maxHeartbeats 1000000 in
set_option maxRecDepth 4000 in
theorem sp_X12_restore {G : slG} (hG : slGood G) {d K : Nat} (hd : 50 ≤ d) (hK : 0 ≤ K) {Φ : slPost} {σ : slM}  {N : Nat} {Z : abZ} (hY : isY Z σ) (hZ : gdZ N Z) (h : ∀ τ, mdF σ τ → isY (nxRest Z) τ → Φ (0, anRest Z) τ) :
    slCall G mX12_restore d K [sR 12 0] σ Φ := by
  refine vc_X12_restore hG (by omega) hK  ?_
  obtain ⟨P, D, O, R⟩ := Z
  have y0 := hY.z
  have f0 : mdF σ (slU σ 12 0 0 0) := mdF.id.up (Or.inl rfl)
  match O, hY, hZ, h, y0 with
  | none, hY, hZ, h, y0 =>
    have e8 : slU σ 12 0 0 0 12 0 76 = 0 := y0.2.2.1
    rw [e8]
    exact ⟨in0, fun z => absurd rfl z, fun _ => h _ f0 y0⟩
  | some D', hY, hZ, h, y0 =>
    have e8 : slU σ 12 0 0 0 12 0 76 = 1 ∧ isN 104 105 106 77 78 P D' (slU σ 12 0 0 0) := y0.2.2.1
    have gd : gdD P D' := hZ.2.2.1
    rw [e8.1]
    refine ⟨in1, fun _ => ?_, fun z => absurd z (by decide)⟩
    rw [slU_ne (show (78 : Nat) ≠ 58 by decide)]
    refine sp_X12_copies hG (by omega) (by omega) rfl rfl (by decide) (by decide) (by decide) (fun τ1 f1 c1 => slKt.ok ?_)
    refine sp_X12_copies hG (by omega) (by omega) rfl rfl (by decide) (by decide) (by decide) (fun τ2 f2 c2 => slKt.ok ?_)
    refine sp_X12_copies hG (by omega) (by omega) rfl rfl (by decide) (by decide) (by decide) (fun τ3 f3 c3 => slKt.ok ?_)
    have g0 : mFr [88, 89, 102] [0, 58, 72] (slU σ 12 0 0 0) (slU (slU (slU σ 12 0 0 0) 12 0 58 (slU σ 12 0 0 0 12 0 77)) 12 0 72 (slU σ 12 0 0 0 12 0 78)) := (mFr.id.up12 (by decide)).up12 (by decide)
    have g1 : mFr [88, 89, 102] [0, 58, 72] (slU σ 12 0 0 0) τ1 := g0.tr (f1.m (by decide))
    have g2 : mFr [88, 89, 102] [0, 58, 72] (slU σ 12 0 0 0) τ2 := g1.tr (f2.m (by decide))
    have g3 : mFr [88, 89, 102] [0, 58, 72] (slU σ 12 0 0 0) τ3 := g2.tr (f3.m (by decide))
    have e12 : τ3 12 0 = slU (slU (slU σ 12 0 0 0) 12 0 58 (slU σ 12 0 0 0 12 0 77)) 12 0 72 (slU σ 12 0 0 0 12 0 78) 12 0 := by rw [f3 12 0 (by simp), f2 12 0 (by simp), f1 12 0 (by simp)]
    refine h τ3 (f0.tr (g3.md (by decide))) (y0.st g3 (e8.2.cp hZ.c gd.2.2 (fun k hk => ?_) (fun k hk => ?_) (fun k hk => ?_) ?_ ?_))
    · rw [f3 88 0 (by simp), f2 88 0 (by simp), c1 k hk, g0.1 104 0 (by decide) (by decide)]
    · rw [f3 89 0 (by simp), c2 k hk, g1.1 105 0 (by decide) (by decide)]
    · rw [c3 k hk, g2.1 106 0 (by decide) (by decide)]
    · rw [e12, slU_ne (by decide), slU_same]
    · rw [e12, slU_same]
/-! light -/
def abLgt (P : abP) (T : Int → Int → Int) (l w : Int) : Int := if w = 0 then T 2 l else if w = 1 then P 26 l.toNat else if w = 2 then T 0 l else if w = 3 then P 27 l.toNat else if w = 4 then P 28 l.toNat else if w = 5 then P 30 l.toNat else P 31 l.toNat
set_option maxHeartbeats 1000000 in
set_option maxRecDepth 4000 in
theorem sp_X11_light {G : slG} (hG : slGood G) {d K : Nat} (hd : 50 ≤ d) (hK : 2 ≤ K) {Φ : slPost} {σ : slM} {x1 : Int} {x2 : Int} {c s N : Nat} {Z : abZ} (hX : isX c s Z σ) (hZ : gdZ N Z) (i1 : InR x1) (i2 : InR x2) (h : cA c s Z σ Φ (abOk ((0 ≤ x1 ∧ x1 < Z.1 1 3) ∧ 0 ≤ x2 ∧ x2 < 7) (abLgt Z.1 Z.2.1.1 x1 x2))) :
    slCall G mX11_light d K [sR 11 0, sI x1, sI x2] σ Φ := by
  refine vc_X11_light hG (by omega) hK  ?_
  have a3 := hZ.c.2.2.2.1
  refine sp_X11_needLight hG (by omega) (by omega) hX hZ.c i1 (fun q1 => slKt.ok ?_) (fun q => slKt.ex (Or.inl rfl) (h.no (fun z => q z.1) cQ.id hX))
  have y := fun q2 => h.yes ⟨q1, q2⟩ cQ.id hX
  unfold abLgt at y
  have S := hX.ss
  rw [hX.e4, hX.e5, S.1 x1 q1.1 q1.2, S.2.2.1 x1 q1.1 q1.2]
  obtain ⟨p1, p23, p24, p25, p26, p27, p28, p29, p30, p31, -⟩ := hX.cc
  rw [p26, p27, p28, p30, p31]
  refine ⟨i2, fun e => ⟨⟨by omega, by omega⟩, ?_⟩, fun e => ⟨⟨by omega, by omega⟩, ?_⟩, fun e => ⟨⟨by omega, by omega⟩, ?_⟩, fun e => ⟨⟨by omega, by omega⟩, ?_⟩, fun e => ⟨⟨by omega, by omega⟩, ?_⟩, fun e => ⟨⟨by omega, by omega⟩, ?_⟩, fun e => ⟨⟨by omega, by omega⟩, ?_⟩, fun e => h.no (by omega) cQ.id hX⟩
  all_goals subst e; exact y ⟨by decide, by decide⟩
theorem abBits : ∀ m, m < 64 → ∀ n, n < 7 → m < 2 ^ n → abMask (fun k => abBit ((m : Nat) : Int) k = 1) n = (m : Int) := by
  have key : ∀ (m : Nat) (n : Nat), abMask (fun k => abBit (m : Int) k = 1) n = ((m % 2 ^ n : Nat) : Int) := by
    intro m n
    induction n with
    | zero =>
      show (0 : Int) = ((m % 2 ^ 0 : Nat) : Int)
      rw [Nat.pow_zero, Nat.mod_one]; rfl
    | succ n ih =>
      show abMask (fun k => abBit (m : Int) k = 1) n + abIf (abBit (m : Int) (n : Int) = 1) (2 ^ n) 0 = _
      rw [ih]
      have e1 : abBit (m : Int) (n : Int) = ((m / 2 ^ n % 2 : Nat) : Int) := by
        unfold abBit
        rw [Int.toNat_natCast]
        push_cast
        rfl
      rw [e1, Nat.pow_succ, Nat.mod_mul]
      have c := Nat.mod_two_eq_zero_or_one (m / 2 ^ n)
      rcases c with c | c
      · rw [c, abIf_f (by decide)]
        push_cast
        omega
      · rw [c, abIf_t (by decide)]
        push_cast
        omega
  intro m _ n _ h
  rw [key m n, Nat.mod_eq_of_lt h]
theorem abBits2 {m n : Int} (h0 : 0 ≤ m) (h1 : 1 ≤ n ∧ n ≤ 6) (h : m < 2 ^ n.toNat) : abMask (fun k => abBit m k = 1) n.toNat = m := by
  obtain ⟨a, rfl⟩ := Int.eq_ofNat_of_zero_le h0
  obtain ⟨b, rfl⟩ := Int.eq_ofNat_of_zero_le (a := n) (by omega)
  rw [Int.toNat_natCast] at h ⊢
  have h2 : a < 2 ^ b := by exact_mod_cast h
  have h3 : 2 ^ b ≤ 2 ^ 6 := Nat.pow_le_pow_right (by decide) (by omega)
  have e6 : 2 ^ 6 = 64 := by decide
  exact abBits a (by omega) b (by omega) h2
theorem sShl_0 {y : Int} (h : 0 ≤ y) (h8 : y < 8) : sShl 0 y = 0 := by
  obtain ⟨n, rfl⟩ := Int.eq_ofNat_of_zero_le h
  exact (by decide +kernel : ∀ n, n < 8 → sShl 0 ((n : Nat) : Int) = 0) n (by omega)
theorem sOr_z {m : Int} (h : 0 ≤ m) (h' : m < 256) : sOr m 0 = m := by
  obtain ⟨n, rfl⟩ := Int.eq_ofNat_of_zero_le h
  exact sOr_0 n (by omega)
set_option maxHeartbeats 1000000 in
set_option maxRecDepth 4000 in
theorem sp_X12_light {G : slG} (hG : slGood G) {d K : Nat} (hd : 50 ≤ d) (hK : 0 ≤ K) {Φ : slPost} {σ : slM} {x1 : Int} {x2 : Int} {N : Nat} {Z : abZ} (hY : isY Z σ) (hZ : gdZ N Z) (i1 : InR x1) (i2 : InR x2) (h : mA Z σ Φ (abOk ((0 ≤ x1 ∧ x1 < Z.1 1 3) ∧ 0 ≤ x2 ∧ x2 < 7) (abLgt Z.1 Z.2.1.1 x1 x2))) :
    slCall G mX12_light d K [sR 12 0, sI x1, sI x2] σ Φ := by
  refine vc_X12_light hG (by omega) hK (fun μ y3 y4 σ' => (0 ≤ x1 ∧ x1 < Z.1 1 3) ∧ x2 = 6 ∧ mQ σ σ' ∧ isY Z σ' ∧ σ' 12 0 0 = 0 ∧ μ = ((Z.1 30 x1.toNat - y4).toNat, 0, 0) ∧ (0 ≤ y4 ∧ y4 ≤ Z.1 30 x1.toNat) ∧ y3 = abMask (fun k => abBit (Z.1 31 x1.toNat) k = 1) y4.toNat) ?_ ?_
  · have y0 := hY.z
    have a3 := hZ.c.2.2.2.1
    refine sp_X12_isLight hG (by omega) (by omega) y0.1 hZ.c i1 (slU_same _ _ _ _ _) (fun q1 => slKt.ok ⟨in1, fun z => absurd z (by decide), fun _ => ?_⟩) (fun q => slKt.ok ⟨in0, fun _ => h.no (fun z => q z.1) mQ.id.t0 y0, fun z => absurd rfl z⟩)
    refine sp_X12_isWhat hG (by omega) (by omega) i2 ⟨by decide, by decide⟩ (slU_same _ _ _ _ _) (fun q2 => slKt.ok ⟨in1, fun _ => ?_, fun z => absurd z (by decide)⟩) (fun q => slKt.ok ⟨in0, fun z => absurd rfl z, fun _ => h.no (fun z => q z.2) mQ.id.t0 y0⟩)
    have y := h.yes ⟨q1, q2⟩ mQ.id.t0 y0 (slU_same _ _ _ _ _)
    have m := y0.1.2.2.1 x1 q1.1 q1.2
    have g := hZ.c.2.2.2.2.2.2.2.2.1 x1 q1.1 q1.2
    rw [y0.2.1.1 x1 q1.1 q1.2, y0.2.1.2.2.1 x1 q1.1 q1.2, m.1, m.2.1, m.2.2.1, m.2.2.2.1]
    unfold abLgt at y
    refine ⟨i2, fun e => ⟨⟨by omega, by omega⟩, ?_⟩, fun e => ⟨⟨by omega, by omega⟩, ?_⟩, fun e => ⟨⟨by omega, by omega⟩, ?_⟩, fun e => ⟨⟨by omega, by omega⟩, ?_⟩, fun e => ⟨⟨by omega, by omega⟩, ?_⟩, fun e => ⟨⟨by omega, by omega⟩, ?_⟩, fun e => ⟨_, q1, by omega, mQ.id.t0, y0, slU_same _ _ _ _ _, rfl, ⟨by omega, by omega⟩, rfl⟩⟩
    all_goals subst e; exact y
  · have a3 := hZ.c.2.2.2.1
    rintro μ y3 y4 σ' ⟨q1, rfl, f, Y, e0, rfl, hy, rfl⟩
    have m := Y.1.2.2.1 x1 q1.1 q1.2
    have g := hZ.c.2.2.2.2.2.2.2.2.1 x1 q1.1 q1.2
    rw [m.2.2.2.1]
    refine ⟨⟨by omega, by omega⟩, ⟨⟨by omega, by omega⟩, by omega, by omega⟩, fun q => ?_, fun q => ⟨⟨by omega, by omega⟩, _, Or.inl (by show (Z.1 30 x1.toNat - (y4 + 1)).toNat < (Z.1 30 x1.toNat - y4).toNat; omega), q1, rfl, f, Y, e0, rfl, ⟨by omega, by omega⟩, ?_⟩⟩
    · have y := h.yes ⟨q1, by omega, by omega⟩ f Y e0
      have e : y4 = Z.1 30 x1.toNat := by omega
      rw [e, abBits2 g.2.2.2.2.1.1 g.2.2.2.1 g.2.2.2.2.1.2]
      exact y
    · rw [m.2.2.2.2.2 y4 hy.1 (by omega), abMask_s hy.1]
      rcases abBit01 (Z.1 31 x1.toNat) y4 with b | b
      · rw [b, sShl_0 hy.1 (by omega), abIf_f (by decide), Int.add_zero]
        have r := abMask_8 (f := fun k => abBit (Z.1 31 x1.toNat) k = 1) (n := y4.toNat) (by omega)
        exact sOr_z r.1 r.2
      · rw [b, abIf_t rfl]
        exact abMask_or hy.1 (by omega)
