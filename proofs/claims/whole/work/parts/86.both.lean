/-! ===== a coast, in both ===== -/
/-- the chart P says what was read -/
def isPq (P : abP) (Q : abV) : Prop := (P 1 0 = Q.1 0 0 ∧ P 1 1 = Q.1 0 1 ∧ P 1 2 = Q.1 0 2 ∧ P 1 3 = Q.1 0 3 ∧ P 1 4 = Q.1 0 4 ∧ P 1 5 = Q.1 0 5) ∧ P 4 4 = Q.1 0 6
  ∧ (∀ i : Int, 0 ≤ i → i < Q.1 0 2 → P 24 i.toNat = Q.1 1 i % Q.1 0 0 ∧ P 25 i.toNat = Q.1 1 i / Q.1 0 0)
  ∧ (∀ c : Int, 0 ≤ c → c < 144 → P 23 c.toNat = Q.1 13 c % 2)
  ∧ (∀ l : Int, 0 ≤ l → l < Q.1 0 3 → (P 26 l.toNat = Q.1 3 l ∧ P 27 l.toNat = Q.1 5 l ∧ P 28 l.toNat = Q.1 6 l ∧ P 30 l.toNat = Q.1 8 l) ∧ (∀ k : Int, 0 ≤ k → k < Q.1 6 l → P 29 (l * 12 + k).toNat = Q.1 7 (l * 12 + k)) ∧ (0 ≤ P 31 l.toNat ∧ P 31 l.toNat < 2 ^ (Q.1 8 l).toNat) ∧ ∀ k : Int, 0 ≤ k → k < Q.1 8 l → abBit (P 31 l.toNat) k = Q.1 9 (l * 6 + k))
  ∧ (∀ k : Int, 0 ≤ k → k < Q.1 0 5 → P 32 k.toNat = Q.1 12 k)
  ∧ ∀ k : Int, 0 ≤ k → k < Q.1 0 6 → (0 ≤ abFrom P k ∧ abFrom P k ≤ P 38 k.toNat ∧ P 38 k.toNat ≤ 700) ∧ abLaw P k = Q.2 k.toNat ∧ abRn (Q.2 k.toNat) 0 1
theorem isRq.pq {r s : Nat} {Q : abV} {p : Int} {τ : slM} (h : isRq r s Q p τ) (hp : p ≤ 700) : isPq (fun a => τ a r) Q := by
  obtain ⟨-, hH, hC, hM, hL, -, hF, oc, hO, hl, -, hk⟩ := h
  refine ⟨hH.1, hH.2.1, hC, fun c a b => (hM c a b).1, fun l a b => ?_, hF, fun k a b => ?_⟩
  · have h := hL l a b
    exact ⟨⟨h.1.2.1, h.1.2.2.2.1, h.1.2.2.2.2.1, h.1.2.2.2.2.2⟩, h.2.1, h.2.2.1, h.2.2.2⟩
  · have h := hk k a b
    exact ⟨⟨h.1.1, h.1.2.1, by show τ 38 r k.toNat ≤ 700; omega⟩, h.2.1, h.2.2⟩
theorem isPq.gd {P : abP} {Q : abV} (h : isPq P Q) (g : gdR Q) : gdC P := by
  obtain ⟨⟨a0, a1, a2, a3, a4, a5⟩, a6, hC, hM, hL, hF, hW⟩ := h
  obtain ⟨g0, g1, g2, g3, g4, g5, g6, gm, gc, gl, gs, gf⟩ := g
  have wh : Q.1 0 0 * Q.1 0 1 ≤ 12 * 12 := Int.mul_le_mul g0.2 g1.2 (by omega) (by omega)
  refine ⟨by omega, by omega, by omega, by omega, by omega, by omega, fun k hk => ?_, fun i a b => ?_, fun l a b => ?_, fun k a b => ?_, by omega, fun k a b => ?_⟩
  · have := hM k (by omega) (by omega)
    rw [Int.toNat_natCast] at this
    rw [this]
    omega
  · have c := hC i a (by omega)
    have gi := gc i a (by omega)
    have d := ab_div (a := Q.1 1 i) (w := Q.1 0 0) (h := Q.1 0 1) (by omega) gi.1.1 gi.1.2
    have m0 := Int.emod_nonneg (Q.1 1 i) (show Q.1 0 0 ≠ 0 by omega)
    have m1 := Int.emod_lt_of_pos (Q.1 1 i) (show 0 < Q.1 0 0 by omega)
    rw [c.1, c.2, a0, a1, Int.mul_ediv_add_emod]
    exact ⟨⟨m0, m1⟩, d, by rw [hM _ gi.1.1 (by omega)]; exact gi.2⟩
  · have c := hL l a (by omega)
    have gi := gl l a (by omega)
    rw [c.1.1, c.1.2.1, c.1.2.2.1, c.1.2.2.2]
    exact ⟨gi.2.1, gi.2.2.2.1, gi.2.2.2.2.1, gi.2.2.2.2.2.1, c.2.2.1, fun k a b => by rw [c.2.1 k a b]; exact gi.2.2.2.2.2.2.1 k a b⟩
  · rw [hF k a (by omega)]; exact gf k a (by omega)
  · have c := hW k a (by omega)
    exact ⟨c.1, by rw [c.2.1]; exact abRn_wf c.2.2⟩
theorem isPq.m {P : abP} {Q : abV} {τ : slM} (h : isPq P Q) (g : gdR Q) (n : nIs Q τ) : isM P τ := by
  obtain ⟨⟨a0, a1, a2, a3, a4, a5⟩, a6, hC, hM, hL, hF, hW⟩ := h
  obtain ⟨⟨n0, n1, n2, n3, n4, n5, n6⟩, nC, nL, nF, nM, nW, -, -⟩ := n
  obtain ⟨g0, g1, g2, g3, g4, g5, g6, gm, gc, gl, gs, gf⟩ := g
  refine ⟨⟨n0.trans a0.symm, n1.trans a1.symm, n2.trans a2.symm, n3.trans a3.symm, n4.trans a4.symm, n5.trans a5.symm, n6.trans a6.symm⟩, fun i a b => ?_, fun l a b => ?_, fun k a b => ?_, fun c a b => ?_, fun k a b => ?_⟩
  · have c := hC i a (by omega)
    rw [nC i a (by omega), c.1, c.2, a0, Int.mul_ediv_add_emod]
  · have c := hL l a (by omega)
    have d := nL l a (by omega)
    rw [c.1.1, c.1.2.1, c.1.2.2.1, c.1.2.2.2]
    exact ⟨d.1.1, d.1.2.1, d.1.2.2.1, d.1.2.2.2, fun k a b => by rw [c.2.1 k a b]; exact d.2.1 k a b, fun k a b => by rw [c.2.2.2 k a b]; exact d.2.2.1 k a b⟩
  · rw [nF k a (by omega), hF k a (by omega)]
  · rw [nM c a b, hM c a b]
  · have c := hW k a (by omega)
    have d := nW k a (by omega)
    exact ⟨d.1, by rw [c.2.1]; exact d.2⟩
/-- the stand that was read -/
def qD (Q : abV) : abD := (fun k w => if k = 0 then Q.1 4 w else if k = 1 then Q.1 10 w else if k = 2 then Q.1 2 w else if k = 3 then (if Q.1 0 6 ≤ 0 then -1 else 0) else Q.1 11 w, [], [])
theorem qD_0 {Q : abV} {w : Int} : (qD Q).1 0 w = Q.1 4 w := by simp [qD]
theorem qD_1 {Q : abV} {w : Int} : (qD Q).1 1 w = Q.1 10 w := by simp [qD]
theorem qD_2 {Q : abV} {w : Int} : (qD Q).1 2 w = Q.1 2 w := by simp [qD]
theorem qD_3 {Q : abV} {w : Int} : (qD Q).1 3 w = (if Q.1 0 6 ≤ 0 then -1 else 0) := by simp [qD]
theorem qD_4 {Q : abV} {w : Int} : (qD Q).1 4 w = Q.1 11 w := by simp [qD]
theorem isPq.d {P : abP} {Q : abV} (h : isPq P Q) (g : gdR Q) : gdD P (qD Q) := by
  obtain ⟨⟨a0, a1, a2, a3, a4, a5⟩, a6, hC, hM, hL, hF, hW⟩ := h
  obtain ⟨g0, g1, g2, g3, g4, g5, g6, gm, gc', gl, gs, gf⟩ := g
  have wh : Q.1 0 0 * Q.1 0 1 ≤ 12 * 12 := Int.mul_le_mul g0.2 g1.2 (by omega) (by omega)
  have op : ∀ x : Int, 0 ≤ x ∧ x < Q.1 0 0 * Q.1 0 1 → (Q.1 13 x / 2 % 2 = 1 ∨ Q.1 13 x / 4 % 2 = 1) → gc P x ∧ P 23 x.toNat = 0 := fun x hx hm => by
    have m := gm x
    refine ⟨⟨hx.1, by rw [a0, a1]; exact hx.2⟩, ?_⟩
    rw [hM x hx.1 (by omega)]
    omega
  refine ⟨⟨fun l a b => ?_, fun l a b => ?_, fun l a b => ?_, fun l a b => ?_, ?_⟩, fun e he => absurd he (by simp [qD]), Nat.zero_le _, Nat.zero_le _⟩
  · have d := gl l a (by omega)
    rw [qD_2]
    exact ⟨(op _ d.1.1 (Or.inl d.1.2.1)).1, (op _ d.1.1 (Or.inl d.1.2.1)).2, fun k a b n => by rw [qD_2]; exact d.1.2.2 k a (by omega) n⟩
  · have d := gl l a (by omega)
    rw [qD_0]; exact d.2.2.1
  · have d := gs l a (by omega)
    rw [qD_1]
    exact op _ d.1.1 (Or.inr d.1.2)
  · have d := gs l a (by omega)
    rw [qD_4]; exact d.2
  · rw [qD_3]
    split
    · exact Or.inl rfl
    · exact Or.inr ⟨by decide, by omega⟩
def cxX (Z : abZ) (n : Int) : abX := (Z.2.2.2.1, n)
theorem cxX.gd {N : Nat} {Z : abZ} {n : Int} (h : gdZ N Z) (hn : 0 ≤ n ∧ n ≤ Z.2.2.2.2.1) : gdX (cxX Z n) := ⟨⟨hn.1, by have := h.2.2.2.1; show n ≤ 700; omega⟩, h.2.2.2.2.1⟩
/-- after a coast that was refused at q -/
def nxBad (Z : abZ) (q : Int) : abZ := (Z.1, Z.2.1, Z.2.2.1, Z.2.2.2.1, 0, q, fun k => if k = 0 then Z.2.2.2.2.2.2 k + 1 else Z.2.2.2.2.2.2 k)
/-- after a coast that was taken -/
def nxNew (Z : abZ) (P : abP) (Q : abV) : abZ := (P, qD Q, none, Z.2.2.2.1, 0, -1, Z.2.2.2.2.2.2)
theorem gdZ.bad {N : Nat} {Z : abZ} {q : Int} (h : gdZ N Z) (hq : 0 ≤ q ∧ q ≤ 700) : gdZ (N + 1) (nxBad Z q) := ⟨h.1, h.2.1, h.2.2.1, ⟨by show (0 : Int) ≤ 0; decide, by show (0 : Int) ≤ 700; decide⟩, h.2.2.2.2.1, ⟨by show -1 ≤ q; omega, hq.2⟩, fun k => by
  have := h.2.2.2.2.2.2 k
  show 0 ≤ (if k = 0 then Z.2.2.2.2.2.2 k + 1 else Z.2.2.2.2.2.2 k) ∧ (if k = 0 then Z.2.2.2.2.2.2 k + 1 else Z.2.2.2.2.2.2 k) ≤ ((N + 1 : Nat) : Int)
  split <;> omega⟩
theorem gdZ.new {N : Nat} {Z : abZ} {P : abP} {Q : abV} (h : gdZ N Z) (hP : isPq P Q) (g : gdR Q) : gdZ (N + 1) (nxNew Z P Q) := ⟨hP.gd g, hP.d g, trivial, ⟨by show (0 : Int) ≤ 0; decide, by show (0 : Int) ≤ 700; decide⟩, h.2.2.2.2.1, ⟨by show (-1 : Int) ≤ -1; decide, by show (-1 : Int) ≤ 700; decide⟩, h.s.2.2.2.2.2.2⟩
theorem sp_mcoast {G : slG} (hG : slGood G) {d K N : Nat} (hd : 26 ≤ d) {Φ : slPost} {σ : slM} {x1 : Int} {Z : abZ} (hY : isY Z σ) (hZ : gdZ N Z) (hN : N ≤ 1000) (i1 : InR x1) (hb : ¬ (0 ≤ x1 ∧ x1 ≤ Z.2.2.2.2.1) → Φ (0, 0) (slU (slU σ 12 0 0 0) 12 0 0 1)) (h0 : ∀ k q, 0 ≤ x1 ∧ x1 ≤ Z.2.2.2.2.1 → lnCo (cxX Z x1) = .inl (k, q) → 0 ≤ q ∧ q ≤ 700 → ∀ τ, mdF σ τ → isY (nxBad Z q) τ → τ 12 0 0 = 0 → Φ (0, k) τ) (h1 : ∀ Q p, 0 ≤ x1 ∧ x1 ≤ Z.2.2.2.2.1 → lnCo (cxX Z x1) = .inr (Q, p) → gdR Q → ∀ τ, mdF σ τ → (∀ P, isPq P Q → isY (nxNew Z P Q) τ) → τ 12 0 0 = 0 → Φ (0, 0) τ) : slCall G mX12_coast d K [sR 12 0, sI x1] σ Φ := by
  have e20 := hY.2.2.2.1
  have hn := hZ.2.2.2.1
  have r0 := hZ.2.2.2.2.2.2 0
  have e73 := hY.2.2.2.2.2.2
  by_cases b : 0 ≤ x1 ∧ x1 ≤ Z.2.2.2.2.1
  · refine sp_X12_coast hG (by omega) (by omega) (X := cxX Z x1) (cxX.gd hZ b) rfl (by rw [e20]; exact ⟨by omega, by omega⟩) (by show x1 ≤ σ 12 0 20; rw [e20]; exact b.2) (fun k hk => hY.2.2.2.2.1 k (by have hk : (k : Int) < x1 := hk; omega)) (by rw [e73 0 (by decide)]; omega) (fun k q ec hk hq τ f v c d => h0 k q b ec hq τ (f.md (by decide)) ?_ v.1) (fun Q p ec g τ f n v => h1 Q p b ec g τ (f.md (by decide)) (fun P hP => ?_) v.1)
    · obtain ⟨y1, y2, y3, y4, y5, y6, y7⟩ := hY
      refine ⟨y1.fr f (by decide) (by decide), y2.c (f.1 88 0 (by decide) (by decide)) (f.1 89 0 (by decide) (by decide)) (f.1 102 0 (by decide) (by decide)) (f.2 58 (by decide)) (f.2 72 (by decide)), y3.c (f.1 104 0 (by decide) (by decide)) (f.1 105 0 (by decide) (by decide)) (f.1 106 0 (by decide) (by decide)) (fun k a b => f.2 k (by simp [mRS]; omega)), v.2.1, fun k hk => ?_, v.2.2, fun k hk => ?_⟩
      · have hk : (k : Int) < 0 := hk
        omega
      · show τ 73 0 k = if k = 0 then Z.2.2.2.2.2.2 k + 1 else Z.2.2.2.2.2.2 k
        by_cases z : k = 0
        · rw [if_pos z, z, c, y7 0 (by decide)]
        · rw [if_neg z, d k z, y7 k hk]
    · obtain ⟨y1, y2, y3, y4, y5, y6, y7⟩ := hY
      obtain ⟨n1, n2, n3, n4, n5, n6, n7, n8⟩ := n
      have e13 := hP.1.2.2.2.1
      have e14 := hP.1.2.2.2.2.1
      refine ⟨hP.m g ⟨n1, n2, n3, n4, n5, n6, n7, n8⟩, ⟨fun l a b => ?_, fun l a b => ?_, fun l a b => ?_, ?_, fun l a b => ?_, ?_, trivial, ?_, trivial⟩, v.2.2.2.2.2, v.2.1, fun k hk => ?_, v.2.2.1, fun k hk => ?_⟩
      · have b : l < P 1 3 := b
        show τ 88 0 (0 + l).toNat = (qD Q).1 0 l
        rw [qD_0]; exact (n3 l a (by omega)).2.2.2.1
      · have b : l < P 1 4 := b
        show τ 88 0 (5 + l).toNat = (qD Q).1 1 l
        rw [qD_1]; exact (n7 l a (by omega)).1
      · have b : l < P 1 3 := b
        show τ 88 0 (13 + l).toNat = (qD Q).1 2 l
        rw [qD_2]; exact (n3 l a (by omega)).2.2.2.2
      · show τ 88 0 18 = (qD Q).1 3 0
        rw [qD_3]; exact n8
      · have b : l < P 1 4 := b
        show τ 88 0 (19 + l).toNat = (qD Q).1 4 l
        rw [qD_4]; exact (n7 l a (by omega)).2
      · exact v.2.2.2.1
      · exact v.2.2.2.2.1
      · have hk : (k : Int) < 0 := hk
        omega
      · show τ 73 0 k = Z.2.2.2.2.2.2 k
        rw [f.1 73 0 (by decide) (by decide)]; exact y7 k hk
  · refine vc_X12_coast hG (by omega) (by omega) (fun _ _ _ => False) (fun _ _ _ => False) (fun _ _ _ => False) ⟨i1, fun z => ?_, fun z => ?_⟩ (fun _ _ _ z => z.elim) (fun _ _ _ z => z.elim) (fun _ _ _ z => z.elim)
    · exact sp_X12_right hG (by omega) (by omega) (slU_same _ _ _ _ _) (by decide) (by decide) (by decide) (fun z => absurd rfl z) (fun _ => slKt.ok ⟨in0, fun z => absurd rfl z, fun _ => hb b⟩)
    · have z20 : slU σ 12 0 0 0 12 0 20 = Z.2.2.2.2.1 := by rw [slU_ne (by decide)]; exact e20
      rw [z20, if_pos (by omega)]
      exact ⟨⟨i1, by omega, by omega⟩, sp_X12_right hG (by omega) (by omega) (slU_same _ _ _ _ _) (by decide) (by decide) (by decide) (fun z => absurd rfl z) (fun _ => slKt.ok ⟨in0, fun z => absurd rfl z, fun _ => hb b⟩)⟩
