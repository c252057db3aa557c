/-! ===== the first memory ===== -/
theorem lw_start {σ : slM} (e114 : σ 11 0 4 = 0) (e115 : σ 11 0 5 = 0) (e72 : σ 7 0 2 = 1) (e73 : σ 7 0 3 = 1) (c1 : σ 1 0 0 = 8 ∧ σ 1 0 1 = 8 ∧ σ 1 0 2 = 0 ∧ σ 1 0 3 = 0 ∧ σ 1 0 4 = 0 ∧ σ 1 0 5 = 0) (c4 : σ 4 0 4 = 0) (c23 : ∀ k : Nat, k < 144 → σ 23 0 k = 0) (s8 : σ 8 0 6 = -1) (s0 : σ 0 0 3 = 0) (s5 : σ 5 0 4 = 0) (k8 : σ 11 0 8 = 0) (k12 : σ 11 0 12 = 0) (z36 : ∀ i : Nat, i ≤ 1 → ∀ k : Nat, σ 36 i k = 0) (t1 : σ 11 0 1 = 0) (t2 : σ 11 0 2 = -1) (t59 : ∀ k : Nat, k < 3 → σ 59 0 k = 0)
    (m1 : σ 12 0 1 = 8 ∧ σ 12 0 2 = 8 ∧ σ 12 0 3 = 0 ∧ σ 12 0 4 = 0 ∧ σ 12 0 5 = 0 ∧ σ 12 0 6 = 0 ∧ σ 12 0 7 = 0) (m71 : ∀ k : Nat, k < 144 → σ 71 0 k = 0) (m88 : σ 88 0 18 = -1) (m58 : σ 12 0 58 = 0) (m72 : σ 12 0 72 = 0) (m76 : σ 12 0 76 = 0) (m20 : σ 12 0 20 = 0) (m22 : σ 12 0 22 = -1) (m73 : ∀ k : Nat, k < 3 → σ 73 0 k = 0) : lwI 0 σ := by
  have e0 : q0.1 0 0 = 8 := by simp [q0]
  have e1 : q0.1 0 1 = 8 := by simp [q0]
  have z0 : ∀ i : Int, i ≠ 0 → i ≠ 1 → q0.1 0 i = 0 := fun i x y => by simp [q0, x, y]
  have zr : ∀ (a : Nat) (i : Int), a ≠ 0 → q0.1 a i = 0 := fun a i x => by simp [q0, x]
  have y2 := z0 2 (by decide) (by decide)
  have y3 := z0 3 (by decide) (by decide)
  have y4 := z0 4 (by decide) (by decide)
  have y5 := z0 5 (by decide) (by decide)
  have y6 := z0 6 (by decide) (by decide)
  have hP : isPq (fun a => σ a 0) q0 := by
    refine ⟨⟨c1.1.trans e0.symm, c1.2.1.trans e1.symm, c1.2.2.1.trans y2.symm, c1.2.2.2.1.trans y3.symm, c1.2.2.2.2.1.trans y4.symm, c1.2.2.2.2.2.trans y5.symm⟩, c4.trans y6.symm, fun i a b => by omega, fun c a b => ?_, fun i a b => by omega, fun i a b => by omega, fun i a b => by omega⟩
    rw [zr 13 c (by decide)]
    exact c23 c.toNat (by omega)
  have nI : nIs q0 σ := by
    refine ⟨⟨m1.1.trans e0.symm, m1.2.1.trans e1.symm, m1.2.2.1.trans y2.symm, m1.2.2.2.1.trans y3.symm, m1.2.2.2.2.1.trans y4.symm, m1.2.2.2.2.2.1.trans y5.symm, m1.2.2.2.2.2.2.trans y6.symm⟩, fun i a b => by omega, fun i a b => by omega, fun i a b => by omega, fun c a b => ?_, fun i a b => by omega, fun i a b => by omega, ?_⟩
    · rw [zr 13 c (by decide)]
      exact m71 c.toNat (by omega)
    · rw [y6]; exact m88
  refine ⟨0, 0, (fun a => σ a 0, qD q0, none, fun _ => 0, 0, -1, fun _ => 0), ⟨⟨by decide, by decide⟩, e114, e115, e72, e73, ⟨rfl, rfl, rfl, rfl, rfl, rfl, rfl, rfl, rfl, rfl, rfl, rfl, rfl, rfl⟩, ⟨fun l a b => ?_, fun l a b => ?_, fun l a b => ?_, ?_, fun l a b => ?_, s0, trivial, s5, trivial⟩, k8, Or.inl k12, fun i hi k _ => z36 i hi k, t1, fun k hk => ?_, t2, t59⟩, ⟨hP.m gdR_q0 nI, ⟨fun l a b => ?_, fun l a b => ?_, fun l a b => ?_, ?_, fun l a b => ?_, m58, trivial, m72, trivial⟩, m76, m20, fun k hk => ?_, m22, m73⟩, hP.gd gdR_q0, hP.d gdR_q0, trivial, ⟨by show (0 : Int) ≤ 0; decide, by show (0 : Int) ≤ 700; decide⟩, fun k => ⟨by show (0 : Int) ≤ 0; decide, by show (0 : Int) < 256; decide⟩, ⟨by show (-1 : Int) ≤ -1; decide, by show (-1 : Int) ≤ 700; decide⟩, fun k => ⟨by show (0 : Int) ≤ 0; decide, by show (0 : Int) ≤ 0; decide⟩⟩
  · have b : l < σ 1 0 3 := b
    omega
  · have b : l < σ 1 0 4 := b
    omega
  · have b : l < σ 1 0 3 := b
    omega
  · show σ 8 0 6 = (qD q0).1 3 0
    rw [qD_3, y6]; exact s8
  · have b : l < σ 1 0 4 := b
    omega
  · have hk : (k : Int) < 0 := hk
    omega
  · have b : l < σ 1 0 3 := b
    omega
  · have b : l < σ 1 0 4 := b
    omega
  · have b : l < σ 1 0 3 := b
    omega
  · show σ 88 0 18 = (qD q0).1 3 0
    rw [qD_3, y6]; exact m88
  · have b : l < σ 1 0 4 := b
    omega
  · have hk : (k : Int) < 0 := hk
    omega
