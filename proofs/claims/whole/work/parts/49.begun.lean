/-! ===== begun, sparing ===== -/
/-- entries that would be false if light l began at c -/
noncomputable def abWrg (Z : abZ) (l c : Int) : Int := abFal (abNow Z.1 (abFrB Z l c) (Z.2.1.1 0) (Z.2.1.1 1)) Z.2.1.2.2
/-- how many cells fit, the least of them, the fewest false entries -/
noncomputable def abBgP (Z : abZ) (l : Int) : Nat → Int × Int × Int
  | 0 => (0, -1, 9)
  | n + 1 => abIte (abFree Z.1 (Z.2.1.1 2) (Z.1 1 3) l n) (abIte (abWrg Z l n = 0) ((abBgP Z l n).1 + 1, abIf ((abBgP Z l n).2.1 = -1) n (abBgP Z l n).2.1, abIf ((abBgP Z l n).2.2 ≤ abWrg Z l n) (abBgP Z l n).2.2 (abWrg Z l n)) ((abBgP Z l n).1, (abBgP Z l n).2.1, abIf ((abBgP Z l n).2.2 ≤ abWrg Z l n) (abBgP Z l n).2.2 (abWrg Z l n))) (abBgP Z l n)
theorem abBgP_s {Z : abZ} {l y : Int} (h : 0 ≤ y) : abBgP Z l (y + 1).toNat = abIte (abFree Z.1 (Z.2.1.1 2) (Z.1 1 3) l y) (abIte (abWrg Z l y = 0) ((abBgP Z l y.toNat).1 + 1, abIf ((abBgP Z l y.toNat).2.1 = -1) y (abBgP Z l y.toNat).2.1, abIf ((abBgP Z l y.toNat).2.2 ≤ abWrg Z l y) (abBgP Z l y.toNat).2.2 (abWrg Z l y)) ((abBgP Z l y.toNat).1, (abBgP Z l y.toNat).2.1, abIf ((abBgP Z l y.toNat).2.2 ≤ abWrg Z l y) (abBgP Z l y.toNat).2.2 (abWrg Z l y))) (abBgP Z l y.toNat) := by
  obtain ⟨n, rfl⟩ := Int.eq_ofNat_of_zero_le h
  rw [show ((n : Int) + 1).toNat = n + 1 by omega, Int.toNat_natCast]
  rfl
noncomputable def abBgn (Z : abZ) (l w : Int) : Int := if w = 0 then (abBgP Z l (Z.1 1 0 * Z.1 1 1).toNat).1 else if w = 1 then (abBgP Z l (Z.1 1 0 * Z.1 1 1).toNat).2.1 else (abBgP Z l (Z.1 1 0 * Z.1 1 1).toNat).2.2
theorem abWrg_r {N : Nat} {Z : abZ} {l c : Int} (hZ : gdZ N Z) : 0 ≤ abWrg Z l c ∧ abWrg Z l c ≤ 8 := by
  have := abFal_r (V := abNow Z.1 (abFrB Z l c) (Z.2.1.1 0) (Z.2.1.1 1)) (L := Z.2.1.2.2)
  have l8 := hZ.2.1.2.2.2
  unfold abWrg
  omega
theorem abBgP_r {N : Nat} {Z : abZ} {l : Int} (hZ : gdZ N Z) : ∀ {n : Nat}, ((0 ≤ (abBgP Z l n).1 ∧ (abBgP Z l n).1 ≤ n) ∧ (-1 ≤ (abBgP Z l n).2.1 ∧ (abBgP Z l n).2.1 < n) ∧ (0 ≤ (abBgP Z l n).2.2 ∧ (abBgP Z l n).2.2 ≤ 9)) ∧ ((∃ c : Int, 0 ≤ c ∧ c < n ∧ abFree Z.1 (Z.2.1.1 2) (Z.1 1 3) l c) → (abBgP Z l n).2.2 ≤ 8)
  | 0 => ⟨⟨⟨by show (0 : Int) ≤ 0; omega, by show (0 : Int) ≤ ((0 : Nat) : Int); omega⟩, ⟨by show (-1 : Int) ≤ -1; omega, by show (-1 : Int) < ((0 : Nat) : Int); omega⟩, by show (0 : Int) ≤ 9; omega, by show (9 : Int) ≤ 9; omega⟩, fun ⟨c, a, b, _⟩ => by omega⟩
  | n + 1 => by
    have ih := abBgP_r (l := l) hZ (n := n)
    have w := abWrg_r (l := l) (c := (n : Int)) hZ
    have e := abBgP_s (Z := Z) (l := l) (y := (n : Int)) (by omega)
    rw [show ((n : Int) + 1).toNat = n + 1 by omega, Int.toNat_natCast] at e
    rw [e]
    generalize abBgP Z l n = r at ih
    obtain ⟨r1, r2, r3⟩ := r
    obtain ⟨⟨⟨i1, i2⟩, ⟨i3, i4⟩, i5, i6⟩, i7⟩ := ih
    dsimp only at i1 i2 i3 i4 i5 i6 i7 ⊢
    have m : (0 ≤ abIf (r3 ≤ abWrg Z l n) r3 (abWrg Z l n) ∧ abIf (r3 ≤ abWrg Z l n) r3 (abWrg Z l n) ≤ 9) ∧ abIf (r3 ≤ abWrg Z l n) r3 (abWrg Z l n) ≤ 8 := by
      by_cases z : r3 ≤ abWrg Z l n
      · rw [abIf_t z]; omega
      · rw [abIf_f z]; omega
    have f : -1 ≤ abIf (r2 = -1) (n : Int) r2 ∧ abIf (r2 = -1) (n : Int) r2 < ((n + 1 : Nat) : Int) := by
      by_cases z : r2 = -1
      · rw [abIf_t z]; omega
      · rw [abIf_f z]; omega
    by_cases z1 : abFree Z.1 (Z.2.1.1 2) (Z.1 1 3) l n
    · rw [abIte_t z1]
      by_cases z2 : abWrg Z l n = 0
      · rw [abIte_t z2]
        exact ⟨⟨⟨by show 0 ≤ r1 + 1; omega, by show r1 + 1 ≤ ((n + 1 : Nat) : Int); omega⟩, f, m.1⟩, fun _ => m.2⟩
      · rw [abIte_f z2]
        exact ⟨⟨⟨i1, by show r1 ≤ ((n + 1 : Nat) : Int); omega⟩, ⟨i3, by show r2 < ((n + 1 : Nat) : Int); omega⟩, m.1⟩, fun _ => m.2⟩
    · rw [abIte_f z1]
      refine ⟨⟨⟨i1, by show r1 ≤ ((n + 1 : Nat) : Int); omega⟩, ⟨i3, by show r2 < ((n + 1 : Nat) : Int); omega⟩, i5, i6⟩, fun ⟨c, a, b, d⟩ => i7 ⟨c, a, ?_, d⟩⟩
      by_cases e : c = n
      · rw [e] at d; exact absurd d z1
      · omega
theorem own_free {P : abP} {b : Int → Int} {l : Int} (hg : gdP P b) (h : 0 ≤ l ∧ l < P 1 3) : abFree P b (P 1 3) l (b l) := by
  have g := hg l h.1 h.2
  exact ⟨⟨g.1.1, g.1.2, g.2.1⟩, fun k a c d => g.2.2 k a c d⟩
set_option maxHeartbeats 1000000 in
set_option maxRecDepth 4000 in
theorem sp_X11_begun {G : slG} (hG : slGood G) {d K : Nat} (hd : 50 ≤ d) (hK : 2 ≤ K) {Φ : slPost} {σ : slM} {x1 : Int} {x2 : Int} {c s N : Nat} {Z : abZ} (hX : isX c s Z σ) (hZ : gdZ N Z) (i1 : InR x1) (i2 : InR x2) (h : cA c s Z σ Φ (abOk ((0 ≤ x1 ∧ x1 < Z.1 1 3) ∧ 0 ≤ x2 ∧ x2 < 3) (abBgn Z x1 x2))) :
    slCall G mX11_begun d K [sR 11 0, sI x1, sI x2] σ Φ := by
  refine vc_X11_begun hG (by omega) hK (fun μ y3 y4 y5 y6 y7 σ' => ((0 ≤ x1 ∧ x1 < Z.1 1 3) ∧ 0 ≤ x2 ∧ x2 < 3) ∧ cS c s Z σ σ' ∧ (∃ v, isG Z (abPut (Z.2.1.1 2) x1 v) (Z.2.1.1 0) σ') ∧ y6 = Z.1 1 0 * Z.1 1 1 ∧ μ = ((y6 - y7).toNat, 0, 0) ∧ (0 ≤ y7 ∧ y7 ≤ y6) ∧ y3 = (abBgP Z x1 y7.toNat).1 ∧ y4 = (abBgP Z x1 y7.toNat).2.1 ∧ y5 = (if (abBgP Z x1 y7.toNat).2.2 < 8 then (abBgP Z x1 y7.toNat).2.2 else 8)) ?_ ?_
  · have wh := hZ.c.wh
    refine sp_X11_needLight hG (by omega) (by omega) hX hZ.c i1 (fun q1 => slKt.ok ?_) (fun q => slKt.ex (Or.inl rfl) (h.no (fun z => q z.1) cQ.id hX))
    refine sp_X11_needWhat hG (by omega) (by omega) i2 ⟨by decide, by decide⟩ (fun q2 => slKt.ok ?_) (fun q => slKt.ex (Or.inl rfl) (h.no (fun z => q z.2) cQ.id hX))
    refine sp_X11_settle hG (by omega) (by omega) hX hZ (fun τ f x t => slKt.ok ?_)
    rw [x.e5]
    refine cS.take hG (by omega) hZ ⟨f, x, t⟩ (fun τ1 m1 g1 _ => slKt.ok ?_)
    rw [m1.2.1.e4]
    refine sp_X1_cells hG (by omega) (by omega) (slKt.ok ?_)
    rw [m1.2.1.cc.1]
    exact ⟨_, ⟨q1, q2⟩, m1, ⟨Z.2.1.1 2 x1, by rw [abPut_id]; exact g1⟩, rfl, rfl, ⟨by omega, by omega⟩, rfl, rfl, rfl⟩
  · have wh := hZ.c.wh
    rintro μ y3 y4 y5 y6 y7 σ' ⟨⟨q1, q2⟩, m, ⟨v, g⟩, rfl, rfl, hy, e3, e4, e5⟩
    have r := abBgP_r (l := x1) hZ (n := y7.toNat)
    rw [← e3, ← e4] at r
    have r5 : 0 ≤ y5 ∧ y5 ≤ 8 := by rw [e5]; omega
    refine ⟨⟨⟨by omega, by omega⟩, by omega, by omega⟩, fun q => ?_, fun q => ?_⟩
    · have k := h.yes ⟨q1, q2⟩ m.1 m.2.1
      unfold abBgn at k
      have own := own_free hZ.v.1 q1
      have r8 := r.2 ⟨Z.2.1.1 2 x1, own.1.1, by have := own.1.2.1; omega, own⟩
      rw [show Z.1 1 0 * Z.1 1 1 = y7 by omega, ← e3, ← e4] at k
      refine ⟨i2, fun z => ⟨i2, fun z2 => ?_, fun z2 => ?_⟩, fun z => ?_⟩
      · rw [if_neg z, if_neg z2] at k
        rw [e5, show (if (abBgP Z x1 y7.toNat).2.2 < 8 then (abBgP Z x1 y7.toNat).2.2 else 8) = (abBgP Z x1 y7.toNat).2.2 by omega]
        exact k
      · rwa [if_neg z, if_pos z2] at k
      · rwa [if_pos z] at k
    · have lt : slLt ((Z.1 1 0 * Z.1 1 1 - (y7 + 1)).toNat, 0, 0) ((Z.1 1 0 * Z.1 1 1 - y7).toNat, 0, 0) := Or.inl (by show (Z.1 1 0 * Z.1 1 1 - (y7 + 1)).toNat < (Z.1 1 0 * Z.1 1 1 - y7).toNat; omega)
      have s0 := abBgP_s (Z := Z) (l := x1) hy.1
      rw [m.2.1.e5]
      refine sp_X11_canBegin hG (by omega) (by omega) (f := Z.2.1.1 2) m.2.1 hZ (fun l a b => ⟨m.2.1.ss.2.2.1 l a b, (hZ.v.1 l a b).1⟩) i1 ⟨by omega, by omega⟩ (slKt.ok ⟨in01, fun z => ⟨_, lt, ⟨q1, q2⟩, m, ⟨v, g⟩, rfl, rfl, ⟨by omega, by omega⟩, ?_, ?_, ?_⟩, fun z => ?_⟩)
      · rw [s0, abIte_f (abIf_z z)]; exact e3
      · rw [s0, abIte_f (abIf_z z)]; exact e4
      · rw [s0, abIte_f (abIf_z z)]; exact e5
      · have fr := abIf_nz z
        rw [abIte_t fr] at s0
        refine sp_X11_sailFrom hG (by omega) (by omega) hZ m g q1 (by rw [abPut2]; exact hZ.v.1.put fr) (fun τ m2 g2 c2 => slKt.ok ?_)
        rw [abPut2] at g2 c2
        rw [m2.2.1.e5]
        have S := m2.2.1.ss
        have w := abWrg_r (l := x1) (c := y7) hZ
        refine sp_X5_falseBy hG (by omega) (by omega) (V := abNow Z.1 (abFrB Z x1 y7) (Z.2.1.1 0) (Z.2.1.1 1)) hZ.c S.2.2.2.2.2.2.2.1 hZ.2.1.2.2.2 S.2.2.2.2.2.2.2.2 hZ.2.1.2.1 (fun k y a b c d => ⟨c2 k y a b c d, abNow_r hZ.c⟩) (slKt.ok ?_)
        show ((InR y5) ∧ (InR (abWrg Z x1 y7))) ∧ ((InR (abWrg Z x1 y7))) ∧ (¬ abWrg Z x1 y7 = 0 → _) ∧ (abWrg Z x1 y7 = 0 → _)
        refine ⟨⟨⟨by omega, by omega⟩, by omega, by omega⟩, ⟨by omega, by omega⟩, fun u => ⟨_, lt, ⟨q1, q2⟩, m2, ⟨y7, g2⟩, rfl, rfl, ⟨by omega, by omega⟩, ?_, ?_, ?_⟩, fun u => ⟨⟨by omega, by omega⟩, _, lt, ⟨q1, q2⟩, m2, ⟨y7, g2⟩, rfl, rfl, ⟨by omega, by omega⟩, ?_, ?_, ?_⟩⟩
        · rw [s0, abIte_f u]; exact e3
        · rw [s0, abIte_f u]; exact e4
        · rw [s0, abIte_f u]
          show (if abWrg Z x1 y7 < y5 then abWrg Z x1 y7 else y5) = (if abIf ((abBgP Z x1 y7.toNat).2.2 ≤ abWrg Z x1 y7) (abBgP Z x1 y7.toNat).2.2 (abWrg Z x1 y7) < 8 then abIf ((abBgP Z x1 y7.toNat).2.2 ≤ abWrg Z x1 y7) (abBgP Z x1 y7.toNat).2.2 (abWrg Z x1 y7) else 8)
          by_cases v : (abBgP Z x1 y7.toNat).2.2 ≤ abWrg Z x1 y7
          · rw [abIf_t v]; omega
          · rw [abIf_f v]; omega
        · rw [s0, abIte_t u]
          show y3 + 1 = (abBgP Z x1 y7.toNat).1 + 1
          rw [e3]
        · rw [s0, abIte_t u]
          show (if ¬ y4 = -1 then y4 else y7) = abIf ((abBgP Z x1 y7.toNat).2.1 = -1) y7 (abBgP Z x1 y7.toNat).2.1
          rw [← e4]
          by_cases v : y4 = -1
          · rw [abIf_t v, if_neg (fun n => n v)]
          · rw [abIf_f v, if_pos v]
        · rw [s0, abIte_t u]
          show (if abWrg Z x1 y7 < y5 then abWrg Z x1 y7 else y5) = (if abIf ((abBgP Z x1 y7.toNat).2.2 ≤ abWrg Z x1 y7) (abBgP Z x1 y7.toNat).2.2 (abWrg Z x1 y7) < 8 then abIf ((abBgP Z x1 y7.toNat).2.2 ≤ abWrg Z x1 y7) (abBgP Z x1 y7.toNat).2.2 (abWrg Z x1 y7) else 8)
          by_cases v : (abBgP Z x1 y7.toNat).2.2 ≤ abWrg Z x1 y7
          · rw [abIf_t v]; omega
          · rw [abIf_f v]; omega
theorem gdZ.tw {N : Nat} {Z : abZ} {T : Int → Int → Int} (h : gdZ N Z) (hv : gdV Z.1 T) (hA : Z.2.1.2.1 = []) : gdZ N (Z.1, (T, Z.2.1.2), Z.2.2) := by
  refine ⟨h.1, ⟨?_, h.2.1.2.1, h.2.1.2.2.1, h.2.1.2.2.2⟩, h.2.2⟩
  show gdU Z.1 Z.2.1.2.1 T
  rw [hA]
  exact hv
/-- the model's false entries over any stand of these values -/
theorem mt_false {G : slG} (hG : slGood G) {d K : Nat} (hd : 41 ≤ d) {Φ : slPost} {σ : slM} {N : Nat} {Z : abZ} {T : Int → Int → Int} (hZ : gdZ N Z) (hv : gdV Z.1 T) (hY : isY (Z.1, (T, Z.2.1.2), Z.2.2) σ) (h : ∀ τ, mFr [90, 91, 92, 93, 94, 95] [65] σ τ → Φ (0, abFal (abNow Z.1 (abC Z.1 T) (T 0) (T 1)) Z.2.1.2.2) τ) : slCall G mX12_falseNow d K [sR 12 0] σ Φ := by
  have hZ2 : gdZ N (Z.1, (T, [], Z.2.1.2.2), Z.2.2) := ⟨hZ.1, ⟨hv, hZ.2.1.2.1, Nat.zero_le _, hZ.2.1.2.2.2⟩, hZ.2.2⟩
  have hY2 : isM Z.1 σ := hY.1
  refine vc_X12_falseNow hG (by omega) (by omega) (fun μ y1 y2 σ' => mFr [90, 91, 92, 93, 94, 95] [65] σ σ' ∧ mSl 240 Z.1 (abC Z.1 T) (T 0) σ' ∧ ∃ R t, Z.2.1.2.2 = R ++ t ∧ μ = (R.length, 0, 0) ∧ y2 = 4 * (t.length : Int) ∧ y1 = abFal (abNow Z.1 (abC Z.1 T) (T 0) (T 1)) t) ?_ ?_
  · refine vc_X12_sailsNow hG (by omega) (by omega) ?_
    have n := hY.2.1
    have e18 : σ 88 0 18 = T 3 0 := n.2.2.2.1
    rw [e18]
    exact ms_sails hG (by omega) hY.1 hZ.c ⟨by decide, by decide⟩ hv.2.2.2.2 n.2.2.1 hv.1 n.1 hv.2.1 (fun τ f c1 _ => slKt.ok (slKt.ok ⟨_, f, c1, Z.2.1.2.2, [], (List.append_nil _).symm, rfl, rfl, rfl⟩))
  · have hC := hZ.c
    have a3 := hC.2.2.2.1
    have a4 := hC.2.2.2.2.1
    have l8 := hZ.2.1.2.2.2
    have hg := hZ.2.1.2.1
    rintro μ y1 y2 σ' ⟨fr, m, R, t, eL, rfl, rfl, rfl⟩
    have Y := hY.q (mSq fr)
    have hA : σ' 12 0 72 = (Z.2.1.2.2.length : Int) := Y.2.1.2.2.2.2.2.2.2.1
    have hc : abLm (σ' 102 0) Z.2.1.2.2 := Y.2.1.2.2.2.2.2.2.2.2
    have h' := h σ' fr
    rw [eL] at hA hc l8 hg h'
    have ln : (R ++ t).length = R.length + t.length := List.length_append
    rw [hA]
    refine ⟨⟨⟨by omega, by omega⟩, by omega, by omega⟩, fun q => ?_, fun q => ?_⟩
    · have : R = [] := List.length_eq_zero_iff.mp (by omega)
      subst this
      exact h'
    · obtain ⟨R', e, rfl⟩ := ab_last (R := R) (fun z => q (by rw [z]; exact Int.le_refl _))
      have l1 : (R' ++ [e]).length = R'.length + 1 := by rw [List.length_append]; rfl
      have eq : R' ++ [e] ++ t = R' ++ e :: t := by rw [List.append_assoc]; rfl
      rw [eq] at hc hg
      have lc := abLm_tl hc
      have ge := hg e (by simp)
      obtain ⟨c1, c2, c3, c4, -⟩ := lc
      rw [show (4 * (t.length : Int)).toNat = 4 * t.length by omega, show (4 * (t.length : Int) + 1).toNat = 4 * t.length + 1 by omega, show (4 * (t.length : Int) + 2).toNat = 4 * t.length + 2 by omega, show (4 * (t.length : Int) + 3).toNat = 4 * t.length + 3 by omega, c1, c2]
      refine ⟨⟨by omega, by omega⟩, ⟨by omega, by omega⟩, ?_⟩
      refine sp_X12_seenNow hG (by omega) (by omega) Y.1 hC m hv.k Y.mo hv.2.2.1 ge.1 ge.2.1 (slKt.ok ⟨⟨by omega, by omega⟩, ⟨by omega, by omega⟩, ?_⟩)
      have v := abNow_r (C := abC Z.1 T) (oil := T 0) (mo := T 1) (s := e.1) (h := e.2.1) hC
      rw [c3, c4, sBit v.1 (by omega) ge.2.2.1.1 (by omega)]
      have b := abBit01 (abNow Z.1 (abC Z.1 T) (T 0) (T 1) e.1 e.2.1) e.2.2.1
      have lt : slLt (R'.length, 0, 0) ((R' ++ [e]).length, 0, 0) := Or.inl (by show R'.length < (R' ++ [e]).length; omega)
      refine ⟨⟨⟨by omega, by omega⟩, by omega, by omega⟩, _, lt, fr, m, R', e :: t, by rw [eL, eq], rfl, ?_, ?_⟩
      · show _ = 4 * ((t.length + 1 : Nat) : Int)
        omega
      · show _ = abFal _ t + abIf _ 0 1
        by_cases z : abBit (abNow Z.1 (abC Z.1 T) (T 0) (T 1) e.1 e.2.1) e.2.2.1 = e.2.2.2
        · rw [abIf_t z, if_pos z]
        · rw [abIf_f z, if_neg z]
theorem abC_und {P : abP} {T : Int → Int → Int} {l c : Int} : abC P (abUnd T 2 l c) = abCL P (T 3 0) (T 0) (abPut (T 2) l c) := by
  funext h k
  unfold abC abCL
  rw [abUnd_o (show (3 : Int) ≠ 2 by decide), abUnd_o (show (0 : Int) ≠ 2 by decide), abUnd2]
set_option maxHeartbeats 1000000 in
set_option maxRecDepth 4000 in
theorem sp_X12_begun {G : slG} (hG : slGood G) {d K : Nat} (hd : 50 ≤ d) (hK : 0 ≤ K) {Φ : slPost} {σ : slM} {x1 : Int} {x2 : Int} {N : Nat} {Z : abZ} (hY : isY Z σ) (hZ : gdZ N Z) (i1 : InR x1) (i2 : InR x2) (h : ∀ τ, mdF σ τ → isY Z τ → τ 12 0 0 = (abOk ((0 ≤ x1 ∧ x1 < Z.1 1 3) ∧ 0 ≤ x2 ∧ x2 < 3) (abBgn Z x1 x2)).1 → Φ (0, (abOk ((0 ≤ x1 ∧ x1 < Z.1 1 3) ∧ 0 ≤ x2 ∧ x2 < 3) (abBgn Z x1 x2)).2) τ) :
    slCall G mX12_begun d K [sR 12 0, sI x1, sI x2] σ Φ := by
  refine vc_X12_begun hG (by omega) hK (fun μ y3 y4 y5 y6 y7 σ' => ((0 ≤ x1 ∧ x1 < Z.1 1 3) ∧ 0 ≤ x2 ∧ x2 < 3) ∧ mdF σ σ' ∧ isY Z σ' ∧ σ' 12 0 0 = 0 ∧ y3 = Z.2.1.1 2 x1 ∧ μ = ((Z.1 1 0 * Z.1 1 1 - y7).toNat, 0, 0) ∧ (0 ≤ y7 ∧ y7 ≤ Z.1 1 0 * Z.1 1 1) ∧ y4 = (abBgP Z x1 y7.toNat).1 ∧ y5 = (abBgP Z x1 y7.toNat).2.1 ∧ y6 = (abBgP Z x1 y7.toNat).2.2) ?_ ?_
  · have wh := hZ.c.wh
    have a3 := hZ.c.2.2.2.1
    have y0 := hY.z
    have f0 : mdF σ (slU σ 12 0 0 0) := mdF.id.up (Or.inl rfl)
    have no : ¬ ((0 ≤ x1 ∧ x1 < Z.1 1 3) ∧ 0 ≤ x2 ∧ x2 < 3) → Φ (0, 0) (slU (slU σ 12 0 0 0) 12 0 0 1) := fun p => by
      have := h (slU (slU σ 12 0 0 0) 12 0 0 1) (f0.up (Or.inl rfl)) (y0.q mQ.id.t0)
      rw [abOk_f p] at this
      exact this (slU_same _ _ _ _ _)
    refine sp_X12_isLight hG (by omega) (by omega) y0.1 hZ.c i1 (slU_same _ _ _ _ _) (fun q1 => slKt.ok ⟨in1, fun z => absurd z (by decide), fun _ => ?_⟩) (fun q => slKt.ok ⟨in0, fun _ => no (fun z => q z.1), fun z => absurd rfl z⟩)
    refine sp_X12_isWhat hG (by omega) (by omega) i2 ⟨by decide, by decide⟩ (slU_same _ _ _ _ _) (fun q2 => slKt.ok ⟨in1, fun _ => ⟨⟨by omega, by omega⟩, ?_⟩, fun z => absurd z (by decide)⟩) (fun q => slKt.ok ⟨in0, fun z => absurd rfl z, fun _ => no (fun z => q z.2)⟩)
    exact ⟨_, ⟨q1, q2⟩, f0, y0, slU_same _ _ _ _ _, y0.2.1.2.2.1 x1 q1.1 q1.2, rfl, ⟨by omega, by omega⟩, rfl, rfl, rfl⟩
  · have wh := hZ.c.wh
    have a3 := hZ.c.2.2.2.1
    rintro μ y3 y4 y5 y6 y7 σ' ⟨⟨q1, q2⟩, f, Y, e0, rfl, rfl, hy, e4, e5, e6⟩
    have r := abBgP_r (l := x1) hZ (n := y7.toNat)
    rw [← e4, ← e5, ← e6] at r
    have s0 := abBgP_s (Z := Z) (l := x1) hy.1
    rw [← e4, ← e5, ← e6] at s0
    refine sp_X12_cells hG (by omega) (by omega) (slKt.ok ?_)
    rw [Y.1.1.1, Y.1.1.2.1]
    refine ⟨⟨⟨by omega, by omega⟩, by omega, by omega⟩, fun q => ?_, fun q => ?_⟩
    · have k := h σ' f Y
      rw [abOk_t ⟨q1, q2⟩] at k
      have k := k e0
      unfold abBgn at k
      rw [show Z.1 1 0 * Z.1 1 1 = y7 by omega, ← e4, ← e5, ← e6] at k
      refine ⟨i2, fun z => ⟨i2, fun z2 => ?_, fun z2 => ?_⟩, fun z => ?_⟩
      · rwa [if_neg z, if_neg z2] at k
      · rwa [if_neg z, if_pos z2] at k
      · rwa [if_pos z] at k
    · have lt : slLt ((Z.1 1 0 * Z.1 1 1 - (y7 + 1)).toNat, 0, 0) ((Z.1 1 0 * Z.1 1 1 - y7).toNat, 0, 0) := Or.inl (by show (Z.1 1 0 * Z.1 1 1 - (y7 + 1)).toNat < (Z.1 1 0 * Z.1 1 1 - y7).toNat; omega)
      rw [Y.1.1.2.2.2.1]
      refine sp_X12_isFree hG (by omega) (by omega) (f := Z.2.1.1 2) Y.1 hZ.c ⟨by omega, by omega⟩ ⟨by omega, by omega⟩ ⟨by omega, by omega⟩ i1 (fun l a b => ⟨Y.2.1.2.2.1 l a b, (hZ.v.1 l a b).1⟩) (slKt.ok ⟨in01, fun z => ⟨⟨by omega, by omega⟩, ?_⟩, fun z => ⟨_, lt, ⟨q1, q2⟩, f, Y, e0, rfl, rfl, ⟨by omega, by omega⟩, ?_, ?_, ?_⟩⟩)
      · have fr := abIf_nz z
        rw [abIte_t fr] at s0
        have hw : 0 ≤ x1 ∧ x1 < abMany Z.1 2 := by unfold abMany; omega
        have Y2 := Y.put (v := y7) hZ (k := 2) (w := x1) ⟨by decide, by decide⟩ hw
        have ep : (abPl 2 x1).toNat = (13 + x1).toNat := rfl
        rw [ep] at Y2
        have w := abWrg_r (l := x1) (c := y7) hZ
        refine mt_false hG (by omega) hZ (hZ.v.b fr) Y2 (fun τ f2 => slKt.ok ?_)
        rw [abC_und, abUnd_o (show (0 : Int) ≠ 2 by decide), abUnd_o (show (1 : Int) ≠ 2 by decide)]
        have F : mdF σ (slU τ 88 0 (13 + x1).toNat (Z.2.1.1 2 x1)) := ((f.up (Or.inr (by decide))).tr (f2.md (by decide))).up (Or.inr (by decide))
        have B : isY Z (slU τ 88 0 (13 + x1).toNat (Z.2.1.1 2 x1)) := (Y2.q (mSq f2)).back hZ.c ⟨by decide, by decide⟩ hw
        have E : slU τ 88 0 (13 + x1).toNat (Z.2.1.1 2 x1) 12 0 0 = 0 := by rw [slU_else (by decide), mSt f2, slU_else (by decide)]; exact e0
        show ((0 ≤ 13 + x1) ∧ (13 + x1 < 27)) ∧ ((InR (abWrg Z x1 y7)) ∧ (InR y6)) ∧ ((InR (abWrg Z x1 y7))) ∧ (abWrg Z x1 y7 ≤ 0 → _) ∧ (¬ (abWrg Z x1 y7 ≤ 0) → _)
        have mn : (if y6 ≤ abWrg Z x1 y7 then y6 else abWrg Z x1 y7) = abIf (y6 ≤ abWrg Z x1 y7) y6 (abWrg Z x1 y7) := by
          by_cases v : y6 ≤ abWrg Z x1 y7
          · rw [abIf_t v, if_pos v]
          · rw [abIf_f v, if_neg v]
        refine ⟨⟨by omega, by omega⟩, ⟨⟨by omega, by omega⟩, by omega, by omega⟩, ⟨by omega, by omega⟩, fun u => ⟨⟨by omega, by omega⟩, fun u2 => ⟨_, lt, ⟨q1, q2⟩, F, B, E, rfl, rfl, ⟨by omega, by omega⟩, ?_, ?_, ?_⟩, fun u2 => ⟨_, lt, ⟨q1, q2⟩, F, B, E, rfl, rfl, ⟨by omega, by omega⟩, ?_, ?_, ?_⟩⟩, fun u => ⟨_, lt, ⟨q1, q2⟩, F, B, E, rfl, rfl, ⟨by omega, by omega⟩, ?_, ?_, ?_⟩⟩
        · rw [s0, abIte_t (by omega)]
        · rw [s0, abIte_t (by omega)]
          show y5 = abIf (y5 = -1) y7 y5
          rw [abIf_f u2]
        · rw [s0, abIte_t (by omega)]; exact mn
        · rw [s0, abIte_t (by omega)]
        · rw [s0, abIte_t (by omega)]
          show y7 = abIf (y5 = -1) y7 y5
          rw [abIf_t u2]
        · rw [s0, abIte_t (by omega)]; exact mn
        · rw [s0, abIte_f (by omega)]
        · rw [s0, abIte_f (by omega)]
        · rw [s0, abIte_f (by omega)]; exact mn
      · rw [s0, abIte_f (abIf_z z)]; exact e4
      · rw [s0, abIte_f (abIf_z z)]; exact e5
      · rw [s0, abIte_f (abIf_z z)]; exact e6
