/-! ===== lamps, who, laws compared ===== -/
noncomputable def abPop (x : Int) : Int := abSum (fun k => abBit x k) 8
theorem abPop_e {x : Int} : abPop x = abBit x 0 + abBit x 1 + abBit x 2 + abBit x 3 + abBit x 4 + abBit x 5 + abBit x 6 + abBit x 7 := by
  show 0 + abBit x 0 + abBit x 1 + abBit x 2 + abBit x 3 + abBit x 4 + abBit x 5 + abBit x 6 + abBit x 7 = _
  rw [Int.zero_add]
theorem abPop_r {x : Int} : 0 ≤ abPop x ∧ abPop x ≤ 8 := by
  rw [abPop_e]
  have a0 := abBit01 x 0
  have a1 := abBit01 x 1
  have a2 := abBit01 x 2
  have a3 := abBit01 x 3
  have a4 := abBit01 x 4
  have a5 := abBit01 x 5
  have a6 := abBit01 x 6
  have a7 := abBit01 x 7
  omega
set_option maxHeartbeats 1000000 in
set_option maxRecDepth 4000 in
theorem sp_J6_bitCount_0f7a4 {G : slG} (hG : slGood G) {d K : Nat} (hd : 0 ≤ d) (hK : 0 ≤ K) {Φ : slPost} {σ : slM} {x0 : Int} (h0 : 0 ≤ x0 ∧ x0 < 256) (h : Φ (0, abPop x0) σ) :
    slCall G mJ6_bitCount_0f7a4 d K [sI x0] σ Φ := by
  refine vc_J6_bitCount_0f7a4 hG (by omega) hK  ?_
  rw [abPop_e] at h
  obtain ⟨n, rfl⟩ := Int.eq_ofNat_of_zero_le h0.1
  have key : ∀ n, n < 256 → abBit ((n : Nat) : Int) 0 + abBit (n : Int) 1 + abBit (n : Int) 2 + abBit (n : Int) 3 + abBit (n : Int) 4 + abBit (n : Int) 5 + abBit (n : Int) 6 + abBit (n : Int) 7 = (fun x0 : Int => sAnd (wr ((wr ((sAnd (wr ((wr ((sAnd (wr (x0 - (sAnd (sUshr x0 1) 1431655765))) 858993459) + (sAnd (sUshr (wr (x0 - (sAnd (sUshr x0 1) 1431655765))) 2) 858993459))) + (sUshr (wr ((sAnd (wr (x0 - (sAnd (sUshr x0 1) 1431655765))) 858993459) + (sAnd (sUshr (wr (x0 - (sAnd (sUshr x0 1) 1431655765))) 2) 858993459))) 4))) 252645135) + (sUshr (sAnd (wr ((wr ((sAnd (wr (x0 - (sAnd (sUshr x0 1) 1431655765))) 858993459) + (sAnd (sUshr (wr (x0 - (sAnd (sUshr x0 1) 1431655765))) 2) 858993459))) + (sUshr (wr ((sAnd (wr (x0 - (sAnd (sUshr x0 1) 1431655765))) 858993459) + (sAnd (sUshr (wr (x0 - (sAnd (sUshr x0 1) 1431655765))) 2) 858993459))) 4))) 252645135) 8))) + (sUshr (wr ((sAnd (wr ((wr ((sAnd (wr (x0 - (sAnd (sUshr x0 1) 1431655765))) 858993459) + (sAnd (sUshr (wr (x0 - (sAnd (sUshr x0 1) 1431655765))) 2) 858993459))) + (sUshr (wr ((sAnd (wr (x0 - (sAnd (sUshr x0 1) 1431655765))) 858993459) + (sAnd (sUshr (wr (x0 - (sAnd (sUshr x0 1) 1431655765))) 2) 858993459))) 4))) 252645135) + (sUshr (sAnd (wr ((wr ((sAnd (wr (x0 - (sAnd (sUshr x0 1) 1431655765))) 858993459) + (sAnd (sUshr (wr (x0 - (sAnd (sUshr x0 1) 1431655765))) 2) 858993459))) + (sUshr (wr ((sAnd (wr (x0 - (sAnd (sUshr x0 1) 1431655765))) 858993459) + (sAnd (sUshr (wr (x0 - (sAnd (sUshr x0 1) 1431655765))) 2) 858993459))) 4))) 252645135) 8))) 16))) 63) (n : Int) := by decide +kernel
  rw [key n (by omega)] at h
  exact h
set_option maxHeartbeats 1000000 in
set_option maxRecDepth 4000 in
theorem sp_X12_bits {G : slG} (hG : slGood G) {d K : Nat} (hd : 0 ≤ d) (hK : 0 ≤ K) {Φ : slPost} {σ : slM} {x0 : Int} (h0 : 0 ≤ x0 ∧ x0 < 256) (h : Φ (0, abPop x0) σ) :
    slCall G mX12_bits d K [sI x0] σ Φ := by
  refine vc_X12_bits hG (by omega) hK (fun μ y1 y2 σ' => σ' = σ ∧ μ = ((8 - y2).toNat, 0, 0) ∧ (0 ≤ y2 ∧ y2 ≤ 8) ∧ y1 = abSum (fun k => abBit x0 k) y2.toNat) ?_ ?_
  · exact ⟨_, rfl, rfl, ⟨by omega, by omega⟩, rfl⟩
  · rintro μ y1 y2 σ' ⟨rfl, rfl, hy, rfl⟩
    refine ⟨⟨by omega, by omega⟩, fun q => ?_, fun q => ⟨_, Or.inl (by show (8 - (y2 + 1)).toNat < (8 - y2).toNat; omega), rfl, rfl, ⟨by omega, by omega⟩, ?_⟩⟩
    · rw [show y2.toNat = 8 by omega]; exact h
    · rw [sBit h0.1 h0.2 hy.1 (by omega), abSum_s hy.1]
theorem abPop_all {n : Nat} {m : Int} (hn : n ≤ 5) (h0 : 0 ≤ m) (h1 : m < 2 ^ n - 1) : abPop m < abPop (2 ^ n - 1) := by
  obtain ⟨k, rfl⟩ := Int.eq_ofNat_of_zero_le h0
  rw [abPop_e, abPop_e]
  have key : ∀ n, n ≤ 5 → ∀ k, k < 32 → ((k : Nat) : Int) < 2 ^ n - 1 → abBit (k : Int) 0 + abBit (k : Int) 1 + abBit (k : Int) 2 + abBit (k : Int) 3 + abBit (k : Int) 4 + abBit (k : Int) 5 + abBit (k : Int) 6 + abBit (k : Int) 7 < abBit (2 ^ n - 1) 0 + abBit (2 ^ n - 1) 1 + abBit (2 ^ n - 1) 2 + abBit (2 ^ n - 1) 3 + abBit (2 ^ n - 1) 4 + abBit (2 ^ n - 1) 5 + abBit (2 ^ n - 1) 6 + abBit (2 ^ n - 1) 7 := by decide +kernel
  have := abPow5 hn
  exact key n hn k (by omega) h1
theorem sAnd_self {m : Int} (h0 : 0 ≤ m) (h1 : m < 256) : sAnd m m = m := by
  obtain ⟨k, rfl⟩ := Int.eq_ofNat_of_zero_le h0
  exact (by decide +kernel : ∀ k, k < 256 → sAnd ((k : Nat) : Int) (k : Int) = (k : Int)) k (by omega)
theorem sAnd_all {n : Nat} {m : Int} (hn : n ≤ 5) (h0 : 0 ≤ m) (h1 : m < 2 ^ n) : sAnd m (2 ^ n - 1) = m := by
  obtain ⟨k, rfl⟩ := Int.eq_ofNat_of_zero_le h0
  have key : ∀ n, n ≤ 5 → ∀ k, k < 32 → ((k : Nat) : Int) < 2 ^ n → sAnd (k : Int) (2 ^ n - 1) = (k : Int) := by decide +kernel
  have := abPow5 hn
  exact key n hn k (by omega) h1
theorem sShl_p {n : Int} (h : 0 ≤ n) (h5 : n ≤ 5) : sShl 1 n = 2 ^ n.toNat := sShl_1 h (by omega)
theorem abCon_r {P : abP} {T : Int → Int → Int} {n some : Int} (hC : gdC P) : 0 ≤ abCon P T n some ∧ abCon P T n some < 256 := by
  have a4 := hC.2.2.2.2.1
  exact abMask_8 (by omega)
theorem abCon_all {P : abP} {T : Int → Int → Int} {n : Int} (hC : gdC P) : abCon P T n (2 ^ (P 1 3).toNat - 1) = abCon P T n 31 := by
  have a3 := hC.2.2.2.1
  unfold abCon
  refine abMask_c (fun k a b => ?_)
  have e : abHrs (abNow P (abC P T) (T 0) (T 1) k) n (2 ^ (P 1 3).toNat - 1) = abHrs (abNow P (abC P T) (T 0) (T 1) k) n 31 := by
    unfold abHrs
    refine abSum_c (fun j x y => ?_)
    have r := abNow_r (C := abC P T) (oil := T 0) (mo := T 1) (s := k) (h := 24 * n + j) hC
    have r2 : abNow P (abC P T) (T 0) (T 1) k (24 * n + j) < 2 ^ (P 1 3).toNat := (abMask_r).2
    rw [sAnd_all (by omega) r.1 r2, sNz r.1 r.2]
  rw [e]
/-- the set of fewest bits, the least of them, that has p: as the class seeks it -/
noncomputable def abLp (p : Int → Prop) (all : Int) : Nat → Int
  | 0 => all
  | n + 1 => abIf (abPop n < abPop (abLp p all n) ∧ p n) n (abLp p all n)
theorem abLp_s {p : Int → Prop} {all y : Int} (h : 0 ≤ y) : abLp p all (y + 1).toNat = abIf (abPop y < abPop (abLp p all y.toNat) ∧ p y) y (abLp p all y.toNat) := by
  obtain ⟨n, rfl⟩ := Int.eq_ofNat_of_zero_le h
  rw [show ((n : Int) + 1).toNat = n + 1 by omega, Int.toNat_natCast]
  rfl
theorem abLp_r {p : Int → Prop} {all : Int} : ∀ {n : Nat}, abLp p all n = all ∨ (0 ≤ abLp p all n ∧ abLp p all n < n)
  | 0 => Or.inl rfl
  | n + 1 => by
    show abIf _ _ _ = all ∨ (0 ≤ abIf _ _ _ ∧ abIf _ _ _ < ((n + 1 : Nat) : Int))
    by_cases z : abPop n < abPop (abLp p all n) ∧ p n
    · rw [abIf_t z]; exact Or.inr ⟨by omega, by omega⟩
    · rw [abIf_f z]
      rcases abLp_r (p := p) (all := all) (n := n) with w | w
      · exact Or.inl w
      · exact Or.inr ⟨by omega, by omega⟩
noncomputable def abLamps (P : abP) (T : Int → Int → Int) (n : Int) : Int := abLp (fun x => sAnd (abCon P T n x) (abCon P T n 31) = abCon P T n 31) (2 ^ (P 1 3).toNat - 1) ((2 : Int) ^ (P 1 3).toNat - 1).toNat
set_option maxHeartbeats 1000000 in
set_option maxRecDepth 4000 in
theorem sp_X11_lamps {G : slG} (hG : slGood G) {d K : Nat} (hd : 50 ≤ d) (hK : 1 ≤ K) {Φ : slPost} {σ : slM} {x1 : Int} {c s N : Nat} {Z : abZ} (hX : isX c s Z σ) (hZ : gdZ N Z) (i1 : InR x1) (h : cA c s Z σ Φ (abOk (0 ≤ x1 ∧ x1 < 10) (abLamps Z.1 Z.2.1.1 x1))) :
    slCall G mX11_lamps d K [sR 11 0, sI x1] σ Φ := by
  refine vc_X11_lamps hG (by omega) hK (fun μ y2 y3 y4 y5 σ' => (0 ≤ x1 ∧ x1 < 10) ∧ cS c s Z σ σ' ∧ y2 = abCon Z.1 Z.2.1.1 x1 31 ∧ y3 = 2 ^ (Z.1 1 3).toNat - 1 ∧ μ = ((y3 - y5).toNat, 0, 0) ∧ (0 ≤ y5 ∧ y5 ≤ y3) ∧ y4 = abLp (fun x => sAnd (abCon Z.1 Z.2.1.1 x1 x) (abCon Z.1 Z.2.1.1 x1 31) = abCon Z.1 Z.2.1.1 x1 31) (2 ^ (Z.1 1 3).toNat - 1) y5.toNat) ?_ ?_
  · have a3 := hZ.c.2.2.2.1
    have p2 : (0 : Int) < 2 ^ (Z.1 1 3).toNat := Int.pow_pos (by omega)
    refine sp_X11_needNight hG (by omega) (by omega) i1 (fun q1 => slKt.ok ?_) (fun q => slKt.ex (Or.inl rfl) (h.no q cQ.id hX))
    refine sp_X11_settle hG (by omega) (by omega) hX hZ (fun τ f x t => slKt.ok ?_)
    rw [x.e4, x.e5]
    refine cs_con hG (by omega) hZ ⟨f, x, t⟩ q1 (slKt.ok ?_)
    rw [x.e4, x.cc.1, sShl_p (by omega) (by omega)]
    exact ⟨_, q1, ⟨f, x, t⟩, rfl, rfl, rfl, ⟨by omega, by omega⟩, rfl⟩
  · have a3 := hZ.c.2.2.2.1
    have p5 := abPow5 (n := (Z.1 1 3).toNat) (by omega)
    have p2 : (0 : Int) < 2 ^ (Z.1 1 3).toNat := Int.pow_pos (by omega)
    rintro μ y2 y3 y4 y5 σ' ⟨q1, m, rfl, rfl, rfl, hy, rfl⟩
    have r := abLp_r (p := fun x => sAnd (abCon Z.1 Z.2.1.1 x1 x) (abCon Z.1 Z.2.1.1 x1 31) = abCon Z.1 Z.2.1.1 x1 31) (all := 2 ^ (Z.1 1 3).toNat - 1) (n := y5.toNat)
    refine ⟨⟨⟨by omega, by omega⟩, by omega, by omega⟩, fun q => ?_, fun q => ?_⟩
    · have k := h.yes q1 m.1 m.2.1
      unfold abLamps at k
      rw [show y5 = 2 ^ (Z.1 1 3).toNat - 1 by omega]
      exact k
    · have lt : slLt ((2 ^ (Z.1 1 3).toNat - 1 - (y5 + 1)).toNat, 0, 0) ((2 ^ (Z.1 1 3).toNat - 1 - y5).toNat, 0, 0) := Or.inl (by show (2 ^ (Z.1 1 3).toNat - 1 - (y5 + 1)).toNat < (2 ^ (Z.1 1 3).toNat - 1 - y5).toNat; omega)
      have b1 := abPop_r (x := y5)
      refine sp_J6_bitCount_0f7a4 hG (by omega) (by omega) ⟨by omega, by omega⟩ (slKt.ok ?_)
      generalize hg : abLp (fun x => sAnd (abCon Z.1 Z.2.1.1 x1 x) (abCon Z.1 Z.2.1.1 x1 31) = abCon Z.1 Z.2.1.1 x1 31) (2 ^ (Z.1 1 3).toNat - 1) y5.toNat = y4 at r ⊢
      have b2 := abPop_r (x := y4)
      refine sp_J6_bitCount_0f7a4 hG (by omega) (by omega) ⟨by omega, by omega⟩ (slKt.ok ⟨⟨⟨by omega, by omega⟩, by omega, by omega⟩, fun z => ⟨_, lt, q1, m, rfl, rfl, rfl, ⟨by omega, by omega⟩, ?_⟩, fun z => ?_⟩)
      · rw [abLp_s hy.1, hg, abIf_f (fun w => by have := w.1; omega)]
      · rw [m.2.1.e4, m.2.1.e5]
        refine cs_con hG (by omega) hZ m q1 (slKt.ok ⟨⟨inAnd, ?_⟩, fun w => ⟨_, lt, q1, m, rfl, rfl, rfl, ⟨by omega, by omega⟩, ?_⟩, fun w => ⟨_, lt, q1, m, rfl, rfl, rfl, ⟨by omega, by omega⟩, ?_⟩⟩)
        · have := abCon_r (T := Z.2.1.1) (n := x1) (some := 31) hZ.c
          exact ⟨by omega, by omega⟩
        · rw [abLp_s hy.1, hg, abIf_f (fun v => w v.2)]
        · rw [abLp_s hy.1, hg, abIf_t ⟨by omega, w⟩]
set_option maxHeartbeats 1000000 in
set_option maxRecDepth 4000 in
theorem sp_X12_lamps {G : slG} (hG : slGood G) {d K : Nat} (hd : 50 ≤ d) (hK : 0 ≤ K) {Φ : slPost} {σ : slM} {x1 : Int} {N : Nat} {Z : abZ} (hY : isY Z σ) (hZ : gdZ N Z) (i1 : InR x1) (h : mA Z σ Φ (abOk (0 ≤ x1 ∧ x1 < 10) (abLamps Z.1 Z.2.1.1 x1))) :
    slCall G mX12_lamps d K [sR 12 0, sI x1] σ Φ := by
  refine vc_X12_lamps hG (by omega) hK (fun μ y2 y3 y4 y5 σ' => (0 ≤ x1 ∧ x1 < 10) ∧ mS Z σ σ' ∧ y2 = abFog Z.1 x1 ∧ y3 = abCon Z.1 Z.2.1.1 x1 31 ∧ μ = ((2 ^ (Z.1 1 3).toNat - y5).toNat, 0, 0) ∧ (0 ≤ y5 ∧ y5 ≤ 2 ^ (Z.1 1 3).toNat) ∧ (-1 ≤ y4 ∧ y4 < 2 ^ (Z.1 1 3).toNat) ∧ (y5 < 2 ^ (Z.1 1 3).toNat → (y4 = -1 → abLp (fun x => sAnd (abCon Z.1 Z.2.1.1 x1 x) (abCon Z.1 Z.2.1.1 x1 31) = abCon Z.1 Z.2.1.1 x1 31) (2 ^ (Z.1 1 3).toNat - 1) y5.toNat = 2 ^ (Z.1 1 3).toNat - 1) ∧ (¬ y4 = -1 → y4 < y5 ∧ y4 = abLp (fun x => sAnd (abCon Z.1 Z.2.1.1 x1 x) (abCon Z.1 Z.2.1.1 x1 31) = abCon Z.1 Z.2.1.1 x1 31) (2 ^ (Z.1 1 3).toNat - 1) y5.toNat)) ∧ (y5 = 2 ^ (Z.1 1 3).toNat → y4 = abLamps Z.1 Z.2.1.1 x1)) ?_ ?_
  · have y0 := hY.z
    have p2 : (0 : Int) < 2 ^ (Z.1 1 3).toNat := Int.pow_pos (by omega)
    refine sp_X12_isNight hG (by omega) (by omega) i1 (slU_same _ _ _ _ _) (fun q1 => slKt.ok ⟨in1, fun _ => ?_, fun z => absurd z (by decide)⟩) (fun q => slKt.ok ⟨in0, fun z => absurd rfl z, fun _ => h.no q mQ.id.t0 y0⟩)
    refine ms_now hG (by omega) y0 hZ mQ.id.t0 (slU_same _ _ _ _ _) (fun τ m => slKt.ok ?_)
    refine sp_X12_fogIn hG (by omega) (by omega) m.2.1.1 hZ.c ⟨by omega, by omega⟩ (slKt.ok ?_)
    exact ms_con hG (by omega) hZ m q1 rfl (slKt.ok ⟨_, q1, m, rfl, rfl, rfl, ⟨by omega, by omega⟩, ⟨by omega, by omega⟩, fun _ => ⟨fun _ => rfl, fun z => absurd rfl z⟩, fun z => by omega⟩)
  · have a3 := hZ.c.2.2.2.1
    have p5 := abPow5 (n := (Z.1 1 3).toNat) (by omega)
    have p2 : (0 : Int) < 2 ^ (Z.1 1 3).toNat := Int.pow_pos (by omega)
    rintro μ y2 y3 y4 y5 σ' ⟨q1, m, rfl, rfl, rfl, hy, hy4, k1, k2⟩
    have Lp : ∀ y : Int, y = 2 ^ (Z.1 1 3).toNat - 1 → abLamps Z.1 Z.2.1.1 x1 = abLp (fun x => sAnd (abCon Z.1 Z.2.1.1 x1 x) (abCon Z.1 Z.2.1.1 x1 31) = abCon Z.1 Z.2.1.1 x1 31) (2 ^ (Z.1 1 3).toNat - 1) y.toNat := fun y e => by rw [e]; rfl
    have cr := abCon_r (T := Z.2.1.1) (n := x1) (some := 31) hZ.c
    have good : ∀ y : Int, y = 2 ^ (Z.1 1 3).toNat - 1 → sAnd (abCon Z.1 Z.2.1.1 x1 y) (abCon Z.1 Z.2.1.1 x1 31) = abCon Z.1 Z.2.1.1 x1 31 := fun y e => by
      rw [e, abCon_all hZ.c, sAnd_self cr.1 cr.2]
    rw [m.2.1.1.1.2.2.2.1, sShl_p (by omega) (by omega)]
    refine ⟨⟨⟨by omega, by omega⟩, by omega, by omega⟩, fun q => ?_, fun q => ⟨⟨by omega, by omega⟩, fun e => ?_, fun e => ?_⟩⟩
    · have k := h.yes q1 m.1 m.2.1 m.2.2.1
      rw [k2 (by omega)]
      exact k
    all_goals have lt : slLt ((2 ^ (Z.1 1 3).toNat - (y5 + 1)).toNat, 0, 0) ((2 ^ (Z.1 1 3).toNat - y5).toNat, 0, 0) := Or.inl (by show (2 ^ (Z.1 1 3).toNat - (y5 + 1)).toNat < (2 ^ (Z.1 1 3).toNat - y5).toNat; omega)
    · have k3 := (k1 (by omega)).1 e
      refine ms_con hG (by omega) hZ m q1 rfl (slKt.ok ⟨⟨inAnd, by omega, by omega⟩, fun w => ⟨_, lt, q1, m, rfl, rfl, rfl, ⟨by omega, by omega⟩, hy4, fun z => ⟨fun _ => ?_, fun z => absurd e z⟩, fun z => absurd (good y5 (by omega)) w⟩, fun w => ⟨_, lt, q1, m, rfl, rfl, rfl, ⟨by omega, by omega⟩, ⟨by omega, by omega⟩, fun z => ⟨fun e => by omega, fun _ => ⟨by omega, ?_⟩⟩, fun z => ?_⟩⟩)
      · rw [abLp_s hy.1, abIf_f (fun v => w v.2)]; exact k3
      · rw [abLp_s hy.1, k3, abIf_t ⟨abPop_all (by omega) hy.1 (by omega), w⟩]
      · rw [Lp y5 (by omega), k3]; omega
    · have k3 := (k1 (by omega)).2 e
      have b1 := abPop_r (x := y5)
      have b2 := abPop_r (x := y4)
      refine sp_X12_bits hG (by omega) (by omega) ⟨by omega, by omega⟩ (slKt.ok ?_)
      refine sp_X12_bits hG (by omega) (by omega) ⟨by omega, by omega⟩ (slKt.ok ⟨⟨⟨by omega, by omega⟩, by omega, by omega⟩, fun z => ⟨_, lt, q1, m, rfl, rfl, rfl, ⟨by omega, by omega⟩, hy4, fun w => ⟨fun w => absurd w e, fun _ => ⟨by omega, ?_⟩⟩, fun w => ?_⟩, fun z => ?_⟩)
      · rw [abLp_s hy.1, ← k3.2, abIf_f (fun v => by have := v.1; omega)]
      · rw [Lp y5 (by omega)]; exact k3.2
      · have nall : ¬ y5 = 2 ^ (Z.1 1 3).toNat - 1 := fun w => by
          have := abPop_all (n := (Z.1 1 3).toNat) (m := y4) (by omega) (by omega) (by omega)
          rw [← w] at this
          omega
        refine ms_con hG (by omega) hZ m q1 rfl (slKt.ok ⟨⟨inAnd, by omega, by omega⟩, fun w => ⟨_, lt, q1, m, rfl, rfl, rfl, ⟨by omega, by omega⟩, hy4, fun _ => ⟨fun v => absurd v e, fun _ => ⟨by omega, ?_⟩⟩, fun v => by omega⟩, fun w => ⟨_, lt, q1, m, rfl, rfl, rfl, ⟨by omega, by omega⟩, ⟨by omega, by omega⟩, fun _ => ⟨fun v => by omega, fun _ => ⟨by omega, ?_⟩⟩, fun v => by omega⟩⟩)
        · rw [abLp_s hy.1, ← k3.2, abIf_f (fun v => w v.2)]
        · rw [abLp_s hy.1, ← k3.2, abIf_t ⟨by omega, w⟩]
/-! who -/
def abRst (r : Int) : Nat → Int
  | 0 => r
  | n + 1 => abRst r n / 3
theorem abRst_s {r y : Int} (h : 0 ≤ y) : abRst r (y + 1).toNat = abRst r y.toNat / 3 := by
  rw [show (y + 1).toNat = y.toNat + 1 by omega]
  rfl
theorem abRst_r {r : Int} (h : 0 ≤ r) : ∀ {n : Nat}, 0 ≤ abRst r n ∧ abRst r n ≤ r
  | 0 => ⟨h, Int.le_refl _⟩
  | n + 1 => by
    have a := abRst_r h (n := n)
    show 0 ≤ abRst r n / 3 ∧ abRst r n / 3 ≤ r
    omega
def abHisP (P : abP) (l fr r i : Int) : Prop := abRst r i.toNat % 3 = 2 ∨ abRst r i.toNat % 3 = abBit (P 31 l.toNat) ((fr + i) % P 30 l.toNat)
def abHis (P : abP) (l fr r n : Int) : Prop := ∀ i : Int, 0 ≤ i → i < n → abHisP P l fr r i
set_option maxHeartbeats 1000000 in
set_option maxRecDepth 4000 in
theorem sp_X1_flashesFrom {G : slG} (hG : slGood G) {d K : Nat} (hd : 1 ≤ d) (hK : 0 ≤ K) {Φ : slPost} {σ : slM} {i0 : Nat} {x1 : Int} {x2 : Int} {x3 : Int} {x4 : Int} {P : abP} (hP : isC i0 P σ) (hC : gdC P) (h1 : 0 ≤ x1 ∧ x1 < P 1 3) (h2 : 0 ≤ x2 ∧ x2 < 100) (h3 : 0 ≤ x3 ∧ x3 < 1000000) (h4 : 0 ≤ x4 ∧ x4 ≤ 12) (h : Φ (0, abIf (abHis P x1 x2 x3 x4) 1 0) σ) :
    slCall G mX1_flashesFrom d K [sR 1 i0, sI x1, sI x2, sI x3, sI x4] σ Φ := by
  refine vc_X1_flashesFrom hG (by omega) hK (fun μ y5 y6 σ' => σ' = σ ∧ μ = ((x4 - y6).toNat, 0, 0) ∧ (0 ≤ y6 ∧ y6 ≤ x4) ∧ y5 = abRst x3 y6.toNat ∧ ∀ i : Int, 0 ≤ i → i < y6 → abHisP P x1 x2 x3 i) ?_ ?_
  · exact ⟨_, rfl, rfl, ⟨by omega, by omega⟩, rfl, fun i a b => by omega⟩
  · have a3 := hC.2.2.2.1
    have g := hC.2.2.2.2.2.2.2.2.1 x1 h1.1 h1.2
    obtain ⟨p1, p23, p24, p25, p26, p27, p28, p29, p30, p31, -⟩ := hP
    rintro μ y5 y6 σ' ⟨rfl, rfl, hy, rfl, al⟩
    have rr := abRst_r h3.1 (n := y6.toNat)
    have md := ab_mod (a := x2 + y6) (b := P 30 x1.toNat) (by omega)
    have m3 := ab_mod (a := abRst x3 y6.toNat) (b := 3) (by decide)
    have s31 : P 31 x1.toNat < 64 := by
      have e := Nat.pow_le_pow_right (n := 2) (by decide) (show (P 30 x1.toNat).toNat ≤ 6 by omega)
      have e2 : ((2 ^ (P 30 x1.toNat).toNat : Nat) : Int) ≤ ((2 ^ 6 : Nat) : Int) := by exact_mod_cast e
      push_cast at e2
      omega
    refine ⟨⟨⟨by omega, by omega⟩, by omega, by omega⟩, fun q => ?_, fun q => ⟨⟨by omega, by omega⟩, ⟨by omega, by omega⟩, ?_⟩⟩
    · rw [abIf_t (show abHis P x1 x2 x3 x4 from fun i a b => al i a (by omega))] at h
      exact h
    · rw [p30, p31]
      refine sp_X11_remainder hG (by omega) (by omega) ⟨by omega, by omega⟩ ⟨by omega, by omega⟩ (slKn.ok ?_)
      rw [sRem_eq rr.1 (by omega) (by decide) (by decide), sDiv_eq rr.1 (by omega) (by decide) (by decide), sBit g.2.2.2.2.1.1 (by omega) md.1 (by omega)]
      have b := abBit01 (P 31 x1.toNat) ((x2 + y6) % P 30 x1.toNat)
      have lt : slLt ((x4 - (y6 + 1)).toNat, 0, 0) ((x4 - y6).toNat, 0, 0) := Or.inl (by show (x4 - (y6 + 1)).toNat < (x4 - y6).toNat; omega)
      have nx : abHisP P x1 x2 x3 y6 → ∀ i : Int, 0 ≤ i → i < y6 + 1 → abHisP P x1 x2 x3 i := fun e i a b => by
        by_cases z : i = y6
        · rw [z]; exact e
        · exact al i a (by omega)
      refine ⟨⟨by omega, by omega⟩, fun z => ⟨_, lt, rfl, rfl, ⟨by omega, by omega⟩, (abRst_s hy.1).symm, nx (Or.inl z)⟩, fun z => ⟨⟨⟨by omega, by omega⟩, by omega, by omega⟩, fun w => ⟨_, lt, rfl, rfl, ⟨by omega, by omega⟩, (abRst_s hy.1).symm, nx (Or.inr w)⟩, fun w => ?_⟩⟩
      rw [abIf_f (fun v => (v y6 hy.1 (by omega)).elim z w)] at h
      exact h
set_option maxHeartbeats 1000000 in
set_option maxRecDepth 4000 in
theorem sp_X1_mayFlash {G : slG} (hG : slGood G) {d K : Nat} (hd : 2 ≤ d) (hK : 0 ≤ K) {Φ : slPost} {σ : slM} {i0 : Nat} {x1 : Int} {x2 : Int} {x3 : Int} {P : abP} (hP : isC i0 P σ) (hC : gdC P) (h1 : 0 ≤ x1 ∧ x1 < P 1 3) (h2 : 0 ≤ x2 ∧ x2 < 1000000) (h3 : 0 ≤ x3 ∧ x3 ≤ 12) (h : Φ (0, abIf (∃ k : Int, 0 ≤ k ∧ k < P 30 x1.toNat ∧ abHis P x1 k x2 x3) 1 0) σ) :
    slCall G mX1_mayFlash d K [sR 1 i0, sI x1, sI x2, sI x3] σ Φ := by
  refine vc_X1_mayFlash hG (by omega) hK (fun μ y4 σ' => σ' = σ ∧ μ = ((P 30 x1.toNat - y4).toNat, 0, 0) ∧ (0 ≤ y4 ∧ y4 ≤ P 30 x1.toNat) ∧ ∀ k : Int, 0 ≤ k → k < y4 → ¬ abHis P x1 k x2 x3) ?_ ?_
  · have g := hC.2.2.2.2.2.2.2.2.1 x1 h1.1 h1.2
    exact ⟨_, rfl, rfl, ⟨by omega, by omega⟩, fun i a b => by omega⟩
  · have a3 := hC.2.2.2.1
    have g := hC.2.2.2.2.2.2.2.2.1 x1 h1.1 h1.2
    have hP0 := hP
    obtain ⟨p1, p23, p24, p25, p26, p27, p28, p29, p30, p31, -⟩ := hP
    rintro μ y4 σ' ⟨rfl, rfl, hy, al⟩
    rw [p30]
    refine ⟨⟨by omega, by omega⟩, ⟨⟨by omega, by omega⟩, by omega, by omega⟩, fun q => ?_, fun q => ?_⟩
    · rw [abIf_f (fun z => by obtain ⟨k, a, b, c⟩ := z; exact al k a (by omega) c)] at h
      exact h
    · refine sp_X1_flashesFrom hG (by omega) (by omega) hP0 hC h1 ⟨by omega, by omega⟩ h2 h3 (slKt.ok ⟨in01, fun z => ⟨_, Or.inl (by show (P 30 x1.toNat - (y4 + 1)).toNat < (P 30 x1.toNat - y4).toNat; omega), rfl, rfl, ⟨by omega, by omega⟩, fun k a b => ?_⟩, fun z => ?_⟩)
      · by_cases e : k = y4
        · rw [e]; exact abIf_z z
        · exact al k a (by omega)
      · rw [abIf_t ⟨y4, hy.1, by omega, abIf_nz z⟩] at h
        exact h
set_option maxHeartbeats 1000000 in
set_option maxRecDepth 4000 in
theorem sp_X12_isHis {G : slG} (hG : slGood G) {d K : Nat} (hd : 0 ≤ d) (hK : 0 ≤ K) {Φ : slPost} {σ : slM} {x1 : Int} {x2 : Int} {x3 : Int} {x4 : Int} {P : abP} (hM : isM P σ) (hC : gdC P) (h1 : 0 ≤ x1 ∧ x1 < P 1 3) (h2 : 0 ≤ x2 ∧ x2 < 100) (h3 : 0 ≤ x3 ∧ x3 < 1000000) (h4 : 0 ≤ x4 ∧ x4 ≤ 12) (h : Φ (0, abIf (abHis P x1 x2 x3 x4) 1 0) σ) :
    slCall G mX12_isHis d K [sR 12 0, sI x1, sI x2, sI x3, sI x4] σ Φ := by
  refine vc_X12_isHis hG (by omega) hK (fun μ y5 y6 σ' => σ' = σ ∧ μ = ((x4 - y6).toNat, 0, 0) ∧ (0 ≤ y6 ∧ y6 ≤ x4) ∧ y5 = abRst x3 y6.toNat ∧ ∀ i : Int, 0 ≤ i → i < y6 → abHisP P x1 x2 x3 i) ?_ ?_
  · exact ⟨_, rfl, rfl, ⟨by omega, by omega⟩, rfl, fun i a b => by omega⟩
  · have a3 := hC.2.2.2.1
    have g := hC.2.2.2.2.2.2.2.2.1 x1 h1.1 h1.2
    have mm := hM.2.2.1 x1 h1.1 h1.2
    rintro μ y5 y6 σ' ⟨rfl, rfl, hy, rfl, al⟩
    have rr := abRst_r h3.1 (n := y6.toNat)
    have md := ab_mod (a := x2 + y6) (b := P 30 x1.toNat) (by omega)
    have m3 := ab_mod (a := abRst x3 y6.toNat) (b := 3) (by decide)
    rw [mm.2.2.2.1, sRem_eq rr.1 (by omega) (by decide) (by decide), sDiv_eq rr.1 (by omega) (by decide) (by decide), sRem_eq (a := x2 + y6) (by omega) (by omega) (by omega) (by omega), mm.2.2.2.2.2 _ md.1 md.2]
    have b := abBit01 (P 31 x1.toNat) ((x2 + y6) % P 30 x1.toNat)
    have lt : ¬ x4 ≤ y6 → slLt ((x4 - (y6 + 1)).toNat, 0, 0) ((x4 - y6).toNat, 0, 0) := fun q => Or.inl (by show (x4 - (y6 + 1)).toNat < (x4 - y6).toNat; omega)
    have nx : abHisP P x1 x2 x3 y6 → ∀ i : Int, 0 ≤ i → i < y6 + 1 → abHisP P x1 x2 x3 i := fun e i a b => by
      by_cases z : i = y6
      · rw [z]; exact e
      · exact al i a (by omega)
    refine ⟨⟨⟨by omega, by omega⟩, by omega, by omega⟩, fun q => ?_, fun q => ⟨⟨by omega, by omega⟩, fun z => ⟨_, lt q, rfl, rfl, ⟨by omega, by omega⟩, (abRst_s hy.1).symm, nx (Or.inl z)⟩, fun z => ⟨⟨by omega, by omega⟩, ⟨⟨by omega, by omega⟩, by omega⟩, ⟨by omega, by omega⟩, ⟨⟨by omega, by omega⟩, by omega, by omega⟩, fun w => ⟨_, lt q, rfl, rfl, ⟨by omega, by omega⟩, (abRst_s hy.1).symm, nx (Or.inr w)⟩, fun w => ?_⟩⟩⟩
    · rw [abIf_t (show abHis P x1 x2 x3 x4 from fun i a b => al i a (by omega))] at h
      exact h
    · rw [abIf_f (fun v => (v y6 hy.1 (by omega)).elim z w)] at h
      exact h
def abFlP (P : abP) (r n l : Int) : Prop := ∃ k : Int, 0 ≤ k ∧ k < P 30 l.toNat ∧ abHis P l k r n
noncomputable def abWho (P : abP) (r n : Int) : Int := abMask (abFlP P r n) (P 1 3).toNat
theorem ab3 {n : Nat} (h : n ≤ 12) : (1 : Int) ≤ 3 ^ n ∧ (3 : Int) ^ n ≤ 531441 := (by decide : ∀ n, n ≤ 12 → (1 : Int) ≤ 3 ^ n ∧ (3 : Int) ^ n ≤ 531441) n h
theorem ab3_s {y : Int} (h : 0 ≤ y) : (3 : Int) ^ (y + 1).toNat = 3 ^ y.toNat * 3 := by
  rw [show (y + 1).toNat = y.toNat + 1 by omega, Int.pow_succ]
def whoP (r n : Int) : Prop := (1 ≤ n ∧ n ≤ 12) ∧ 0 ≤ r ∧ r < 3 ^ n.toNat
set_option maxHeartbeats 1000000 in
set_option maxRecDepth 4000 in
theorem sp_X11_who {G : slG} (hG : slGood G) {d K : Nat} (hd : 50 ≤ d) (hK : 1 ≤ K) {Φ : slPost} {σ : slM} {x1 : Int} {x2 : Int} {c s N : Nat} {Z : abZ} (hX : isX c s Z σ) (hZ : gdZ N Z) (i1 : InR x1) (i2 : InR x2) (h0 : ¬ whoP x1 x2 → Φ (2, 0) σ) (h : whoP x1 x2 → Φ (0, abWho Z.1 x1 x2) σ) :
    slCall G mX11_who d K [sR 11 0, sI x1, sI x2] σ Φ := by
  refine vc_X11_who hG (by omega) hK (fun μ y3 y4 σ' => σ' = σ ∧ μ = (100, (x2 - y4).toNat, 0) ∧ (1 ≤ x2 ∧ x2 ≤ 12) ∧ 0 ≤ x1 ∧ (0 ≤ y4 ∧ y4 ≤ x2) ∧ y3 = 3 ^ y4.toNat) (fun μ y3 y4 y5 σ' => σ' = σ ∧ μ = (0, (Z.1 1 3 - y5).toNat, 0) ∧ whoP x1 x2 ∧ (0 ≤ y5 ∧ y5 ≤ Z.1 1 3) ∧ y4 = abMask (abFlP Z.1 x1 x2) y5.toNat) ?_ ?_ ?_
  · unfold whoP at h0
    exact ⟨i2, fun q => h0 (by omega), fun q => ⟨i2, fun q2 => h0 (by omega), fun q2 => ⟨i1, fun q3 => ⟨_, rfl, rfl, ⟨by omega, by omega⟩, q3, ⟨by omega, by omega⟩, rfl⟩, fun q3 => h0 (by omega)⟩⟩⟩
  · have a3 := hZ.c.2.2.2.1
    rintro μ y3 y4 σ' ⟨rfl, rfl, r2, r1, hy, rfl⟩
    have t := ab3 (n := y4.toNat) (by omega)
    refine ⟨⟨⟨by omega, by omega⟩, i2⟩, fun q => ⟨⟨i1, by omega, by omega⟩, fun q2 => ⟨(0, (Z.1 1 3 - 0).toNat, 0), Or.inl (by decide : 0 < 100), rfl, rfl, ⟨r2, r1, by rw [show x2 = y4 by omega]; exact q2⟩, ⟨by omega, by omega⟩, rfl⟩, fun q2 => h0 (fun z => ?_)⟩, fun q => ⟨(100, (x2 - (y4 + 1)).toNat, 0), Or.inr ⟨rfl, Or.inl (by show (x2 - (y4 + 1)).toNat < (x2 - y4).toNat; omega)⟩, rfl, rfl, r2, r1, ⟨by omega, by omega⟩, (ab3_s hy.1).symm⟩⟩
    have z3 := z.2.2
    rw [show x2 = y4 by omega] at z3
    exact q2 z3
  · have a3 := hZ.c.2.2.2.1
    rintro μ y3 y4 y5 σ' ⟨rfl, rfl, w, hy, rfl⟩
    have t := ab3 (n := x2.toNat) (by have := w.1; omega)
    have w1 := w.1
    have w2 := w.2
    rw [hX.e4, hX.cc.1]
    refine ⟨⟨⟨by omega, by omega⟩, by omega, by omega⟩, fun q => ?_, fun q => ?_⟩
    · rw [show y5.toNat = (Z.1 1 3).toNat by omega]
      exact h w
    · refine sp_X1_mayFlash hG (by omega) (by omega) hX.cc hZ.c ⟨by omega, by omega⟩ ⟨by omega, by omega⟩ ⟨by omega, by omega⟩ (slKt.ok ⟨in01, fun z => ⟨(0, (Z.1 1 3 - (y5 + 1)).toNat, 0), Or.inr ⟨rfl, Or.inl (by show (Z.1 1 3 - (y5 + 1)).toNat < (Z.1 1 3 - y5).toNat; omega)⟩, rfl, rfl, w, ⟨by omega, by omega⟩, ?_⟩, fun z => ⟨(0, (Z.1 1 3 - (y5 + 1)).toNat, 0), Or.inr ⟨rfl, Or.inl (by show (Z.1 1 3 - (y5 + 1)).toNat < (Z.1 1 3 - y5).toNat; omega)⟩, rfl, rfl, w, ⟨by omega, by omega⟩, ?_⟩⟩)
      · rw [abMask_s hy.1, abIf_f (show ¬ abFlP Z.1 x1 x2 y5 from abIf_z z), Int.add_zero]
      · rw [abMask_s hy.1, abMask_or hy.1 (by omega), abIf_t (show abFlP Z.1 x1 x2 y5 from abIf_nz z)]
theorem sOrBit2 : ∀ n, n < 8 → ∀ m, m < 2 ^ n → sOr ((m : Nat) + 2 ^ n) (sShl 1 ((n : Nat) : Int)) = (m : Int) + 2 ^ n := by decide +kernel
theorem abMask_or2 {f : Int → Prop} {y : Int} (h : 0 ≤ y) (h8 : y < 8) : sOr (abMask f y.toNat + 2 ^ y.toNat) (sShl 1 y) = abMask f y.toNat + 2 ^ y.toNat := by
  obtain ⟨n, rfl⟩ := Int.eq_ofNat_of_zero_le h
  obtain ⟨m, e⟩ := Int.eq_ofNat_of_zero_le (abMask_r (f := f) (n := n)).1
  have q := (abMask_r (f := f) (n := n)).2
  rw [Int.toNat_natCast, e]
  rw [e] at q
  exact sOrBit2 n (by omega) m (by exact_mod_cast q)
set_option maxHeartbeats 1000000 in
set_option maxRecDepth 4000 in
theorem sp_X12_who {G : slG} (hG : slGood G) {d K : Nat} (hd : 50 ≤ d) (hK : 0 ≤ K) {Φ : slPost} {σ : slM} {x1 : Int} {x2 : Int} {N : Nat} {Z : abZ} (hY : isY Z σ) (hZ : gdZ N Z) (i1 : InR x1) (i2 : InR x2) (h : mA Z σ Φ (abOk (whoP x1 x2) (abWho Z.1 x1 x2))) :
    slCall G mX12_who d K [sR 12 0, sI x1, sI x2] σ Φ := by
  refine vc_X12_who hG (by omega) hK (fun μ y3 y4 σ' => mQ σ σ' ∧ isY Z σ' ∧ σ' 12 0 0 = 0 ∧ μ = (100, (x2 - y4).toNat, 0) ∧ (1 ≤ x2 ∧ x2 ≤ 12) ∧ (0 ≤ y4 ∧ y4 ≤ x2) ∧ y3 = 3 ^ y4.toNat) (fun μ y3 y4 y5 σ' => mQ σ σ' ∧ isY Z σ' ∧ σ' 12 0 0 = 0 ∧ μ = (0, (Z.1 1 3 - y5).toNat, 100) ∧ whoP x1 x2 ∧ (0 ≤ y5 ∧ y5 ≤ Z.1 1 3) ∧ y4 = abMask (abFlP Z.1 x1 x2) y5.toNat) (fun μ y3 y4 y5 y6 σ' => mQ σ σ' ∧ isY Z σ' ∧ σ' 12 0 0 = 0 ∧ μ = (0, (Z.1 1 3 - y5).toNat, (Z.1 30 y5.toNat - y6).toNat) ∧ whoP x1 x2 ∧ (0 ≤ y5 ∧ y5 < Z.1 1 3) ∧ (0 ≤ y6 ∧ y6 ≤ Z.1 30 y5.toNat) ∧ y4 = abMask (abFlP Z.1 x1 x2) y5.toNat + abIf (∃ k : Int, 0 ≤ k ∧ k < y6 ∧ abHis Z.1 y5 k x1 x2) (2 ^ y5.toNat) 0) ?_ ?_ ?_ ?_
  · have y0 := hY.z
    refine sp_X12_within hG (by omega) (by omega) i2 ⟨by decide, by decide⟩ ⟨by decide, by decide⟩ (slKt.ok ?_)
    refine sp_X12_right hG (by omega) (by omega) (slU_same _ _ _ _ _) in01 ⟨by decide, by decide⟩ (by decide) (fun z => slKt.ok ⟨in1, fun _ => ?_, fun q => absurd q (by decide)⟩) (fun z => slKt.ok ⟨in0, fun q => absurd rfl q, fun _ => h.no (fun w => abIf_z z w.1) mQ.id.t0 y0⟩)
    have r := abIf_nz z
    exact ⟨_, mQ.id.t0, y0, slU_same _ _ _ _ _, rfl, r, ⟨by omega, by omega⟩, rfl⟩
  · have a3 := hZ.c.2.2.2.1
    rintro μ y3 y4 σ' ⟨f, Y, e0, rfl, r2, hy, rfl⟩
    have t := ab3 (n := y4.toNat) (by omega)
    refine ⟨⟨⟨by omega, by omega⟩, i2⟩, fun q => ⟨i1, fun q2 => ?_, fun q2 => ⟨⟨i1, by omega, by omega⟩, ?_⟩⟩, fun q => ⟨(100, (x2 - (y4 + 1)).toNat, 0), Or.inr ⟨rfl, Or.inl (by show (x2 - (y4 + 1)).toNat < (x2 - y4).toNat; omega)⟩, f, Y, e0, rfl, r2, ⟨by omega, by omega⟩, (ab3_s hy.1).symm⟩⟩
    · refine sp_X12_right hG (by omega) (by omega) e0 in0 ⟨by decide, by decide⟩ (by decide) (fun z => absurd rfl z) (fun _ => slKt.ok ⟨in0, fun z => absurd rfl z, fun _ => h.no (fun w => by have := w.2.1; omega) f Y⟩)
    · refine sp_X12_right hG (by omega) (by omega) e0 ?_ ⟨by decide, by decide⟩ (by decide) (fun z => slKt.ok ⟨in1, fun _ => ⟨(0, (Z.1 1 3 - 0).toNat, 100), Or.inl (by decide : 0 < 100), f, Y, e0, rfl, ⟨r2, by omega, ?_⟩, ⟨by omega, by omega⟩, rfl⟩, fun q => absurd q (by decide)⟩) (fun z => slKt.ok ⟨in0, fun q => absurd rfl q, fun _ => h.no (fun w => ?_) f Y⟩)
      · split <;> exact ⟨by decide, by decide⟩
      · by_cases v : (3 : Int) ^ y4.toNat ≤ x1
        · rw [if_pos v] at z; exact absurd rfl z
        · rw [show x2 = y4 by omega]; omega
      · have w3 := w.2.2
        rw [show x2 = y4 by omega] at w3
        rw [if_neg (by omega)] at z
        exact absurd z (by decide)
  · have a3 := hZ.c.2.2.2.1
    rintro μ y3 y4 y5 σ' ⟨f, Y, e0, rfl, w, hy, rfl⟩
    rw [Y.1.1.2.2.2.1]
    refine ⟨⟨⟨by omega, by omega⟩, by omega, by omega⟩, fun q => ?_, fun q => ⟨(0, (Z.1 1 3 - y5).toNat, (Z.1 30 y5.toNat - 0).toNat), Or.inr ⟨rfl, Or.inr ⟨rfl, ?_⟩⟩, f, Y, e0, rfl, w, ⟨by omega, by omega⟩, ⟨by omega, ?_⟩, ?_⟩⟩
    · rw [show y5.toNat = (Z.1 1 3).toNat by omega]
      exact h.yes w f Y e0
    all_goals have g := hZ.c.2.2.2.2.2.2.2.2.1 y5 hy.1 (by omega)
    · show (Z.1 30 y5.toNat - 0).toNat < 100
      omega
    · omega
    · rw [abIf_f (fun z => by obtain ⟨k, a, b, c⟩ := z; omega), Int.add_zero]
  · have a3 := hZ.c.2.2.2.1
    rintro μ y3 y4 y5 y6 σ' ⟨f, Y, e0, rfl, w, hy, hy6, rfl⟩
    have g := hZ.c.2.2.2.2.2.2.2.2.1 y5 hy.1 hy.2
    have t := ab3 (n := x2.toNat) (by have := w.1; omega)
    have w1 := w.1
    have w2 := w.2
    rw [(Y.1.2.2.1 y5 hy.1 hy.2).2.2.2.1]
    refine ⟨⟨by omega, by omega⟩, ⟨⟨by omega, by omega⟩, by omega, by omega⟩, fun q => ⟨(0, (Z.1 1 3 - (y5 + 1)).toNat, 100), Or.inr ⟨rfl, Or.inl (by show (Z.1 1 3 - (y5 + 1)).toNat < (Z.1 1 3 - y5).toNat; omega)⟩, f, Y, e0, rfl, w, ⟨by omega, by omega⟩, ?_⟩, fun q => ?_⟩
    · rw [abMask_s hy.1]
      congr 1
      refine abIf_c ⟨fun z => ?_, fun z => ?_⟩
      · obtain ⟨k, a, b, c⟩ := z; exact ⟨k, a, by omega, c⟩
      · obtain ⟨k, a, b, c⟩ := z; exact ⟨k, a, by omega, c⟩
    · have lt : slLt (0, (Z.1 1 3 - y5).toNat, (Z.1 30 y5.toNat - (y6 + 1)).toNat) (0, (Z.1 1 3 - y5).toNat, (Z.1 30 y5.toNat - y6).toNat) := Or.inr ⟨rfl, Or.inr ⟨rfl, by show (Z.1 30 y5.toNat - (y6 + 1)).toNat < (Z.1 30 y5.toNat - y6).toNat; omega⟩⟩
      have r := abMask_r (f := abFlP Z.1 x1 x2) (n := y5.toNat)
      have p5 := abPow5 (n := y5.toNat) (by omega)
      refine sp_X12_isHis hG (by omega) (by omega) Y.1 hZ.c hy ⟨by omega, by omega⟩ ⟨by omega, by omega⟩ ⟨by omega, by omega⟩ (slKt.ok ⟨in01, fun z => ⟨_, lt, f, Y, e0, rfl, w, hy, ⟨by omega, by omega⟩, ?_⟩, fun z => ⟨_, lt, f, Y, e0, rfl, w, hy, ⟨by omega, by omega⟩, ?_⟩⟩)
      · have nz := abIf_z z
        rw [abIf_c (q := ∃ k : Int, 0 ≤ k ∧ k < y6 ∧ abHis Z.1 y5 k x1 x2) (p := ∃ k : Int, 0 ≤ k ∧ k < y6 + 1 ∧ abHis Z.1 y5 k x1 x2) ⟨fun v => ?_, fun v => ?_⟩]
        · by_cases v : ∃ k : Int, 0 ≤ k ∧ k < y6 ∧ abHis Z.1 y5 k x1 x2
          · rw [abIf_t v]; exact sOr_z (by omega) (by omega)
          · rw [abIf_f v]; exact sOr_z (by omega) (by omega)
        · obtain ⟨k, a, b, c⟩ := v
          by_cases e : k = y6
          · rw [e] at c; exact absurd c nz
          · exact ⟨k, a, by omega, c⟩
        · obtain ⟨k, a, b, c⟩ := v; exact ⟨k, a, by omega, c⟩
      · rw [abIf_t (p := ∃ k : Int, 0 ≤ k ∧ k < y6 + 1 ∧ abHis Z.1 y5 k x1 x2) ⟨y6, hy6.1, by omega, abIf_nz z⟩]
        by_cases v : ∃ k : Int, 0 ≤ k ∧ k < y6 ∧ abHis Z.1 y5 k x1 x2
        · rw [abIf_t v]; exact abMask_or2 hy.1 (by omega)
        · rw [abIf_f v, Int.add_zero]; exact abMask_or hy.1 (by omega)
