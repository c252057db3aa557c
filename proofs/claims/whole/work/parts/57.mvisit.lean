/-! ===== matchings in the model: all of them counted ===== -/
def mtV (Z : abZ) (m : Int → Int) : Prop := ∀ l o : Int, 0 ≤ l → l < Z.1 1 3 → 0 ≤ o → o < l → m l ≠ -1 → m o ≠ m l
def mtT (Z : abZ) (h : Int) (m : Int → Int) : Prop := ∀ l s : Int, 0 ≤ l → l < Z.1 1 3 → 0 ≤ s → s < Z.1 1 4 → m l ≠ s → mtLR Z h l s (m l) → ∃ o : Int, 0 ≤ o ∧ o < Z.1 1 3 ∧ m o = s ∧ ¬ abSr Z h s l o
theorem mtV.inj {Z : abZ} {m : Int → Int} (v : mtV Z m) {a b : Int} (ha : 0 ≤ a ∧ a < Z.1 1 3) (hb : 0 ≤ b ∧ b < Z.1 1 3) (e : m a = m b) (n : m a ≠ -1) : a = b := by
  by_cases z : a < b
  · exact absurd e (v b a hb.1 hb.2 ha.1 z (by rw [← e]; exact n))
  · by_cases y : b < a
    · exact absurd e.symm (v a b ha.1 ha.2 hb.1 y n)
    · omega
theorem mt_iff {Z : abZ} {h : Int} {m : Int → Int} (hr : ∀ l : Int, 0 ≤ l → l < Z.1 1 3 → -1 ≤ m l ∧ m l < Z.1 1 4) : (mtV Z m ∧ mtT Z h m) ↔ ((∀ k : Int, 0 ≤ k → k < Z.1 1 3 → mtF k m (m k) ∧ mtQ Z h k m) ∧ mtN Z h m) := by
  constructor
  · rintro ⟨v, t⟩
    have key : ∀ a b : Int, 0 ≤ a → a < Z.1 1 3 → 0 ≤ b → b < Z.1 1 3 → a ≠ b → ¬ mtW Z h m a b := fun a b a0 a1 b0 b1 ne w => by
      have r := hr b b0 b1
      have n1 : m b ≠ -1 := w.1
      have d : m a ≠ m b := fun e => ne (v.inj ⟨a0, a1⟩ ⟨b0, b1⟩ e (by rw [e]; exact n1))
      obtain ⟨o, o0, o1, eo, no⟩ := t a (m b) a0 a1 (by omega) r.2 d w.2.1
      have : o = b := v.inj ⟨o0, o1⟩ ⟨b0, b1⟩ eo (by rw [eo]; exact n1)
      rw [this] at no
      rcases w.2.2 with z | z
      · omega
      · exact no z
    refine ⟨fun k k0 k1 => ⟨?_, fun o o0 o1 => ⟨key k o k0 k1 o0 (by omega) (by omega), key o k o0 (by omega) k0 k1 (by omega)⟩⟩, fun s s0 s1 f l l0 l1 w => ?_⟩
    · by_cases z : m k = -1
      · exact Or.inl z
      · exact Or.inr (fun o o0 o1 => v k o k0 k1 o0 o1 z)
    · obtain ⟨o, o0, o1, eo, -⟩ := t l s l0 l1 s0 s1 (f l l0 l1) w
      exact f o o0 o1 eo
  · rintro ⟨q, n⟩
    refine ⟨fun l o l0 l1 o0 o1 ne => ((q l l0 l1).1.resolve_left ne) o o0 o1, fun l s l0 l1 s0 s1 ne w => ?_⟩
    by_cases z : ∀ o : Int, 0 ≤ o → o < Z.1 1 3 → m o ≠ s
    · exact absurd w (n s s0 s1 z l l0 l1)
    · by_cases y : ∃ o : Int, 0 ≤ o ∧ o < Z.1 1 3 ∧ m o = s
      · obtain ⟨o, o0, o1, eo⟩ := y
        refine ⟨o, o0, o1, eo, fun u => ?_⟩
        have wt : mtW Z h m l o := ⟨by omega, by rw [eo]; exact w, by rw [eo]; exact Or.inr u⟩
        by_cases c : o < l
        · exact ((q l l0 l1).2 o o0 c).1 wt
        · by_cases e : o = l
          · rw [e] at eo; exact ne eo
          · exact ((q o o0 o1).2 l l0 (by omega)).2 wt
      · exact absurd (fun o o0 o1 e => y ⟨o, o0, o1, e⟩) z
theorem mtVT_c {Z : abZ} {h : Int} {m m' : Int → Int} (e : ∀ l : Int, 0 ≤ l → l < Z.1 1 3 → m' l = m l) : (mtV Z m' ∧ mtT Z h m') ↔ (mtV Z m ∧ mtT Z h m) := by
  have one : ∀ a b : Int → Int, (∀ l : Int, 0 ≤ l → l < Z.1 1 3 → a l = b l) → mtV Z a ∧ mtT Z h a → mtV Z b ∧ mtT Z h b := fun a b e w => by
    refine ⟨fun l o l0 l1 o0 o1 ne => ?_, fun l s l0 l1 s0 s1 ne u => ?_⟩
    · rw [← e l l0 l1] at ne ⊢
      rw [← e o o0 (by omega)]
      exact w.1 l o l0 l1 o0 o1 ne
    · rw [← e l l0 l1] at ne u
      obtain ⟨o, o0, o1, eo, no⟩ := w.2 l s l0 l1 s0 s1 ne u
      exact ⟨o, o0, o1, by rw [← e o o0 o1]; exact eo, no⟩
  exact ⟨one m' m e, one m m' (fun l a b => (e l a b).symm)⟩
theorem abSum_add {f : Int → Int} {a : Nat} : ∀ b : Nat, abSum f (a + b) = abSum f a + abSum (fun j => f (a + j)) b
  | 0 => by show abSum f a = abSum f a + 0; omega
  | b + 1 => by
    show abSum f (a + b) + f ((a + b : Nat) : Int) = abSum f a + (abSum (fun j => f (a + j)) b + f (a + b))
    rw [abSum_add b, show (((a + b : Nat)) : Int) = (a : Int) + (b : Int) by omega]
    omega
theorem abSum_mul {g : Int → Int} {b : Nat} : ∀ N : Nat, abSum g (b * N) = abSum (fun j => abSum (fun y => g (b * y + j)) N) b
  | 0 => by
    rw [Nat.mul_zero, abSum_0 (f := fun j => abSum (fun y => g (b * y + j)) 0) (fun k _ _ => rfl)]
    rfl
  | N + 1 => by
    rw [Nat.mul_succ, abSum_add b, abSum_mul N, ← abSum_pl]
    refine abSum_c (fun k _ _ => ?_)
    show _ + g (((b * N : Nat) : Int) + k) = abSum (fun y => g (b * y + k)) N + g (b * N + k)
    rw [Int.natCast_mul]
def mtX (Z : abZ) (k : Int) (m : Int → Int) (y : Int) : Int → Int := fun l => if l < k then m l else abDv (Z.1 1 4 + 1) y (l - k).toNat % (Z.1 1 4 + 1) - 1
theorem mtX_s {N : Nat} {Z : abZ} (hZ : gdZ N Z) {k : Int} {m : Int → Int} {y j : Int} (hj : 0 ≤ j ∧ j < Z.1 1 4 + 1) (l : Int) : mtX Z k m ((Z.1 1 4 + 1) * y + j) l = mtX Z (k + 1) (abPut m k (j - 1)) y l := by
  have a4 := hZ.c.2.2.2.2.1
  have e1 : ((Z.1 1 4 + 1) * y + j) / (Z.1 1 4 + 1) = y := by
    rw [Int.add_comm, Int.add_mul_ediv_left _ _ (by omega), Int.ediv_eq_zero_of_lt hj.1 hj.2, Int.zero_add]
  have e2 : ((Z.1 1 4 + 1) * y + j) % (Z.1 1 4 + 1) = j := by
    rw [Int.add_comm, Int.add_mul_emod_self_left]
    exact Int.emod_eq_of_lt hj.1 hj.2
  unfold mtX
  by_cases z : l < k
  · rw [if_pos z, if_pos (by omega), ab_put, if_neg (by omega)]
  · rw [if_neg z]
    by_cases w : l = k
    · rw [if_pos (by omega), ab_put, if_pos w, show (l - k).toNat = 0 by omega]
      show ((Z.1 1 4 + 1) * y + j) % (Z.1 1 4 + 1) - 1 = j - 1
      rw [e2]
    · rw [if_neg (by omega), show (l - k).toNat = (l - (k + 1)).toNat + 1 by omega, abDv_in, e1]
theorem mtX_r {N : Nat} {Z : abZ} (hZ : gdZ N Z) {k : Int} {m : Int → Int} {y : Int} (hm : ∀ l : Int, 0 ≤ l → l < k → -1 ≤ m l ∧ m l < Z.1 1 4) : ∀ l : Int, 0 ≤ l → -1 ≤ mtX Z k m y l ∧ mtX Z k m y l < Z.1 1 4 := fun l l0 => by
  have a4 := hZ.c.2.2.2.2.1
  unfold mtX
  by_cases z : l < k
  · rw [if_pos z]; exact hm l l0 z
  · rw [if_neg z]
    have := ab_mod (a := abDv (Z.1 1 4 + 1) y (l - k).toNat) (b := Z.1 1 4 + 1) (by omega)
    omega
theorem mtQ_c {Z : abZ} {h k : Int} {m m' : Int → Int} (e : ∀ l : Int, 0 ≤ l → l ≤ k → m' l = m l) (k0 : 0 ≤ k) : mtQ Z h k m' ↔ mtQ Z h k m := by
  have one : ∀ a b : Int → Int, (∀ l : Int, 0 ≤ l → l ≤ k → a l = b l) → mtQ Z h k a → mtQ Z h k b := fun a b e w o o0 o1 => by
    have := w o o0 o1
    rw [mtW_c (m := b) (e k k0 (by omega)) (e o o0 (by omega)), mtW_c (m := b) (e o o0 (by omega)) (e k k0 (by omega))] at this
    exact this
  exact ⟨one m' m e, one m m' (fun l a b => (e l a b).symm)⟩
theorem mtF_c {k s : Int} {m m' : Int → Int} (e : ∀ l : Int, 0 ≤ l → l < k → m' l = m l) : mtF k m' s ↔ mtF k m s := by
  unfold mtF
  exact ⟨fun w => w.imp id (fun u o a b => by rw [← e o a b]; exact u o a b), fun w => w.imp id (fun u o a b => by rw [e o a b]; exact u o a b)⟩
set_option maxHeartbeats 1000000 in
theorem mt_sum {N : Nat} {Z : abZ} {t : Int} (hZ : gdZ N Z) : ∀ (n : Nat) (k : Int) (m : Int → Int), 0 ≤ k → k + n = Z.1 1 3 → (∀ l : Int, 0 ≤ l → l < k → -1 ≤ m l ∧ m l < Z.1 1 4) → (∀ j : Int, 0 ≤ j → j < k → mtF j m (m j) ∧ mtQ Z t j m) → abSum (fun y => abIf (mtV Z (mtX Z k m y) ∧ mtT Z t (mtX Z k m y)) 1 0) ((Z.1 1 4 + 1).toNat ^ n) = abCt Z t n k m
  | 0, k, m, k0, kn, hm, pre => by
    have hx : ∀ l : Int, 0 ≤ l → l < Z.1 1 3 → mtX Z k m 0 l = m l := fun l l0 l1 => if_pos (by omega)
    show 0 + abIf (mtV Z (mtX Z k m 0) ∧ mtT Z t (mtX Z k m 0)) 1 0 = abIf (mtN Z t m) 1 0
    rw [Int.zero_add]
    refine abIf_c ?_
    rw [mtVT_c hx, mt_iff (fun l a b => hm l a (by omega))]
    exact ⟨fun w => w.2, fun w => ⟨fun j a b => pre j a (by omega), w⟩⟩
  | n + 1, k, m, k0, kn, hm, pre => by
    have a4 := hZ.c.2.2.2.2.1
    rw [Nat.pow_succ, Nat.mul_comm, abSum_mul]
    show _ = abSum (fun j => abIf (mtF k m (j - 1) ∧ mtQ Z t k (abPut m k (j - 1))) (abCt Z t n (k + 1) (abPut m k (j - 1))) 0) (Z.1 1 4 + 1).toNat
    refine abSum_c (fun j j0 j1 => ?_)
    show abSum (fun y => abIf (mtV Z (mtX Z k m (((Z.1 1 4 + 1).toNat : Int) * y + j)) ∧ mtT Z t (mtX Z k m (((Z.1 1 4 + 1).toNat : Int) * y + j))) 1 0) ((Z.1 1 4 + 1).toNat ^ n) = abIf (mtF k m (j - 1) ∧ mtQ Z t k (abPut m k (j - 1))) (abCt Z t n (k + 1) (abPut m k (j - 1))) 0
    have ej : 0 ≤ j ∧ j < Z.1 1 4 + 1 := ⟨j0, by omega⟩
    rw [show (((Z.1 1 4 + 1).toNat : Nat) : Int) = Z.1 1 4 + 1 by omega]
    have eq : abSum (fun y => abIf (mtV Z (mtX Z k m ((Z.1 1 4 + 1) * y + j)) ∧ mtT Z t (mtX Z k m ((Z.1 1 4 + 1) * y + j))) 1 0) ((Z.1 1 4 + 1).toNat ^ n) = abSum (fun y => abIf (mtV Z (mtX Z (k + 1) (abPut m k (j - 1)) y) ∧ mtT Z t (mtX Z (k + 1) (abPut m k (j - 1)) y)) 1 0) ((Z.1 1 4 + 1).toNat ^ n) :=
      abSum_c (fun y _ _ => abIf_c (mtVT_c (fun l _ _ => mtX_s hZ ej l)))
    rw [eq]
    have low : ∀ l : Int, 0 ≤ l → l < k → abPut m k (j - 1) l = m l := fun l a b => by rw [ab_put, if_neg (by omega)]
    have own : abPut m k (j - 1) k = j - 1 := by rw [ab_put, if_pos rfl]
    have hm' : ∀ l : Int, 0 ≤ l → l < k + 1 → -1 ≤ abPut m k (j - 1) l ∧ abPut m k (j - 1) l < Z.1 1 4 := fun l a b => by
      by_cases z : l = k
      · rw [z, own]; omega
      · rw [low l a (by omega)]; exact hm l a (by omega)
    by_cases z : mtF k m (j - 1) ∧ mtQ Z t k (abPut m k (j - 1))
    · rw [abIf_t z]
      refine mt_sum hZ n (k + 1) (abPut m k (j - 1)) (by omega) (by omega) hm' (fun i i0 i1 => ?_)
      by_cases y : i = k
      · rw [y, own]
        exact ⟨(mtF_c low).mpr z.1, z.2⟩
      · rw [low i i0 (by omega), mtF_c (fun l a b => low l a (by omega)), mtQ_c (fun l a b => low l a (by omega)) i0]
        exact pre i i0 (by omega)
    · rw [abIf_f z]
      refine abSum_0 (fun y _ _ => abIf_f (fun w => z ?_))
      have w2 := ((mt_iff (h := t) (fun l a _ => mtX_r hZ hm' l a)).mp w).1 k k0 (by omega)
      have lx : ∀ l : Int, 0 ≤ l → l ≤ k → mtX Z (k + 1) (abPut m k (j - 1)) y l = abPut m k (j - 1) l := fun l _ b => if_pos (by omega)
      rw [lx k k0 (by omega), own, mtF_c (m := m) (fun l a b => (lx l a (by omega)).trans (low l a b)), mtQ_c (m := abPut m k (j - 1)) lx k0] at w2
      exact w2
/-! the model's own steps -/
def mtAp (Z : abZ) (h : Int) (σ : slM) : Prop := ∀ l s : Int, 0 ≤ l → l < Z.1 1 3 → 0 ≤ s → s < Z.1 1 4 → σ 98 0 (8 * l + s).toNat = mtD Z h l s
set_option maxHeartbeats 1000000 in
set_option maxRecDepth 4000 in
theorem sp_X12_laysApart {G : slG} (hG : slGood G) {d K : Nat} (hd : 20 ≤ d) (hK : 0 ≤ K) {Φ : slPost} {σ : slM} {x1 : Int} {N : Nat} {Z : abZ} {σ0 : slM} (m : mS Z σ0 σ) (hZ : gdZ N Z) (h1 : 0 ≤ x1 ∧ x1 < 240) (h : ∀ τ, mS Z σ0 τ → mtAp Z x1 τ → Φ (0, 0) τ) :
    slCall G mX12_laysApart d K [sR 12 0, sI x1] σ Φ := by
  refine vc_X12_laysApart hG (by omega) hK (fun μ y2 σ' => mS Z σ0 σ' ∧ μ = ((Z.1 1 3 - y2).toNat, 100, 0) ∧ (0 ≤ y2 ∧ y2 ≤ Z.1 1 3) ∧ ∀ l s : Int, 0 ≤ l → l < y2 → 0 ≤ s → s < Z.1 1 4 → σ' 98 0 (8 * l + s).toNat = mtD Z x1 l s) (fun μ y2 y3 σ' => mS Z σ0 σ' ∧ μ = ((Z.1 1 3 - y2).toNat, (Z.1 1 4 - y3).toNat, 0) ∧ (0 ≤ y2 ∧ y2 < Z.1 1 3) ∧ (0 ≤ y3 ∧ y3 ≤ Z.1 1 4) ∧ (∀ l s : Int, 0 ≤ l → l < y2 → 0 ≤ s → s < Z.1 1 4 → σ' 98 0 (8 * l + s).toNat = mtD Z x1 l s) ∧ ∀ s : Int, 0 ≤ s → s < y3 → σ' 98 0 (8 * y2 + s).toNat = mtD Z x1 y2 s) ?_ ?_ ?_
  · have a3 := hZ.c.2.2.2.1
    exact ⟨_, m, rfl, ⟨by omega, by omega⟩, fun l s a b => by omega⟩
  · have a3 := hZ.c.2.2.2.1
    have a4 := hZ.c.2.2.2.2.1
    rintro μ y2 σ' ⟨m, rfl, hy, c1⟩
    rw [m.2.1.1.1.2.2.2.1]
    exact ⟨⟨⟨by omega, by omega⟩, by omega, by omega⟩, fun q => h σ' m (fun l s a b => c1 l s a (by omega)), fun q => ⟨((Z.1 1 3 - y2).toNat, (Z.1 1 4 - 0).toNat, 0), Or.inr ⟨rfl, Or.inl (by show (Z.1 1 4 - 0).toNat < 100; omega)⟩, m, rfl, ⟨by omega, by omega⟩, ⟨by omega, by omega⟩, c1, fun s a b => by omega⟩⟩
  · have a3 := hZ.c.2.2.2.1
    have a4 := hZ.c.2.2.2.2.1
    rintro μ y2 y3 σ' ⟨m, rfl, hy, hy3, c1, c2⟩
    rw [m.2.1.1.1.2.2.2.2.1]
    refine ⟨⟨⟨by omega, by omega⟩, by omega, by omega⟩, fun q => ⟨((Z.1 1 3 - (y2 + 1)).toNat, 100, 0), Or.inl (by show (Z.1 1 3 - (y2 + 1)).toNat < (Z.1 1 3 - y2).toNat; omega), m, rfl, ⟨by omega, by omega⟩, fun l s a b c d => ?_⟩, fun q => ⟨⟨by omega, by omega⟩, ⟨by omega, by omega⟩, ?_⟩⟩
    · by_cases z : l = y2
      · rw [z]; exact c2 s c (by omega)
      · exact c1 l s a (by omega) c d
    · rw [(m.2.2.2 x1 y2 h1.1 h1.2 hy.1 hy.2).1, m.2.1.mo y3 hy3.1 (by omega)]
      refine sp_X12_farOf hG (by omega) (by omega) m.2.1.1 hZ.c (abC_cell hZ.v hy.1 hy.2) (hZ.v.2.2.1 y3 hy3.1 (by omega)).1 (slKt.ok ⟨⟨by omega, by omega⟩, ((Z.1 1 3 - y2).toNat, (Z.1 1 4 - (y3 + 1)).toNat, 0), Or.inr ⟨rfl, Or.inl (by show (Z.1 1 4 - (y3 + 1)).toNat < (Z.1 1 4 - y3).toNat; omega)⟩, m.up (by decide) (by decide) (by decide) (by decide), rfl, hy, ⟨by omega, by omega⟩, fun l s a b c d => ?_, fun s a b => ?_⟩)
      · rw [slU_ne (by omega)]; exact c1 l s a b c d
      · by_cases z : s = y3
        · rw [z, slU_same]; rfl
        · rw [slU_ne (by omega)]; exact c2 s a (by omega)
set_option maxHeartbeats 1000000 in
set_option maxRecDepth 4000 in
theorem sp_X12_wouldRather {G : slG} (hG : slGood G) {d K : Nat} (hd : 0 ≤ d) (hK : 0 ≤ K) {Φ : slPost} {σ : slM} {x1 : Int} {x2 : Int} {x3 : Int} {N : Nat} {Z : abZ} {t : Int} (hZ : gdZ N Z) (A : mtAp Z t σ) (h1 : 0 ≤ x1 ∧ x1 < Z.1 1 3) (h2 : 0 ≤ x2 ∧ x2 < Z.1 1 4) (h3 : -1 ≤ x3 ∧ x3 < Z.1 1 4) (h : Φ (0, abIf (mtLR Z t x1 x2 x3) 1 0) σ) :
    slCall G mX12_wouldRather d K [sR 12 0, sI x1, sI x2, sI x3] σ Φ := by
  refine vc_X12_wouldRather hG (by omega) hK  ?_
  have a3 := hZ.c.2.2.2.1
  have a4 := hZ.c.2.2.2.2.1
  refine ⟨⟨by omega, by omega⟩, fun q => ⟨⟨by omega, by omega⟩, ⟨by omega, by omega⟩, ?_⟩, fun q => ?_⟩
  · rw [A x1 x2 h1.1 h1.2 h2.1 h2.2, A x1 x3 h1.1 h1.2 (by omega) h3.2]
    have r2 := mtD_r (h := t) hZ h1 h2
    have r3 := mtD_r (h := t) hZ h1 (s := x3) ⟨by omega, h3.2⟩
    refine ⟨⟨⟨by omega, by omega⟩, by omega, by omega⟩, fun z => ?_, fun z => ⟨⟨⟨by omega, by omega⟩, by omega, by omega⟩, fun w => ?_, fun w => ⟨⟨⟨by omega, by omega⟩, by omega, by omega⟩, fun u => ?_, fun u => ?_⟩⟩⟩
    · rwa [abIf_t (show mtLR Z t x1 x2 x3 from Or.inr (Or.inl z))] at h
    · rwa [abIf_f (show ¬ mtLR Z t x1 x2 x3 from fun v => v.elim q (fun v => by unfold abLr at v; omega))] at h
    · rwa [abIf_f (show ¬ mtLR Z t x1 x2 x3 from fun v => v.elim q (fun v => by unfold abLr at v; omega))] at h
    · rwa [abIf_t (show mtLR Z t x1 x2 x3 from Or.inr (Or.inr ⟨w, by omega⟩))] at h
  · rwa [abIf_t (show mtLR Z t x1 x2 x3 from Or.inl q)] at h
set_option maxHeartbeats 1000000 in
set_option maxRecDepth 4000 in
theorem sp_X12_shipRather {G : slG} (hG : slGood G) {d K : Nat} (hd : 0 ≤ d) (hK : 0 ≤ K) {Φ : slPost} {σ : slM} {x1 : Int} {x2 : Int} {x3 : Int} {N : Nat} {Z : abZ} {t : Int} (hZ : gdZ N Z) (hM : isM Z.1 σ) (A : mtAp Z t σ) (h1 : 0 ≤ x1 ∧ x1 < Z.1 1 4) (h2 : 0 ≤ x2 ∧ x2 < Z.1 1 3) (h3 : -1 ≤ x3 ∧ x3 < Z.1 1 3) (h : Φ (0, abIf (mtSR Z t x1 x2 x3) 1 0) σ) :
    slCall G mX12_shipRather d K [sR 12 0, sI x1, sI x2, sI x3] σ Φ := by
  refine vc_X12_shipRather hG (by omega) hK  ?_
  have a3 := hZ.c.2.2.2.1
  have a4 := hZ.c.2.2.2.2.1
  refine ⟨⟨by omega, by omega⟩, fun q => ⟨⟨by omega, by omega⟩, ⟨by omega, by omega⟩, ⟨by omega, by omega⟩, ⟨by omega, by omega⟩, ?_⟩, fun q => ?_⟩
  · rw [A x2 x1 h2.1 h2.2 h1.1 h1.2, A x3 x1 (by omega) h3.2 h1.1 h1.2, (hM.2.2.1 x2 h2.1 h2.2).1, (hM.2.2.1 x3 (by omega) h3.2).1]
    have r2 := mtD_r (h := t) hZ h2 h1
    have r3 := mtD_r (h := t) hZ (l := x3) ⟨by omega, h3.2⟩ h1
    have c2 := (hZ.c.2.2.2.2.2.2.2.2.1 x2 h2.1 h2.2).1
    have c3 := (hZ.c.2.2.2.2.2.2.2.2.1 x3 (by omega) h3.2).1
    refine ⟨⟨⟨by omega, by omega⟩, by omega, by omega⟩, fun z => ?_, fun z => ⟨⟨⟨by omega, by omega⟩, by omega, by omega⟩, fun w => ?_, fun w => ⟨⟨⟨by omega, by omega⟩, by omega, by omega⟩, fun u => ?_, fun u => ?_⟩⟩⟩
    · rwa [abIf_t (show mtSR Z t x1 x2 x3 from Or.inr (Or.inl z))] at h
    · rwa [abIf_f (show ¬ mtSR Z t x1 x2 x3 from fun v => v.elim q (fun v => by unfold abSr at v; omega))] at h
    · rwa [abIf_f (show ¬ mtSR Z t x1 x2 x3 from fun v => v.elim q (fun v => by unfold abSr at v; omega))] at h
    · rwa [abIf_t (show mtSR Z t x1 x2 x3 from Or.inr (Or.inr ⟨w, by omega⟩))] at h
  · rwa [abIf_t (show mtSR Z t x1 x2 x3 from Or.inl q)] at h
/-- a matching laid into the arrays, up to light k -/
def isMx (Z : abZ) (k : Int) (m : Int → Int) (σ : slM) : Prop := (∀ l : Int, 0 ≤ l → l < k → σ 99 0 l.toNat = m l ∧ -1 ≤ m l ∧ m l < Z.1 1 4) ∧ (∀ s : Int, 0 ≤ s → s < Z.1 1 4 → (-1 ≤ σ 100 0 s.toNat ∧ σ 100 0 s.toNat < k) ∧ (σ 100 0 s.toNat = -1 → ∀ l : Int, 0 ≤ l → l < k → m l ≠ s) ∧ (¬ σ 100 0 s.toNat = -1 → m (σ 100 0 s.toNat) = s)) ∧ ∀ l o : Int, 0 ≤ l → l < k → 0 ≤ o → o < l → m l ≠ -1 → m o ≠ m l
theorem isMx.t {Z : abZ} {h : Int} {m : Int → Int} {σ : slM} (X : isMx Z (Z.1 1 3) m σ) : mtT Z h m ↔ ∀ l s : Int, 0 ≤ l → l < Z.1 1 3 → 0 ≤ s → s < Z.1 1 4 → m l ≠ s → mtLR Z h l s (m l) → ¬ mtSR Z h s l (σ 100 0 s.toNat) := by
  have v : mtV Z m := X.2.2
  constructor
  · intro t l s l0 l1 s0 s1 ne w u
    have x := X.2.1 s s0 s1
    obtain ⟨o, o0, o1, eo, no⟩ := t l s l0 l1 s0 s1 ne w
    by_cases z : σ 100 0 s.toNat = -1
    · exact x.2.1 z o o0 o1 eo
    · have eo2 := x.2.2 z
      have e : o = σ 100 0 s.toNat := v.inj ⟨o0, o1⟩ ⟨by omega, x.1.2⟩ (eo.trans eo2.symm) (by omega)
      rw [e] at no
      rcases u with u | u
      · exact z u
      · exact no u
  · intro t l s l0 l1 s0 s1 ne w
    have x := X.2.1 s s0 s1
    have n := t l s l0 l1 s0 s1 ne w
    have z : ¬ σ 100 0 s.toNat = -1 := fun z => n (Or.inl z)
    exact ⟨σ 100 0 s.toNat, by omega, x.1.2, x.2.2 z, fun u => n (Or.inr u)⟩
set_option maxHeartbeats 1000000 in
set_option maxRecDepth 4000 in
theorem sp_X12_isStable {G : slG} (hG : slGood G) {d K : Nat} (hd : 10 ≤ d) (hK : 0 ≤ K) {Φ : slPost} {σ : slM}  {N : Nat} {Z : abZ} {t : Int} {σ0 : slM} {m : Int → Int} (hS : mS Z σ0 σ) (hZ : gdZ N Z) (A : mtAp Z t σ) (X : isMx Z (Z.1 1 3) m σ) (h : Φ (0, abIf (mtT Z t m) 1 0) σ) :
    slCall G mX12_isStable d K [sR 12 0] σ Φ := by
  refine vc_X12_isStable hG (by omega) hK (fun μ y1 σ' => σ' = σ ∧ μ = ((Z.1 1 3 - y1).toNat, 100, 0) ∧ (0 ≤ y1 ∧ y1 ≤ Z.1 1 3) ∧ ∀ l s : Int, 0 ≤ l → l < y1 → 0 ≤ s → s < Z.1 1 4 → m l ≠ s → mtLR Z t l s (m l) → ¬ mtSR Z t s l (σ 100 0 s.toNat)) (fun μ y1 y2 σ' => σ' = σ ∧ μ = ((Z.1 1 3 - y1).toNat, (Z.1 1 4 - y2).toNat, 0) ∧ (0 ≤ y1 ∧ y1 < Z.1 1 3) ∧ (0 ≤ y2 ∧ y2 ≤ Z.1 1 4) ∧ (∀ l s : Int, 0 ≤ l → l < y1 → 0 ≤ s → s < Z.1 1 4 → m l ≠ s → mtLR Z t l s (m l) → ¬ mtSR Z t s l (σ 100 0 s.toNat)) ∧ ∀ s : Int, 0 ≤ s → s < y2 → m y1 ≠ s → mtLR Z t y1 s (m y1) → ¬ mtSR Z t s y1 (σ 100 0 s.toNat)) ?_ ?_ ?_
  · have a3 := hZ.c.2.2.2.1
    exact ⟨_, rfl, rfl, ⟨by omega, by omega⟩, fun l s a b => by omega⟩
  · have a3 := hZ.c.2.2.2.1
    have a4 := hZ.c.2.2.2.2.1
    rintro μ y1 σ' ⟨rfl, rfl, hy, al⟩
    rw [hS.2.1.1.1.2.2.2.1]
    refine ⟨⟨⟨by omega, by omega⟩, by omega, by omega⟩, fun q => ?_, fun q => ⟨((Z.1 1 3 - y1).toNat, (Z.1 1 4 - 0).toNat, 0), Or.inr ⟨rfl, Or.inl (by show (Z.1 1 4 - 0).toNat < 100; omega)⟩, rfl, rfl, ⟨by omega, by omega⟩, ⟨by omega, by omega⟩, al, fun s a b => by omega⟩⟩
    rwa [abIf_t (X.t.mpr (fun l s a b => al l s a (by omega)))] at h
  · have a3 := hZ.c.2.2.2.1
    have a4 := hZ.c.2.2.2.2.1
    rintro μ y1 y2 σ' ⟨rfl, rfl, hy, hy2, al, al2⟩
    have x1 := X.1 y1 hy.1 hy.2
    have lt : ¬ Z.1 1 4 ≤ y2 → slLt ((Z.1 1 3 - y1).toNat, (Z.1 1 4 - (y2 + 1)).toNat, 0) ((Z.1 1 3 - y1).toNat, (Z.1 1 4 - y2).toNat, 0) := fun q => Or.inr ⟨rfl, Or.inl (by show (Z.1 1 4 - (y2 + 1)).toNat < (Z.1 1 4 - y2).toNat; omega)⟩
    have nx : (m y1 ≠ y2 → mtLR Z t y1 y2 (m y1) → ¬ mtSR Z t y2 y1 (σ' 100 0 y2.toNat)) → ∀ s : Int, 0 ≤ s → s < y2 + 1 → m y1 ≠ s → mtLR Z t y1 s (m y1) → ¬ mtSR Z t s y1 (σ' 100 0 s.toNat) := fun e s a b => by
      by_cases z : s = y2
      · rw [z]; exact e
      · exact al2 s a (by omega)
    rw [hS.2.1.1.1.2.2.2.2.1]
    refine ⟨⟨⟨by omega, by omega⟩, by omega, by omega⟩, fun q => ⟨((Z.1 1 3 - (y1 + 1)).toNat, 100, 0), Or.inl (by show (Z.1 1 3 - (y1 + 1)).toNat < (Z.1 1 3 - y1).toNat; omega), rfl, rfl, ⟨by omega, by omega⟩, fun l s a b c d => ?_⟩, fun q => ⟨⟨by omega, by omega⟩, ?_⟩⟩
    · by_cases z : l = y1
      · rw [z]; exact al2 s c (by omega)
      · exact al l s a (by omega) c d
    · rw [x1.1]
      have x2 := X.2.1 y2 hy2.1 (by omega)
      refine ⟨⟨⟨by omega, by omega⟩, by omega, by omega⟩, fun z => ⟨_, lt q, rfl, rfl, hy, ⟨by omega, by omega⟩, al, nx (fun w => absurd z w)⟩, fun z => ⟨⟨by omega, by omega⟩, ?_⟩⟩
      refine sp_X12_wouldRather hG (by omega) (by omega) hZ A hy ⟨hy2.1, by omega⟩ x1.2 (slKt.ok ⟨in01, fun w => ⟨_, lt q, rfl, rfl, hy, ⟨by omega, by omega⟩, al, nx (fun _ u => absurd u (abIf_z w))⟩, fun w => ⟨⟨by omega, by omega⟩, ?_⟩⟩)
      refine sp_X12_shipRather hG (by omega) (by omega) hZ hS.2.1.1 A ⟨hy2.1, by omega⟩ hy x2.1 (slKt.ok ⟨in01, fun u => ⟨_, lt q, rfl, rfl, hy, ⟨by omega, by omega⟩, al, nx (fun _ _ => abIf_z u)⟩, fun u => ?_⟩)
      rwa [abIf_f (fun v => X.t.mp v y1 y2 hy.1 hy.2 hy2.1 (by omega) z (abIf_nz w) (abIf_nz u))] at h
set_option maxHeartbeats 8000000 in
set_option maxRecDepth 4000 in
theorem sp_X12_laysMatching {G : slG} (hG : slGood G) {d K : Nat} (hd : 10 ≤ d) (hK : 0 ≤ K) {Φ : slPost} {σ : slM} {x1 : Int} {N : Nat} {Z : abZ} {t : Int} {σ0 : slM} (hS : mS Z σ0 σ) (hZ : gdZ N Z) (A : mtAp Z t σ) (h1 : 0 ≤ x1 ∧ x1 < 2147483648) (h0 : ∀ τ, mS Z σ0 τ → mtAp Z t τ → ¬ mtV Z (mtX Z 0 (fun _ => -1) x1) → Φ (0, 0) τ) (h : ∀ τ, mS Z σ0 τ → mtAp Z t τ → isMx Z (Z.1 1 3) (mtX Z 0 (fun _ => -1) x1) τ → Φ (0, 1) τ) :
    slCall G mX12_laysMatching d K [sR 12 0, sI x1] σ Φ := by
  refine vc_X12_laysMatching hG (by omega) hK (fun μ y2 y3 σ' => mS Z σ0 σ' ∧ mtAp Z t σ' ∧ y2 = x1 ∧ μ = (1, (Z.1 1 4 - y3).toNat, 0) ∧ (0 ≤ y3 ∧ y3 ≤ Z.1 1 4) ∧ ∀ s : Int, 0 ≤ s → s < y3 → σ' 100 0 s.toNat = -1) (fun μ y2 y3 σ' => mS Z σ0 σ' ∧ mtAp Z t σ' ∧ y2 = abDv (Z.1 1 4 + 1) x1 y3.toNat ∧ μ = (0, (Z.1 1 3 - y3).toNat, 0) ∧ (0 ≤ y3 ∧ y3 ≤ Z.1 1 3) ∧ isMx Z y3 (mtX Z 0 (fun _ => -1) x1) σ') ?_ ?_ ?_
  · have a4 := hZ.c.2.2.2.2.1
    exact ⟨_, hS, A, rfl, rfl, ⟨by omega, by omega⟩, fun s a b => by omega⟩
  · have a3 := hZ.c.2.2.2.1
    have a4 := hZ.c.2.2.2.2.1
    rintro μ y2 y3 σ' ⟨m, A, rfl, rfl, hy, c1⟩
    rw [m.2.1.1.1.2.2.2.2.1]
    refine ⟨⟨⟨by omega, by omega⟩, by omega, by omega⟩, fun q => ⟨(0, (Z.1 1 3 - 0).toNat, 0), Or.inl (by show 0 < 1; decide), m, A, rfl, rfl, ⟨by omega, by omega⟩, fun l a b => by omega, fun s a b => ?_, fun l o a b => by omega⟩, fun q => ⟨⟨by omega, by omega⟩, (1, (Z.1 1 4 - (y3 + 1)).toNat, 0), Or.inr ⟨rfl, Or.inl (by show (Z.1 1 4 - (y3 + 1)).toNat < (Z.1 1 4 - y3).toNat; omega)⟩, m.up (by decide) (by decide) (by decide) (by decide), fun l s a b c d => ?_, rfl, rfl, ⟨by omega, by omega⟩, fun s a b => ?_⟩⟩
    · rw [c1 s a (by omega)]
      exact ⟨⟨by decide, by omega⟩, fun _ l c d => by omega, fun z => absurd rfl z⟩
    · rw [slU_else (by decide)]; exact A l s a b c d
    · by_cases z : s = y3
      · rw [z, slU_same]
      · rw [slU_ne (by omega)]; exact c1 s a (by omega)
  · have a3 := hZ.c.2.2.2.1
    have a4 := hZ.c.2.2.2.2.1
    rintro μ y2 y3 σ' ⟨m, A, rfl, rfl, hy, X⟩
    have rr := abDv_r (n := Z.1 1 4 + 1) (x := x1) h1.1 (by omega) (k := y3.toNat)
    have md := ab_mod (a := abDv (Z.1 1 4 + 1) x1 y3.toNat) (b := Z.1 1 4 + 1) (by omega)
    have s5 := m.2.1.1.1.2.2.2.2.1
    have E1 : ∀ v, slU σ' 99 0 y3.toNat v 12 0 5 = Z.1 1 4 := fun v => by rw [slU_else (by decide)]; exact s5
    have E2 : ∀ v, slU σ' 99 0 y3.toNat v 99 0 y3.toNat = v := fun v => slU_same _ _ _ _ _
    have E3 : ∀ v, slU σ' 99 0 y3.toNat v 100 0 = σ' 100 0 := fun v => slU_else (by decide)
    have ev : sRem (abDv (Z.1 1 4 + 1) x1 y3.toNat) (Z.1 1 4 + 1) - 1 = mtX Z 0 (fun _ => -1) x1 y3 := by
      rw [sRem_eq rr.1 (by omega) (by omega) (by omega)]
      unfold mtX
      rw [if_neg (by omega), show y3 - 0 = y3 by omega]
    have rv : -1 ≤ mtX Z 0 (fun _ => -1) x1 y3 ∧ mtX Z 0 (fun _ => -1) x1 y3 < Z.1 1 4 := mtX_r hZ (fun l a b => by omega) y3 hy.1
    rw [m.2.1.1.1.2.2.2.1, s5, E1, E2, E3, ev, sDiv_eq rr.1 (by omega) (by omega) (by omega), ← abDv_s hy.1]
    generalize hM : mtX Z 0 (fun _ => -1) x1 = M at *
    have m1 : mS Z σ0 (slU σ' 99 0 y3.toNat (M y3)) := m.up (by decide) (by decide) (by decide) (by decide)
    have A1 : mtAp Z t (slU σ' 99 0 y3.toNat (M y3)) := fun l s a b c d => by rw [slU_else (by decide)]; exact A l s a b c d
    have L1 : ∀ l : Int, 0 ≤ l → l < y3 + 1 → slU σ' 99 0 y3.toNat (M y3) 99 0 l.toNat = M l ∧ -1 ≤ M l ∧ M l < Z.1 1 4 := fun l a b => by
      by_cases z : l = y3
      · rw [z, slU_same]; exact ⟨rfl, rv⟩
      · rw [slU_ne (by omega)]; exact X.1 l a (by omega)
    refine ⟨⟨⟨by omega, by omega⟩, by omega, by omega⟩, fun q => ?_, fun q => ?_⟩
    · rw [show y3 = Z.1 1 3 by omega] at X
      exact h σ' m A X
    · have lt : slLt (0, (Z.1 1 3 - (y3 + 1)).toNat, 0) (0, (Z.1 1 3 - y3).toNat, 0) := Or.inr ⟨rfl, Or.inl (by show (Z.1 1 3 - (y3 + 1)).toNat < (Z.1 1 3 - y3).toNat; omega)⟩
      refine ⟨⟨⟨by omega, by omega⟩, by omega⟩, ⟨by omega, by omega⟩, ⟨⟨by omega, by omega⟩, by omega⟩, ⟨by omega, by omega⟩, ⟨by omega, by omega⟩, fun z => ⟨⟨by omega, by omega⟩, ⟨by omega, by omega⟩, ?_⟩, fun z => ⟨_, lt, m1, A1, rfl, rfl, ⟨by omega, by omega⟩, L1, fun s a b => ?_, fun l o a b c d ne => ?_⟩⟩
      · have x := X.2.1 (M y3) (by omega) rv.2
        refine ⟨⟨by omega, by omega⟩, fun w => ⟨⟨by omega, by omega⟩, ⟨by omega, by omega⟩, _, lt, m1.up (by decide) (by decide) (by decide) (by decide), fun l s a b c d => ?_, rfl, rfl, ⟨by omega, by omega⟩, fun l a b => ?_, fun s a b => ?_, fun l o a b c d ne => ?_⟩, fun w => h0 _ m1 A1 (fun v => ?_)⟩
        · rw [slU_else (by decide)]; exact A1 l s a b c d
        · rw [slU_else (by decide)]; exact L1 l a b
        · by_cases u : s = M y3
          · rw [u, slU_same]
            exact ⟨⟨by omega, by omega⟩, fun v => by omega, fun _ => rfl⟩
          · rw [slU_ne (by omega), E3]
            have y := X.2.1 s a b
            refine ⟨⟨y.1.1, by omega⟩, fun v l c d => ?_, y.2.2⟩
            by_cases k : l = y3
            · rw [k]; exact fun k => u k.symm
            · exact y.2.1 v l c (by omega)
        · by_cases k : l = y3
          · rw [k] at d ne ⊢; exact x.2.1 w o c d
          · exact X.2.2 l o a (by omega) c d ne
        · have := x.2.2 w
          exact v y3 (σ' 100 0 (M y3).toNat) hy.1 (by omega) (by omega) x.1.2 z this
      · have y := X.2.1 s a b
        rw [E3]
        refine ⟨⟨y.1.1, by omega⟩, fun v l c d => ?_, y.2.2⟩
        by_cases k : l = y3
        · rw [k, z]; omega
        · exact y.2.1 v l c (by omega)
      · by_cases k : l = y3
        · rw [k] at ne; exact absurd z ne
        · exact X.2.2 l o a (by omega) c d ne
noncomputable def abVn (Z : abZ) (t : Int) (n : Nat) : Int := abSum (fun y => abIf (mtV Z (mtX Z 0 (fun _ => -1) y) ∧ mtT Z t (mtX Z 0 (fun _ => -1) y)) 1 0) n
theorem abVn_s {Z : abZ} {t y : Int} (h : 0 ≤ y) : abVn Z t (y + 1).toNat = abVn Z t y.toNat + abIf (mtV Z (mtX Z 0 (fun _ => -1) y) ∧ mtT Z t (mtX Z 0 (fun _ => -1) y)) 1 0 := abSum_s h
theorem ab_pow9 {n : Int} (h : 0 ≤ n ∧ n ≤ 8) {k : Nat} (hk : k ≤ 5) : 1 ≤ (n + 1) ^ k ∧ (n + 1) ^ k ≤ 59049 ∧ ((n + 1) ^ k).toNat = (n + 1).toNat ^ k := by
  obtain ⟨m, h1, rfl⟩ := ab_nat (n := 9) (a := n) ⟨by omega, by omega⟩
  exact (by decide : ∀ m, m < 9 → ∀ k, k ≤ 5 → 1 ≤ (((m : Nat) : Int) + 1) ^ k ∧ (((m : Nat) : Int) + 1) ^ k ≤ 59049 ∧ ((((m : Nat) : Int) + 1) ^ k).toNat = (((m : Nat) : Int) + 1).toNat ^ k) m h1 k hk
set_option maxHeartbeats 4000000 in
set_option maxRecDepth 4000 in
theorem sp_X12_visits {G : slG} (hG : slGood G) {d K : Nat} (hd : 50 ≤ d) (hK : 0 ≤ K) {Φ : slPost} {σ : slM} {x1 : Int} {N : Nat} {Z : abZ} (hY : isY Z σ) (hZ : gdZ N Z) (i1 : InR x1) (h : mA Z σ Φ (abOk (0 ≤ x1 ∧ x1 < 240) (abVis Z x1))) :
    slCall G mX12_visits d K [sR 12 0, sI x1] σ Φ := by
  refine vc_X12_visits hG (by omega) hK (fun μ y2 y3 σ' => (0 ≤ x1 ∧ x1 < 240) ∧ mS Z σ σ' ∧ mtAp Z x1 σ' ∧ μ = (100000, (Z.1 1 3 - y3).toNat, 0) ∧ (0 ≤ y3 ∧ y3 ≤ Z.1 1 3) ∧ y2 = (Z.1 1 4 + 1) ^ y3.toNat) (fun μ y2 y3 y4 σ' => (0 ≤ x1 ∧ x1 < 240) ∧ mS Z σ σ' ∧ mtAp Z x1 σ' ∧ y2 = (Z.1 1 4 + 1) ^ (Z.1 1 3).toNat ∧ μ = ((y2 - y4).toNat, 0, 0) ∧ (0 ≤ y4 ∧ y4 ≤ y2) ∧ y3 = abVn Z x1 y4.toNat) ?_ ?_ ?_
  · have a3 := hZ.c.2.2.2.1
    have y0 := hY.z
    refine sp_X12_isHour hG (by omega) (by omega) i1 (slU_same _ _ _ _ _) (fun q1 => slKt.ok ⟨in1, fun _ => ?_, fun z => absurd z (by decide)⟩) (fun q => slKt.ok ⟨in0, fun z => absurd rfl z, fun _ => h.no q mQ.id.t0 y0⟩)
    refine ms_now hG (by omega) y0 hZ mQ.id.t0 (slU_same _ _ _ _ _) (fun τ m => slKt.ok ?_)
    refine sp_X12_laysApart hG (by omega) (by omega) m hZ q1 (fun τ1 m1 A => slKt.ok ⟨_, q1, m1, A, rfl, ⟨by omega, by omega⟩, (Int.pow_zero _).symm⟩)
  · have a3 := hZ.c.2.2.2.1
    have a4 := hZ.c.2.2.2.2.1
    rintro μ y2 y3 σ' ⟨q1, m, A, rfl, hy, rfl⟩
    have pw := ab_pow9 a4 (k := (Z.1 1 3).toNat) (by omega)
    rw [m.2.1.1.1.2.2.2.1, m.2.1.1.1.2.2.2.2.1]
    refine ⟨⟨⟨by omega, by omega⟩, by omega, by omega⟩, fun q => ⟨(((Z.1 1 4 + 1) ^ (Z.1 1 3).toNat - 0).toNat, 0, 0), Or.inl (by show ((Z.1 1 4 + 1) ^ (Z.1 1 3).toNat - 0).toNat < 100000; omega), q1, m, A, ?_, ?_, ⟨by decide, ?_⟩, rfl⟩, fun q => ⟨(100000, (Z.1 1 3 - (y3 + 1)).toNat, 0), Or.inr ⟨rfl, Or.inl (by show (Z.1 1 3 - (y3 + 1)).toNat < (Z.1 1 3 - y3).toNat; omega)⟩, q1, m, A, rfl, ⟨by omega, by omega⟩, ?_⟩⟩
    · rw [show y3 = Z.1 1 3 by omega]
    · rw [show y3 = Z.1 1 3 by omega]
    · rw [show y3 = Z.1 1 3 by omega]; omega
    · rw [show (y3 + 1).toNat = y3.toNat + 1 by omega, Int.pow_succ]
  · have a3 := hZ.c.2.2.2.1
    have a4 := hZ.c.2.2.2.2.1
    rintro μ y2 y3 y4 σ' ⟨q1, m, A, rfl, rfl, hy, rfl⟩
    have pw := ab_pow9 a4 (k := (Z.1 1 3).toNat) (by omega)
    refine ⟨⟨⟨by omega, by omega⟩, by omega, by omega⟩, fun q => ?_, fun q => ?_⟩
    · have k := h.yes q1 m.1 m.2.1 m.2.2.1
      have e := mt_sum (t := x1) hZ (Z.1 1 3).toNat 0 (fun _ => -1) (by decide) (by omega) (fun l a b => by omega) (fun j a b => by omega)
      rw [show y4 = (Z.1 1 4 + 1) ^ (Z.1 1 3).toNat by omega]
      unfold abVn
      rw [pw.2.2, e]
      exact k
    · have lt : slLt (((Z.1 1 4 + 1) ^ (Z.1 1 3).toNat - (y4 + 1)).toNat, 0, 0) (((Z.1 1 4 + 1) ^ (Z.1 1 3).toNat - y4).toNat, 0, 0) := Or.inl (by show ((Z.1 1 4 + 1) ^ (Z.1 1 3).toNat - (y4 + 1)).toNat < ((Z.1 1 4 + 1) ^ (Z.1 1 3).toNat - y4).toNat; omega)
      refine sp_X12_laysMatching hG (by omega) (by omega) m hZ A ⟨hy.1, by omega⟩ (fun τ m1 A1 nv => slKt.ok ⟨in0, fun _ => ⟨_, lt, q1, m1, A1, rfl, rfl, ⟨by omega, by omega⟩, ?_⟩, fun z => absurd rfl z⟩) (fun τ m1 A1 X => slKt.ok ⟨in1, fun z => absurd z (by decide), fun _ => ?_⟩)
      · rw [abVn_s hy.1, abIf_f (fun w => nv w.1)]
      · refine sp_X12_isStable hG (by omega) (by omega) m1 hZ A1 X (slKt.ok ⟨in01, _, lt, q1, m1, A1, rfl, rfl, ⟨by omega, by omega⟩, ?_⟩)
        rw [abVn_s hy.1]
        by_cases w : mtT Z x1 (mtX Z 0 (fun _ => -1) y4)
        · rw [abIf_t w, if_neg (by decide), abIf_t ⟨X.2.2, w⟩]
        · rw [abIf_f w, if_pos rfl, abIf_f (fun u => w u.2)]
