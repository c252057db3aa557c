/-! ===== lights ask in the model ===== -/
def orB (m b : Nat) : Bool :=
  decide (0 ≤ sOr ((m : Nat) : Int) (sShl 1 ((b : Nat) : Int)) ∧ sOr ((m : Nat) : Int) (sShl 1 ((b : Nat) : Int)) < 256) &&
  (List.range 8).all (fun k => decide (abBit (sOr ((m : Nat) : Int) (sShl 1 ((b : Nat) : Int))) ((k : Nat) : Int) = 1) == (decide (abBit (m : Int) (k : Int) = 1) || k == b))
set_option maxHeartbeats 8000000 in
set_option maxRecDepth 100000 in
theorem orB_t : ∀ m, m < 256 → ∀ b, b < 8 → orB m b = true := by decide +kernel
theorem abMask_1n {p : Int → Prop} {n : Nat} (hn : n ≤ 8) {k : Int} (h0 : 0 ≤ k) (h5 : k < n) : abBit (abMask p n) k = 1 ↔ p k := by
  rw [abMask_bit hn h0 h5]
  constructor
  · intro h
    exact abIf_nz (by omega)
  · intro h
    exact abIf_t h
theorem ab_ext8 {a b : Int} (ha : 0 ≤ a ∧ a < 256) (hb : 0 ≤ b ∧ b < 256) (h : ∀ k : Int, 0 ≤ k → k < 8 → (abBit a k = 1 ↔ abBit b k = 1)) : a = b := by
  have key : ∀ a : Int, 0 ≤ a → a < 256 → a = abBit a 0 + 2 * abBit a 1 + 4 * abBit a 2 + 8 * abBit a 3 + 16 * abBit a 4 + 32 * abBit a 5 + 64 * abBit a 6 + 128 * abBit a 7 := fun a h0 h1 => by
    show a = a / 1 % 2 + 2 * (a / 2 % 2) + 4 * (a / 4 % 2) + 8 * (a / 8 % 2) + 16 * (a / 16 % 2) + 32 * (a / 32 % 2) + 64 * (a / 64 % 2) + 128 * (a / 128 % 2)
    omega
  have e : ∀ k : Int, 0 ≤ k → k < 8 → abBit a k = abBit b k := fun k h0 h5 => by
    have := h k h0 h5
    have := abBit01 a k
    have := abBit01 b k
    omega
  rw [key a ha.1 ha.2, key b hb.1 hb.2, e 0 (by omega) (by omega), e 1 (by omega) (by omega), e 2 (by omega) (by omega), e 3 (by omega) (by omega), e 4 (by omega) (by omega), e 5 (by omega) (by omega), e 6 (by omega) (by omega), e 7 (by omega) (by omega)]
theorem ab_or8 {p : Int → Prop} {b : Int} (hb : 0 ≤ b ∧ b < 8) : sOr (abMask p 8) (sShl 1 b) = abMask (fun k => p k ∨ k = b) 8 := by
  have r := abMask_8 (f := p) (n := 8) (by decide)
  have o : (0 ≤ sOr (abMask p 8) (sShl 1 b) ∧ sOr (abMask p 8) (sShl 1 b) < 256) ∧ ∀ k : Int, 0 ≤ k → k < 8 → (abBit (sOr (abMask p 8) (sShl 1 b)) k = 1 ↔ abBit (abMask p 8) k = 1 ∨ k = b) := by
    generalize abMask p 8 = m at r ⊢
    obtain ⟨m, h1, rfl⟩ := ab_nat (n := 256) r
    obtain ⟨b, h2, rfl⟩ := ab_nat (n := 8) hb
    have t := orB_t m h1 b h2
    unfold orB at t
    rw [Bool.and_eq_true, decide_eq_true_eq, List.all_eq_true] at t
    refine ⟨t.1, fun k k0 k8 => ?_⟩
    obtain ⟨k, h4, rfl⟩ := ab_nat (n := 8) ⟨k0, k8⟩
    have t2 := t.2 k (List.mem_range.mpr h4)
    rw [beq_iff_eq] at t2
    rw [← decide_eq_true_eq (p := abBit (sOr ((m : Nat) : Int) (sShl 1 ((b : Nat) : Int))) ((k : Nat) : Int) = 1), t2, Bool.or_eq_true, decide_eq_true_eq]
    have : ((k == b) = true ↔ (k : Int) = (b : Int)) := by simp [Int.ofNat_inj]
    rw [this]
  refine ab_ext8 o.1 (abMask_8 (by decide)) (fun k k0 k8 => ?_)
  rw [o.2 k k0 k8, abMask_1n (by decide) k0 k8, abMask_1n (by decide) k0 k8]
def isQm (Z : abZ) (t : Int) (q : abQ) (σ : slM) : Prop := ∀ l : Int, 0 ≤ l → l < Z.1 1 3 → σ 101 0 l.toNat = abMask (fun s => s < Z.1 1 4 ∧ mtP Z t l s < q.2.2 l) 8
theorem isQm.tk {Z : abZ} {t l : Int} {q : abQ} {σ τ : slM} (Q : isQm Z t q σ) (h4 : 0 ≤ Z.1 1 4 ∧ Z.1 1 4 ≤ 8) (g : mtG Z q) (hl : 0 ≤ l ∧ l < Z.1 1 3) (hq : q.2.2 l < Z.1 1 4) (e : τ 101 0 = slU σ 101 0 l.toNat (sOr (σ 101 0 l.toNat) (sShl 1 (mtSh Z t l (q.2.2 l)))) 101 0) : isQm Z t (mtTk Z t l (mtSh Z t l (q.2.2 l)) q) τ := fun k a b => by
  have gq := g.2.2 l hl.1 hl.2
  have p := mtSh_p (h := t) (l := l) ⟨gq.1, hq⟩
  rw [e, mtTk_a, ab_put]
  by_cases z : k = l
  · rw [if_pos z, z, slU_same, Q l hl.1 hl.2, ab_or8 ⟨p.1, by omega⟩]
    refine abMask_c (fun s s0 s8 => ⟨fun w => ?_, fun w => ?_⟩)
    · rcases w with w | w
      · exact ⟨w.1, by have := w.2; omega⟩
      · rw [w]; exact ⟨p.2.1, by have := p.2.2; omega⟩
    · by_cases u : mtP Z t l s < q.2.2 l
      · exact Or.inl ⟨w.1, u⟩
      · exact Or.inr (mtSh_u ⟨gq.1, hq⟩ ⟨s0, w.1⟩ (by have := w.2; omega))
  · rw [if_neg z, slU_ne (by omega)]; exact Q k a b
set_option maxHeartbeats 4000000 in
set_option maxRecDepth 4000 in
theorem sp_X12_asks {G : slG} (hG : slGood G) {d K : Nat} (hd : 10 ≤ d) (hK : 0 ≤ K) {Φ : slPost} {σ : slM} {x1 : Int} {N : Nat} {Z : abZ} {t : Int} {σ0 : slM} {q : abQ} (hS : mS Z σ0 σ) (hZ : gdZ N Z) (A : mtAp Z t σ) (Q : isQ 99 100 Z q σ) (Qm : isQm Z t q σ) (g : mtG Z q) (h1 : 0 ≤ x1 ∧ x1 < Z.1 1 3) (h0 : ¬ q.2.2 x1 < Z.1 1 4 → Φ (0, 0) σ) (h : q.2.2 x1 < Z.1 1 4 → ∀ τ, mS Z σ0 τ → mtAp Z t τ → isQ 99 100 Z (mtTk Z t x1 (mtSh Z t x1 (q.2.2 x1)) q) τ → isQm Z t (mtTk Z t x1 (mtSh Z t x1 (q.2.2 x1)) q) τ → Φ (0, 1) τ) :
    slCall G mX12_asks d K [sR 12 0, sI x1] σ Φ := by
  refine vc_X12_asks hG (by omega) hK (fun μ y2 y3 σ' => σ' = σ ∧ μ = ((Z.1 1 4 - y3).toNat, 0, 0) ∧ (0 ≤ y3 ∧ y3 ≤ Z.1 1 4) ∧ (-1 ≤ y2 ∧ y2 < Z.1 1 4) ∧ (y2 = -1 → ∀ s : Int, 0 ≤ s → s < y3 → mtP Z t x1 s < q.2.2 x1) ∧ (¬ y2 = -1 → y2 < y3 ∧ ¬ mtP Z t x1 y2 < q.2.2 x1 ∧ ∀ s : Int, 0 ≤ s → s < y3 → ¬ mtP Z t x1 s < q.2.2 x1 → s ≠ y2 → abLr Z t x1 y2 s)) ?_ ?_
  · have a4 := hZ.c.2.2.2.2.1
    exact ⟨_, rfl, rfl, ⟨by omega, by omega⟩, ⟨by decide, by omega⟩, fun _ s a b => by omega, fun z => absurd rfl z⟩
  · have a3 := hZ.c.2.2.2.1
    have a4 := hZ.c.2.2.2.2.1
    have gq := g.2.2 x1 h1.1 h1.2
    rintro μ y2 y3 σ' ⟨rfl, rfl, hy, hy2, k1, k2⟩
    rw [hS.2.1.1.1.2.2.2.2.1]
    refine ⟨⟨⟨by omega, by omega⟩, by omega, by omega⟩, fun qq => ⟨⟨by omega, by omega⟩, fun z => ?_, fun z => h0 (fun w => ?_)⟩, fun qq => ⟨⟨by omega, by omega⟩, ?_⟩⟩
    · have k := k2 z
      have rp : 0 ≤ mtP Z t x1 y2 ∧ mtP Z t x1 y2 < Z.1 1 4 := cnt_r abLr_o ⟨by omega, hy2.2⟩
      have lt : q.2.2 x1 < Z.1 1 4 := by omega
      have p := mtSh_p (h := t) (l := x1) ⟨gq.1, lt⟩
      have e : y2 = mtSh Z t x1 (q.2.2 x1) := by
        by_cases w : mtSh Z t x1 (q.2.2 x1) = y2
        · exact w.symm
        · have u := k.2.2 _ p.1 (by omega) (by omega) w
          have : mtP Z t x1 y2 < mtP Z t x1 (mtSh Z t x1 (q.2.2 x1)) := (cnt_lt abLr_o ⟨by omega, hy2.2⟩ ⟨p.1, p.2.1⟩).mpr u
          omega
      have m1 : mS Z σ0 (slU σ' 101 0 x1.toNat (sOr (σ' 101 0 x1.toNat) (sShl 1 y2))) := hS.up (by decide) (by decide) (by decide) (by decide)
      have A1 : mtAp Z t (slU σ' 101 0 x1.toNat (sOr (σ' 101 0 x1.toNat) (sShl 1 y2))) := fun l s a b c d => by rw [slU_else (by decide)]; exact A l s a b c d
      have Q1 : isQ 99 100 Z q (slU σ' 101 0 x1.toNat (sOr (σ' 101 0 x1.toNat) (sShl 1 y2))) := Q.c (slU_else (by decide)) (slU_else (by decide))
      have Qe : ∀ τ : slM, τ 101 0 = slU σ' 101 0 x1.toNat (sOr (σ' 101 0 x1.toNat) (sShl 1 y2)) 101 0 → isQm Z t (mtTk Z t x1 (mtSh Z t x1 (q.2.2 x1)) q) τ := fun τ et => Qm.tk a4 g h1 lt (by rw [et, e])
      have H := h lt
      rw [← e] at H Qe
      generalize slU σ' 101 0 x1.toNat (sOr (σ' 101 0 x1.toNat) (sShl 1 y2)) = σ1 at m1 A1 Q1 Qe ⊢
      have eo := Q1.2 y2 (by omega) hy2.2
      have go := g.2.1 y2 (by omega) hy2.2
      refine ⟨⟨by omega, by omega⟩, ⟨by omega, by omega⟩, ⟨by omega, by omega⟩, ?_⟩
      refine sp_X12_shipRather hG (by omega) (by omega) hZ m1.2.1.1 A1 ⟨by omega, hy2.2⟩ h1 (by rw [eo]; exact go) (slKt.ok ⟨in01, fun w => ?_, fun w => H σ1 m1 A1 ?_ (Qe σ1 rfl)⟩)
      · have w := abIf_nz w
        rw [eo] at w
        have T := Q1.tk (by decide) g h1 ⟨by omega, hy2.2⟩ w
        rw [eo] at T ⊢
        refine ⟨⟨by omega, by omega⟩, ⟨by omega, by omega⟩, fun u => ⟨⟨by omega, by omega⟩, ⟨by omega, by omega⟩, H _ ((m1.up (by decide) (by decide) (by decide) (by decide)).up (by decide) (by decide) (by decide) (by decide)) (fun l s a b c d => ?_) (T.1 u) (Qe _ ?_)⟩, fun u => ⟨⟨by omega, by omega⟩, ⟨by omega, by omega⟩, ⟨by omega, by omega⟩, ⟨by omega, by omega⟩, H _ (((m1.up (by decide) (by decide) (by decide) (by decide)).up (by decide) (by decide) (by decide) (by decide)).up (by decide) (by decide) (by decide) (by decide)) (fun l s a b c d => ?_) (T.2 u) (Qe _ ?_)⟩⟩
        · rw [slU_else (by decide), slU_else (by decide)]; exact A1 l s a b c d
        · rw [slU_else (by decide), slU_else (by decide)]
        · rw [slU_else (by decide), slU_else (by decide), slU_else (by decide)]; exact A1 l s a b c d
        · rw [slU_else (by decide), slU_else (by decide), slU_else (by decide)]
      · have w := abIf_z w
        rw [eo] at w
        have et : mtTk Z t x1 y2 q = (q.1, q.2.1, abPut q.2.2 x1 (q.2.2 x1 + 1)) := abIte_f w
        rw [et]
        exact Q1
    · have p := mtSh_p (h := t) (l := x1) ⟨gq.1, w⟩
      have := k1 z _ p.1 (by omega)
      omega
    · have lt : slLt ((Z.1 1 4 - (y3 + 1)).toNat, 0, 0) ((Z.1 1 4 - y3).toNat, 0, 0) := Or.inl (by show (Z.1 1 4 - (y3 + 1)).toNat < (Z.1 1 4 - y3).toNat; omega)
      rw [Qm x1 h1.1 h1.2, abMask_tst (by decide) hy.1 (show y3 < ((8 : Nat) : Int) by omega)]
      refine ⟨in01, fun z => ⟨_, lt, rfl, rfl, ⟨by omega, by omega⟩, hy2, fun e s a b => ?_, fun e => ⟨by have := (k2 e).1; omega, (k2 e).2.1, fun s a b c d => ?_⟩⟩, fun z => ?_⟩
      · by_cases u : s = y3
        · rw [u]; exact (abIf_nz z).2
        · exact k1 e s a (by omega)
      · by_cases u : s = y3
        · rw [u] at c; exact absurd (abIf_nz z).2 c
        · exact (k2 e).2.2 s a (by omega) c d
      · have na : ¬ mtP Z t x1 y3 < q.2.2 x1 := fun w => abIf_z z ⟨by omega, w⟩
        refine sp_X12_wouldRather hG (by omega) (by omega) hZ A h1 ⟨hy.1, by omega⟩ hy2 (slKt.ok ⟨in01, fun w => ?_, fun w => ?_⟩)
        · have w := abIf_z w
          have n1 : ¬ y2 = -1 := fun e => w (Or.inl e)
          have k := k2 n1
          refine ⟨_, lt, rfl, rfl, ⟨by omega, by omega⟩, hy2, fun e => absurd e n1, fun _ => ⟨by omega, k.2.1, fun s a b c d => ?_⟩⟩
          by_cases u : s = y3
          · rw [u]
            rcases (abLr_o (Z := Z) (h := t) (l := x1) (n := Z.1 1 4)).2.2 y2 y3 (by omega) hy2.2 hy.1 (by omega) (by omega) with v | v
            · exact v
            · exact absurd (Or.inr v) w
          · exact k.2.2 s a (by omega) c d
        · have w := abIf_nz w
          refine ⟨_, lt, rfl, rfl, ⟨by omega, by omega⟩, ⟨by omega, by omega⟩, fun e => by omega, fun _ => ⟨by omega, na, fun s a b c d => ?_⟩⟩
          have s3 : s < y3 := by omega
          by_cases e : y2 = -1
          · exact absurd (k1 e s a s3) c
          · have v := w.resolve_left e
            by_cases u : s = y2
            · rw [u]; exact v
            · exact (abLr_o (Z := Z) (h := t) (l := x1) (n := Z.1 1 4)).2.1 y3 y2 s v ((k2 e).2.2 s a s3 c u)
noncomputable def mtSm (Z : abZ) (q : abQ) : Int := abSum q.2.2 (Z.1 1 3).toNat
theorem abSum_put {f : Int → Int} {l : Int} : ∀ {n : Nat}, 0 ≤ l → l < n → abSum (abPut f l (f l + 1)) n = abSum f n + 1
  | 0, _, h => absurd h (by omega)
  | n + 1, h0, h1 => by
    show abSum (abPut f l (f l + 1)) n + abPut f l (f l + 1) n = abSum f n + f n + 1
    rw [ab_put]
    by_cases z : (n : Int) = l
    · rw [if_pos z, abSum_c (g := f) (fun k a b => by rw [ab_put, if_neg (by omega)]), z]
      omega
    · rw [if_neg z, abSum_put h0 (by omega)]
      omega
theorem mtSm_tk {Z : abZ} {h l s : Int} {q : abQ} (hl : 0 ≤ l ∧ l < Z.1 1 3) : mtSm Z (mtTk Z h l s q) = mtSm Z q + 1 := by
  unfold mtSm
  rw [mtTk_a]
  exact abSum_put hl.1 (by omega)
theorem mtSm_r {Z : abZ} {q : abQ} (g : mtG Z q) (h3 : 0 ≤ Z.1 1 3) : 0 ≤ mtSm Z q ∧ mtSm Z q ≤ Z.1 1 3 * Z.1 1 4 := by
  have := abSum_le (f := q.2.2) (B := Z.1 1 4) (n := (Z.1 1 3).toNat) (fun k a b => g.2.2 k a (by omega))
  rw [show (((Z.1 1 3).toNat : Nat) : Int) = Z.1 1 3 by omega, Int.mul_comm] at this
  exact this
theorem mtIt_fix {Z : abZ} {h : Int} {j : Nat} (e : mtIt Z h (j + 1) = mtIt Z h j) : ∀ i : Nat, mtIt Z h (j + i) = mtIt Z h j
  | 0 => rfl
  | i + 1 => by
    show mtRn Z h (mtIt Z h (j + i)) (Z.1 1 3).toNat = _
    rw [mtIt_fix e i]
    exact e
set_option maxHeartbeats 4000000 in
set_option maxRecDepth 4000 in
theorem sp_X12_visit {G : slG} (hG : slGood G) {d K : Nat} (hd : 50 ≤ d) (hK : 0 ≤ K) {Φ : slPost} {σ : slM} {x1 : Int} {x2 : Int} {N : Nat} {Z : abZ} (hY : isY Z σ) (hZ : gdZ N Z) (i1 : InR x1) (i2 : InR x2) (h : mA Z σ Φ (abOk ((0 ≤ x1 ∧ x1 < Z.1 1 3) ∧ 0 ≤ x2 ∧ x2 < 240) (abVst Z x1 x2))) :
    slCall G mX12_visit d K [sR 12 0, sI x1, sI x2] σ Φ := by
  refine vc_X12_visit hG (by omega) hK (fun μ y3 σ' => ((0 ≤ x1 ∧ x1 < Z.1 1 3) ∧ 0 ≤ x2 ∧ x2 < 240) ∧ mS Z σ σ' ∧ mtAp Z x2 σ' ∧ μ = (5000, (Z.1 1 4 - y3).toNat, 0) ∧ (0 ≤ y3 ∧ y3 ≤ Z.1 1 4) ∧ ∀ s : Int, 0 ≤ s → s < y3 → σ' 100 0 s.toNat = -1) (fun μ y3 σ' => ((0 ≤ x1 ∧ x1 < Z.1 1 3) ∧ 0 ≤ x2 ∧ x2 < 240) ∧ mS Z σ σ' ∧ mtAp Z x2 σ' ∧ μ = (4000, (Z.1 1 3 - y3).toNat, 0) ∧ (0 ≤ y3 ∧ y3 ≤ Z.1 1 3) ∧ (∀ s : Int, 0 ≤ s → s < Z.1 1 4 → σ' 100 0 s.toNat = -1) ∧ ∀ l : Int, 0 ≤ l → l < y3 → σ' 99 0 l.toNat = -1 ∧ σ' 101 0 l.toNat = 0) (fun μ y3 σ' => ((0 ≤ x1 ∧ x1 < Z.1 1 3) ∧ 0 ≤ x2 ∧ x2 < 240) ∧ mS Z σ σ' ∧ mtAp Z x2 σ' ∧ ∃ j : Nat, isQ 99 100 Z (mtIt Z x2 j) σ' ∧ isQm Z x2 (mtIt Z x2 j) σ' ∧ (j : Int) ≤ mtSm Z (mtIt Z x2 j) ∧ ((y3 = 1 ∧ μ = ((Z.1 1 3 * Z.1 1 4 - mtSm Z (mtIt Z x2 j) + 1).toNat, 100, 0)) ∨ (y3 = 0 ∧ μ = (0, 0, 0) ∧ mtIt Z x2 (j + 1) = mtIt Z x2 j))) (fun μ y3 y4 σ' => ((0 ≤ x1 ∧ x1 < Z.1 1 3) ∧ 0 ≤ x2 ∧ x2 < 240) ∧ mS Z σ σ' ∧ mtAp Z x2 σ' ∧ (0 ≤ y4 ∧ y4 ≤ Z.1 1 3) ∧ ∃ j : Nat, isQ 99 100 Z (mtRn Z x2 (mtIt Z x2 j) y4.toNat) σ' ∧ isQm Z x2 (mtRn Z x2 (mtIt Z x2 j) y4.toNat) σ' ∧ (j : Int) ≤ mtSm Z (mtIt Z x2 j) ∧ μ = ((Z.1 1 3 * Z.1 1 4 - mtSm Z (mtIt Z x2 j) + 1).toNat, (Z.1 1 3 - y4).toNat, 0) ∧ ((y3 = 0 ∧ mtRn Z x2 (mtIt Z x2 j) y4.toNat = mtIt Z x2 j) ∨ (y3 = 1 ∧ mtSm Z (mtIt Z x2 j) + 1 ≤ mtSm Z (mtRn Z x2 (mtIt Z x2 j) y4.toNat)))) ?_ ?_ ?_ ?_ ?_
  · have a4 := hZ.c.2.2.2.2.1
    have y0 := hY.z
    refine sp_X12_isLight hG (by omega) (by omega) y0.1 hZ.c i1 (slU_same _ _ _ _ _) (fun q1 => slKt.ok ⟨in1, fun z => absurd z (by decide), fun _ => ?_⟩) (fun q => slKt.ok ⟨in0, fun _ => h.no (fun z => q z.1) mQ.id.t0 y0, fun z => absurd rfl z⟩)
    refine sp_X12_isHour hG (by omega) (by omega) i2 (slU_same _ _ _ _ _) (fun q2 => slKt.ok ⟨in1, fun _ => ?_, fun z => absurd z (by decide)⟩) (fun q => slKt.ok ⟨in0, fun z => absurd rfl z, fun _ => h.no (fun z => q z.2) mQ.id.t0 y0⟩)
    refine ms_now hG (by omega) y0 hZ mQ.id.t0 (slU_same _ _ _ _ _) (fun τ m => slKt.ok ?_)
    refine sp_X12_laysApart hG (by omega) (by omega) m hZ q2 (fun τ1 m1 A => slKt.ok ⟨_, ⟨q1, q2⟩, m1, A, rfl, ⟨by omega, by omega⟩, fun s a b => by omega⟩)
  · have a3 := hZ.c.2.2.2.1
    have a4 := hZ.c.2.2.2.2.1
    rintro μ y3 σ' ⟨p, m, A, rfl, hy, c1⟩
    rw [m.2.1.1.1.2.2.2.2.1]
    refine ⟨⟨⟨by omega, by omega⟩, by omega, by omega⟩, fun q => ⟨(4000, (Z.1 1 3 - 0).toNat, 0), Or.inl (by show 4000 < 5000; decide), p, m, A, rfl, ⟨by omega, by omega⟩, fun s a b => c1 s a (by omega), fun l a b => by omega⟩, fun q => ⟨⟨by omega, by omega⟩, (5000, (Z.1 1 4 - (y3 + 1)).toNat, 0), Or.inr ⟨rfl, Or.inl (by show (Z.1 1 4 - (y3 + 1)).toNat < (Z.1 1 4 - y3).toNat; omega)⟩, p, m.up (by decide) (by decide) (by decide) (by decide), fun l s a b c d => ?_, rfl, ⟨by omega, by omega⟩, fun s a b => ?_⟩⟩
    · rw [slU_else (by decide)]; exact A l s a b c d
    · by_cases z : s = y3
      · rw [z, slU_same]
      · rw [slU_ne (by omega)]; exact c1 s a (by omega)
  · have a3 := hZ.c.2.2.2.1
    have a4 := hZ.c.2.2.2.2.1
    have l34 : Z.1 1 3 * Z.1 1 4 ≤ 5 * 8 := Int.mul_le_mul (by omega) (by omega) (by omega) (by omega)
    rintro μ y3 σ' ⟨p, m, A, rfl, hy, c1, c2⟩
    have r0 := mtSm_r (mtIt_g (Z := Z) (h := x2) (by omega) (by omega) 0) (by omega)
    rw [m.2.1.1.1.2.2.2.1]
    refine ⟨⟨⟨by omega, by omega⟩, by omega, by omega⟩, fun q => ⟨_, ?_, p, m, A, 0, ⟨fun l a b => (c2 l a (by omega)).1, c1⟩, fun l a b => ?_, r0.1, Or.inl ⟨rfl, rfl⟩⟩, fun q => ⟨⟨by omega, by omega⟩, ⟨by omega, by omega⟩, (4000, (Z.1 1 3 - (y3 + 1)).toNat, 0), Or.inr ⟨rfl, Or.inl (by show (Z.1 1 3 - (y3 + 1)).toNat < (Z.1 1 3 - y3).toNat; omega)⟩, p, (m.up (by decide) (by decide) (by decide) (by decide)).up (by decide) (by decide) (by decide) (by decide), fun l s a b c d => ?_, rfl, ⟨by omega, by omega⟩, fun s a b => ?_, fun l a b => ?_⟩⟩
    · exact Or.inl (by show (Z.1 1 3 * Z.1 1 4 - mtSm Z (mtIt Z x2 0) + 1).toNat < 4000; omega)
    · rw [(c2 l a (by omega)).2]
      symm
      refine abMask_0.mpr (fun k k0 k8 z => ?_)
      have := (cnt_r (abLr_o (Z := Z) (h := x2) (l := l) (n := Z.1 1 4)) ⟨k0, z.1⟩).1
      have z2 : mtCn (Z.1 1 4) (abLr Z x2 l) k < 0 := z.2
      omega
    · rw [slU_else (by decide), slU_else (by decide)]; exact A l s a b c d
    · rw [slU_else (by decide), slU_else (by decide)]; exact c1 s a b
    · by_cases z : l = y3
      · rw [z, slU_same, slU_else (by decide), slU_same]; exact ⟨rfl, rfl⟩
      · rw [slU_else (by decide), slU_ne (by omega), slU_ne (by omega), slU_else (by decide)]; exact c2 l a (by omega)
  · have a3 := hZ.c.2.2.2.1
    have a4 := hZ.c.2.2.2.2.1
    rintro μ y3 σ' ⟨p, m, A, j, Q, Qm, js, k⟩
    have gj := mtIt_g (Z := Z) (h := x2) (by omega) (by omega) j
    have r := mtSm_r gj (by omega)
    refine ⟨by rcases k with k | k <;> rw [k.1] <;> exact ⟨by decide, by decide⟩, fun z => ⟨⟨by omega, by omega⟩, ?_⟩, fun z => ?_⟩
    · rcases k with k | k
      · omega
      · have kk := h.yes p m.1 m.2.1 m.2.2.1
        unfold abVst at kk
        have e := mtIt_fix k.2.2 ((Z.1 1 3 * Z.1 1 4).toNat - j)
        rw [show j + ((Z.1 1 3 * Z.1 1 4).toNat - j) = (Z.1 1 3 * Z.1 1 4).toNat by omega] at e
        rw [e] at kk
        rw [Q.1 x1 p.1.1 p.1.2]
        exact kk
    · rcases k with k | k
      · rw [k.2]
        exact ⟨((Z.1 1 3 * Z.1 1 4 - mtSm Z (mtIt Z x2 j) + 1).toNat, (Z.1 1 3 - 0).toNat, 0), Or.inr ⟨rfl, Or.inl (by show (Z.1 1 3 - 0).toNat < 100; omega)⟩, p, m, A, ⟨by omega, by omega⟩, j, Q, Qm, js, rfl, Or.inl ⟨rfl, rfl⟩⟩
      · omega
  · have a3 := hZ.c.2.2.2.1
    have a4 := hZ.c.2.2.2.2.1
    rintro μ y3 y4 σ' ⟨p, m, A, hy, j, Q, Qm, js, rfl, k⟩
    have gj := mtIt_g (Z := Z) (h := x2) (by omega) (by omega) j
    have r := mtSm_r gj (by omega)
    have g0 : mtG Z (mtRn Z x2 (mtIt Z x2 j) y4.toNat) := mtRn_g gj (by omega)
    have r0 := mtSm_r g0 (by omega)
    rw [m.2.1.1.1.2.2.2.1]
    refine ⟨⟨⟨by omega, by omega⟩, by omega, by omega⟩, fun q => ?_, fun q => ⟨⟨by omega, by omega⟩, ?_⟩⟩
    · have e4 : y4 = Z.1 1 3 := by omega
      rw [e4] at Q Qm k r0
      rcases k with k | k
      · refine ⟨(0, 0, 0), Or.inl (by show 0 < (Z.1 1 3 * Z.1 1 4 - mtSm Z (mtIt Z x2 j) + 1).toNat; omega), p, m, A, j, ?_, ?_, js, Or.inr ⟨k.1, rfl, k.2⟩⟩
        · rw [k.2] at Q; exact Q
        · rw [k.2] at Qm; exact Qm
      · refine ⟨_, Or.inl ?_, p, m, A, j + 1, Q, Qm, ?_, Or.inl ⟨k.1, rfl⟩⟩
        · show (Z.1 1 3 * Z.1 1 4 - mtSm Z (mtRn Z x2 (mtIt Z x2 j) (Z.1 1 3).toNat) + 1).toNat < (Z.1 1 3 * Z.1 1 4 - mtSm Z (mtIt Z x2 j) + 1).toNat
          have := k.2
          omega
        · show ((j + 1 : Nat) : Int) ≤ mtSm Z (mtRn Z x2 (mtIt Z x2 j) (Z.1 1 3).toNat)
          have := k.2
          omega
    · have gh := g0.1 y4 hy.1 (by omega)
      have lt : slLt ((Z.1 1 3 * Z.1 1 4 - mtSm Z (mtIt Z x2 j) + 1).toNat, (Z.1 1 3 - (y4 + 1)).toNat, 0) ((Z.1 1 3 * Z.1 1 4 - mtSm Z (mtIt Z x2 j) + 1).toNat, (Z.1 1 3 - y4).toNat, 0) := Or.inr ⟨rfl, Or.inl (by show (Z.1 1 3 - (y4 + 1)).toNat < (Z.1 1 3 - y4).toNat; omega)⟩
      have es := mtRn_s (Z := Z) (h := x2) (q := mtIt Z x2 j) hy.1
      have same : ¬ ((mtRn Z x2 (mtIt Z x2 j) y4.toNat).1 y4 = -1 ∧ (mtRn Z x2 (mtIt Z x2 j) y4.toNat).2.2 y4 < Z.1 1 4) → mtRn Z x2 (mtIt Z x2 j) (y4 + 1).toNat = mtRn Z x2 (mtIt Z x2 j) y4.toNat := fun no => by
        rw [es]; exact abIte_f no
      rw [Q.1 y4 hy.1 (by omega)]
      refine ⟨⟨by omega, by omega⟩, fun z => ⟨_, lt, p, m, A, ⟨by omega, by omega⟩, j, ?_⟩, fun z => ?_⟩
      · rw [same (fun u => z u.1)]; exact ⟨Q, Qm, js, rfl, k⟩
      · refine sp_X12_asks hG (by omega) (by omega) m hZ A Q Qm g0 ⟨hy.1, by omega⟩ (fun w => slKt.ok ⟨in0, fun u => absurd rfl u, fun _ => ⟨?_, _, lt, p, m, A, ⟨by omega, by omega⟩, j, ?_⟩⟩) (fun w τ m1 A1 Q1 Qm1 => slKt.ok ⟨in1, fun _ => ⟨_, lt, p, m1, A1, ⟨by omega, by omega⟩, j, ?_⟩, fun u => absurd u (by decide)⟩)
        · rcases k with k | k <;> rw [k.1] <;> exact ⟨by decide, by decide⟩
        · rw [same (fun u => w u.2)]
          refine ⟨Q, Qm, js, rfl, ?_⟩
          rcases k with k | k
          · exact Or.inl ⟨by rw [k.1, if_pos rfl], k.2⟩
          · exact Or.inr ⟨by rw [k.1, if_neg (by decide)], k.2⟩
        · have e2 : mtRn Z x2 (mtIt Z x2 j) (y4 + 1).toNat = mtTk Z x2 y4 (mtSh Z x2 y4 ((mtRn Z x2 (mtIt Z x2 j) y4.toNat).2.2 y4)) (mtRn Z x2 (mtIt Z x2 j) y4.toNat) := by
            rw [es]; exact abIte_t ⟨z, w⟩
          rw [e2]
          refine ⟨Q1, Qm1, js, rfl, Or.inr ⟨rfl, ?_⟩⟩
          rw [mtSm_tk ⟨hy.1, by omega⟩]
          rcases k with k | k
          · rw [k.2]; exact Int.le_refl _
          · have := k.2; omega
