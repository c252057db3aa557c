/-! ===== lights ask in turn ===== -/
/-- has, of whom, how often asked -/
abbrev abQ : Type := (Int → Int) × (Int → Int) × (Int → Int)
noncomputable def mtSh (Z : abZ) (h l j : Int) : Int := @Classical.epsilon Int ⟨0⟩ (fun s => 0 ≤ s ∧ s < Z.1 1 4 ∧ mtP Z h l s = j)
theorem mtSh_p {Z : abZ} {h l j : Int} (hj : 0 ≤ j ∧ j < Z.1 1 4) : 0 ≤ mtSh Z h l j ∧ mtSh Z h l j < Z.1 1 4 ∧ mtP Z h l (mtSh Z h l j) = j :=
  @Classical.epsilon_spec Int (fun s => 0 ≤ s ∧ s < Z.1 1 4 ∧ mtP Z h l s = j) (cnt_ex abLr_o hj)
theorem mtSh_u {Z : abZ} {h l j s : Int} (hj : 0 ≤ j ∧ j < Z.1 1 4) (hs : 0 ≤ s ∧ s < Z.1 1 4) (e : mtP Z h l s = j) : s = mtSh Z h l j := by
  have p := mtSh_p (h := h) (l := l) hj
  exact cnt_inj abLr_o hs ⟨p.1, p.2.1⟩ (e.trans p.2.2.symm)
noncomputable def mtTk (Z : abZ) (h l s : Int) (q : abQ) : abQ :=
  abIte (mtSR Z h s l (q.2.1 s)) (abPut (abIte (q.2.1 s = -1) q.1 (abPut q.1 (q.2.1 s) (-1))) l s, abPut q.2.1 s l, abPut q.2.2 l (q.2.2 l + 1)) (q.1, q.2.1, abPut q.2.2 l (q.2.2 l + 1))
noncomputable def mtSt (Z : abZ) (h l : Int) (q : abQ) : abQ := abIte (q.1 l = -1 ∧ q.2.2 l < Z.1 1 4) (mtTk Z h l (mtSh Z h l (q.2.2 l)) q) q
noncomputable def mtRn (Z : abZ) (h : Int) (q : abQ) : Nat → abQ
  | 0 => q
  | n + 1 => mtSt Z h n (mtRn Z h q n)
noncomputable def mtIt (Z : abZ) (h : Int) : Nat → abQ
  | 0 => (fun _ => -1, fun _ => -1, fun _ => 0)
  | n + 1 => mtRn Z h (mtIt Z h n) (Z.1 1 3).toNat
theorem mtRn_s {Z : abZ} {h y : Int} {q : abQ} (hy : 0 ≤ y) : mtRn Z h q (y + 1).toNat = mtSt Z h y (mtRn Z h q y.toNat) := by
  obtain ⟨n, rfl⟩ := Int.eq_ofNat_of_zero_le hy
  rw [show ((n : Int) + 1).toNat = n + 1 by omega, Int.toNat_natCast]
  rfl
def mtG (Z : abZ) (q : abQ) : Prop := (∀ l : Int, 0 ≤ l → l < Z.1 1 3 → -1 ≤ q.1 l ∧ q.1 l < Z.1 1 4) ∧ (∀ s : Int, 0 ≤ s → s < Z.1 1 4 → -1 ≤ q.2.1 s ∧ q.2.1 s < Z.1 1 3) ∧ ∀ l : Int, 0 ≤ l → l < Z.1 1 3 → 0 ≤ q.2.2 l ∧ q.2.2 l ≤ Z.1 1 4
theorem ab_put {f : Int → Int} {l v k : Int} : abPut f l v k = if k = l then v else f k := rfl
theorem mtTk_g {Z : abZ} {h l s : Int} {q : abQ} (g : mtG Z q) (hl : 0 ≤ l ∧ l < Z.1 1 3) (hs : 0 ≤ s ∧ s < Z.1 1 4) (hq : q.2.2 l < Z.1 1 4) : mtG Z (mtTk Z h l s q) := by
  have g3 : ∀ k : Int, 0 ≤ k → k < Z.1 1 3 → 0 ≤ abPut q.2.2 l (q.2.2 l + 1) k ∧ abPut q.2.2 l (q.2.2 l + 1) k ≤ Z.1 1 4 := fun k a b => by
    rw [ab_put]
    have := g.2.2 l hl.1 hl.2
    have := g.2.2 k a b
    split <;> omega
  unfold mtTk
  by_cases z : mtSR Z h s l (q.2.1 s)
  · rw [abIte_t z]
    refine ⟨fun k a b => ?_, fun k a b => ?_, g3⟩
    · show -1 ≤ abPut (abIte (q.2.1 s = -1) q.1 (abPut q.1 (q.2.1 s) (-1))) l s k ∧ abPut (abIte (q.2.1 s = -1) q.1 (abPut q.1 (q.2.1 s) (-1))) l s k < Z.1 1 4
      rw [ab_put]
      by_cases e : k = l
      · rw [if_pos e]; omega
      · rw [if_neg e]
        have := g.1 k a b
        by_cases w : q.2.1 s = -1
        · rw [abIte_t w]; exact this
        · rw [abIte_f w, ab_put]
          split <;> omega
    · show -1 ≤ abPut q.2.1 s l k ∧ abPut q.2.1 s l k < Z.1 1 3
      rw [ab_put]
      have := g.2.1 k a b
      split <;> omega
  · rw [abIte_f z]
    exact ⟨g.1, g.2.1, g3⟩
theorem mtSt_g {Z : abZ} {h l : Int} {q : abQ} (g : mtG Z q) (hl : 0 ≤ l ∧ l < Z.1 1 3) : mtG Z (mtSt Z h l q) := by
  unfold mtSt
  by_cases z : q.1 l = -1 ∧ q.2.2 l < Z.1 1 4
  · rw [abIte_t z]
    have p := mtSh_p (h := h) (l := l) ⟨(g.2.2 l hl.1 hl.2).1, z.2⟩
    exact mtTk_g g hl ⟨p.1, p.2.1⟩ z.2
  · rw [abIte_f z]; exact g
theorem mtRn_g {Z : abZ} {h : Int} {q : abQ} (g : mtG Z q) : ∀ {n : Nat}, (n : Int) ≤ Z.1 1 3 → mtG Z (mtRn Z h q n)
  | 0, _ => g
  | n + 1, hn => mtSt_g (mtRn_g g (by omega)) ⟨by omega, by omega⟩
theorem mtIt_g {Z : abZ} {h : Int} (h3 : 0 ≤ Z.1 1 3) (h4 : 0 ≤ Z.1 1 4) : ∀ n : Nat, mtG Z (mtIt Z h n)
  | 0 => ⟨fun l a b => by show (-1 : Int) ≤ -1 ∧ (-1 : Int) < Z.1 1 4; omega, fun l a b => by show (-1 : Int) ≤ -1 ∧ (-1 : Int) < Z.1 1 3; omega, fun l a b => by show (0 : Int) ≤ 0 ∧ (0 : Int) ≤ Z.1 1 4; omega⟩
  | n + 1 => mtRn_g (mtIt_g h3 h4 n) (by omega)
/-- what the arrays hold of it -/
def isQ (rH rO : Nat) (Z : abZ) (q : abQ) (σ : slM) : Prop := (∀ l : Int, 0 ≤ l → l < Z.1 1 3 → σ rH 0 l.toNat = q.1 l) ∧ ∀ s : Int, 0 ≤ s → s < Z.1 1 4 → σ rO 0 s.toNat = q.2.1 s
theorem isQ.tk {rH rO : Nat} {Z : abZ} {q : abQ} {σ : slM} {h l s : Int} (ne : rH ≠ rO) (Q : isQ rH rO Z q σ) (g : mtG Z q) (hl : 0 ≤ l ∧ l < Z.1 1 3) (hs : 0 ≤ s ∧ s < Z.1 1 4) (r : mtSR Z h s l (q.2.1 s)) :
    (σ rO 0 s.toNat = -1 → isQ rH rO Z (mtTk Z h l s q) (slU (slU σ rO 0 s.toNat l) rH 0 l.toNat s)) ∧ (¬ σ rO 0 s.toNat = -1 → isQ rH rO Z (mtTk Z h l s q) (slU (slU (slU σ rH 0 (σ rO 0 s.toNat).toNat (-1)) rO 0 s.toNat l) rH 0 l.toNat s)) := by
  have eo := Q.2 s hs.1 hs.2
  have go := g.2.1 s hs.1 hs.2
  have e : mtTk Z h l s q = (abPut (abIte (q.2.1 s = -1) q.1 (abPut q.1 (q.2.1 s) (-1))) l s, abPut q.2.1 s l, abPut q.2.2 l (q.2.2 l + 1)) := abIte_t r
  rw [e]
  constructor
  · intro z
    rw [eo] at z
    refine ⟨fun k a b => ?_, fun k a b => ?_⟩
    · show _ = abPut (abIte (q.2.1 s = -1) q.1 (abPut q.1 (q.2.1 s) (-1))) l s k
      rw [abIte_t z, ab_put]
      by_cases w : k = l
      · rw [if_pos w, w, slU_same]
      · rw [if_neg w, slU_ne (by omega), slU_else (fun u => ne u.1)]
        exact Q.1 k a b
    · show _ = abPut q.2.1 s l k
      rw [ab_put, slU_else (fun u => ne u.1.symm)]
      by_cases w : k = s
      · rw [if_pos w, w, slU_same]
      · rw [if_neg w, slU_ne (by omega)]
        exact Q.2 k a b
  · intro z
    rw [eo] at z ⊢
    refine ⟨fun k a b => ?_, fun k a b => ?_⟩
    · show _ = abPut (abIte (q.2.1 s = -1) q.1 (abPut q.1 (q.2.1 s) (-1))) l s k
      rw [abIte_f z, ab_put, ab_put]
      by_cases w : k = l
      · rw [if_pos w, w, slU_same]
      · rw [if_neg w, slU_ne (by omega), slU_else (fun u => ne u.1)]
        by_cases v : k = q.2.1 s
        · rw [if_pos v, v, slU_same]
        · rw [if_neg v, slU_ne (by omega)]
          exact Q.1 k a b
    · show _ = abPut q.2.1 s l k
      rw [ab_put, slU_else (fun u => ne u.1.symm)]
      by_cases w : k = s
      · rw [if_pos w, w, slU_same]
      · rw [if_neg w, slU_ne (by omega), slU_else (fun u => ne u.1.symm)]
        exact Q.2 k a b
def isQa (Z : abZ) (q : abQ) (σ : slM) : Prop := ∀ l : Int, 0 ≤ l → l < Z.1 1 3 → σ 49 0 l.toNat = q.2.2 l
theorem mtTk_a {Z : abZ} {h l s : Int} {q : abQ} : (mtTk Z h l s q).2.2 = abPut q.2.2 l (q.2.2 l + 1) := by
  unfold mtTk
  by_cases z : mtSR Z h s l (q.2.1 s)
  · rw [abIte_t z]
  · rw [abIte_f z]
theorem isMt.c {Z : abZ} {h : Int} {σ τ : slM} (M : isMt Z h σ) (e6 : τ 6 0 = σ 6 0) (e44 : τ 44 0 = σ 44 0) (e45 : τ 45 0 = σ 45 0) : isMt Z h τ := by
  unfold isMt
  rw [e6, e44, e45]
  exact M
theorem isQ.c {rH rO : Nat} {Z : abZ} {q : abQ} {σ τ : slM} (Q : isQ rH rO Z q σ) (e1 : τ rH 0 = σ rH 0) (e2 : τ rO 0 = σ rO 0) : isQ rH rO Z q τ := by
  unfold isQ
  rw [e1, e2]
  exact Q
set_option maxHeartbeats 1000000 in
set_option maxRecDepth 4000 in
theorem sp_X6_ask {G : slG} (hG : slGood G) {d K : Nat} (hd : 5 ≤ d) (hK : 0 ≤ K) {Φ : slPost} {σ : slM} {x1 : Int} {N : Nat} {Z : abZ} {t : Int} {q : abQ} (hZ : gdZ N Z) (M : isMt Z t σ) (Q : isQ 47 48 Z q σ) (Qa : isQa Z q σ) (g : mtG Z q) (h1 : 0 ≤ x1 ∧ x1 < Z.1 1 3) (hq : q.2.2 x1 < Z.1 1 4) (h : ∀ τ, slFr [(47, 0), (48, 0), (49, 0)] σ τ → isQ 47 48 Z (mtTk Z t x1 (mtSh Z t x1 (q.2.2 x1)) q) τ → isQa Z (mtTk Z t x1 (mtSh Z t x1 (q.2.2 x1)) q) τ → Φ (0, 0) τ) :
    slCall G mX6_ask d K [sR 6 0, sI x1] σ Φ := by
  refine vc_X6_ask hG (by omega) hK (fun μ y2 y3 σ' => y2 = q.2.2 x1 ∧ slFr [(47, 0), (48, 0), (49, 0)] σ σ' ∧ μ = ((Z.1 1 4 - y3).toNat, 0, 0) ∧ (0 ≤ y3 ∧ y3 ≤ Z.1 1 4) ∧ isQa Z (mtTk Z t x1 (mtSh Z t x1 (q.2.2 x1)) q) σ' ∧ (y3 ≤ mtSh Z t x1 (q.2.2 x1) → isQ 47 48 Z q σ') ∧ (mtSh Z t x1 (q.2.2 x1) < y3 → isQ 47 48 Z (mtTk Z t x1 (mtSh Z t x1 (q.2.2 x1)) q) σ')) ?_ ?_
  · have a3 := hZ.c.2.2.2.1
    have a4 := hZ.c.2.2.2.2.1
    have p := mtSh_p (h := t) (l := x1) ⟨(g.2.2 x1 h1.1 h1.2).1, hq⟩
    refine ⟨⟨by omega, by omega⟩, ⟨by omega, by omega⟩, ⟨by omega, by omega⟩, _, Qa x1 h1.1 h1.2, slFr.id.up (by simp), rfl, ⟨by omega, by omega⟩, fun l a b => ?_, fun _ => Q.c (slU_else (by decide)) (slU_else (by decide)), fun z => by omega⟩
    rw [mtTk_a, ab_put]
    by_cases w : l = x1
    · rw [if_pos w, w, slU_same, Qa x1 h1.1 h1.2]
    · rw [if_neg w, slU_ne (by omega)]; exact Qa l a b
  · have a3 := hZ.c.2.2.2.1
    have a4 := hZ.c.2.2.2.2.1
    have gq := g.2.2 x1 h1.1 h1.2
    have p := mtSh_p (h := t) (l := x1) ⟨gq.1, hq⟩
    rintro μ y2 y3 σ' ⟨rfl, fr, rfl, hy, Q2, k1, k2⟩
    have M' : isMt Z t σ' := M.c (fr 6 0 (by simp)) (fr 44 0 (by simp)) (fr 45 0 (by simp))
    rw [M'.2.1]
    have lt : ¬ Z.1 1 4 ≤ y3 → slLt ((Z.1 1 4 - (y3 + 1)).toNat, 0, 0) ((Z.1 1 4 - y3).toNat, 0, 0) := fun q => Or.inl (by show (Z.1 1 4 - (y3 + 1)).toNat < (Z.1 1 4 - y3).toNat; omega)
    refine ⟨⟨⟨by omega, by omega⟩, by omega, by omega⟩, fun qq => h σ' fr (k2 (by omega)) Q2, fun qq => ⟨⟨by omega, by omega⟩, ?_⟩⟩
    rw [(M'.2.2 x1 y3 h1.1 h1.2 hy.1 (by omega)).1]
    have rp : 0 ≤ mtP Z t x1 y3 ∧ mtP Z t x1 y3 < Z.1 1 4 := cnt_r abLr_o ⟨hy.1, by omega⟩
    refine ⟨⟨⟨by omega, by omega⟩, by omega, by omega⟩, fun z => ⟨_, lt qq, rfl, fr, rfl, ⟨by omega, by omega⟩, Q2, fun w => k1 (by omega), fun w => k2 ?_⟩, fun z => ?_⟩
    · by_cases u : y3 = mtSh Z t x1 (q.2.2 x1)
      · rw [u] at z; exact absurd p.2.2 z
      · omega
    · have e := mtSh_u ⟨gq.1, hq⟩ ⟨hy.1, by omega⟩ z
      have Q1 := k1 (by omega)
      have go := g.2.1 y3 hy.1 (by omega)
      have eo := Q1.2 y3 hy.1 (by omega)
      rw [← e] at h Q2 ⊢
      refine ⟨⟨by omega, by omega⟩, ?_⟩
      refine sp_X6_wouldRather hG (by omega) (by omega) hZ M' ⟨hy.1, by omega⟩ h1 (by rw [eo]; exact go) (slKt.ok ⟨in01, fun w => ⟨_, lt qq, rfl, fr, rfl, ⟨by omega, by omega⟩, Q2, fun w => by omega, fun _ => ?_⟩, fun w => ?_⟩)
      · have w := abIf_z w
        rw [eo] at w
        have et : mtTk Z t x1 y3 q = (q.1, q.2.1, abPut q.2.2 x1 (q.2.2 x1 + 1)) := abIte_f w
        rw [et]
        exact Q1
      · have w := abIf_nz w
        rw [eo] at w
        have T := Q1.tk (by decide) g h1 ⟨hy.1, by omega⟩ w
        rw [eo] at T ⊢
        refine ⟨⟨by omega, by omega⟩, ⟨by omega, by omega⟩, fun u => ⟨⟨by omega, by omega⟩, ⟨by omega, by omega⟩, _, lt qq, rfl, (fr.up (by simp)).up (by simp), rfl, ⟨by omega, by omega⟩, fun l a b => ?_, fun w => by omega, fun _ => T.1 u⟩, fun u => ⟨⟨by omega, by omega⟩, ⟨by omega, by omega⟩, ⟨by omega, by omega⟩, ⟨by omega, by omega⟩, _, lt qq, rfl, ((fr.up (by simp)).up (by simp)).up (by simp), rfl, ⟨by omega, by omega⟩, fun l a b => ?_, fun w => by omega, fun _ => T.2 u⟩⟩
        · rw [slU_else (by decide), slU_else (by decide)]; exact Q2 l a b
        · rw [slU_else (by decide), slU_else (by decide), slU_else (by decide)]; exact Q2 l a b
noncomputable def abVst (Z : abZ) (l h : Int) : Int := (mtIt Z h (Z.1 1 3 * Z.1 1 4).toNat).1 l
set_option maxHeartbeats 4000000 in
set_option maxRecDepth 4000 in
theorem sp_X6_bestShipFor {G : slG} (hG : slGood G) {d K : Nat} (hd : 10 ≤ d) (hK : 0 ≤ K) {Φ : slPost} {σ : slM} {x1 : Int} {N : Nat} {Z : abZ} {t : Int} (hZ : gdZ N Z) (M : isMt Z t σ) (h1 : 0 ≤ x1 ∧ x1 < Z.1 1 3) (h : ∀ τ, slFr [(47, 0), (48, 0), (49, 0)] σ τ → Φ (0, abVst Z x1 t) τ) :
    slCall G mX6_bestShipFor d K [sR 6 0, sI x1] σ Φ := by
  refine vc_X6_bestShipFor hG (by omega) hK (fun μ y2 σ' => slFr [(47, 0), (48, 0), (49, 0)] σ σ' ∧ μ = (2000, (Z.1 1 3 - y2).toNat, 0) ∧ (0 ≤ y2 ∧ y2 ≤ Z.1 1 3) ∧ ∀ l : Int, 0 ≤ l → l < y2 → σ' 47 0 l.toNat = -1 ∧ σ' 49 0 l.toNat = 0) (fun μ y2 σ' => slFr [(47, 0), (48, 0), (49, 0)] σ σ' ∧ μ = (1000, (Z.1 1 4 - y2).toNat, 0) ∧ (0 ≤ y2 ∧ y2 ≤ Z.1 1 4) ∧ (∀ l : Int, 0 ≤ l → l < Z.1 1 3 → σ' 47 0 l.toNat = -1 ∧ σ' 49 0 l.toNat = 0) ∧ ∀ l : Int, 0 ≤ l → l < y2 → σ' 48 0 l.toNat = -1) (fun μ y2 σ' => slFr [(47, 0), (48, 0), (49, 0)] σ σ' ∧ μ = ((Z.1 1 3 * Z.1 1 4 - y2).toNat, 100, 0) ∧ (0 ≤ y2 ∧ y2 ≤ Z.1 1 3 * Z.1 1 4) ∧ isQ 47 48 Z (mtIt Z t y2.toNat) σ' ∧ isQa Z (mtIt Z t y2.toNat) σ') (fun μ y2 y3 σ' => slFr [(47, 0), (48, 0), (49, 0)] σ σ' ∧ μ = ((Z.1 1 3 * Z.1 1 4 - y2).toNat, (Z.1 1 3 - y3).toNat, 0) ∧ (0 ≤ y2 ∧ y2 < Z.1 1 3 * Z.1 1 4) ∧ (0 ≤ y3 ∧ y3 ≤ Z.1 1 3) ∧ isQ 47 48 Z (mtRn Z t (mtIt Z t y2.toNat) y3.toNat) σ' ∧ isQa Z (mtRn Z t (mtIt Z t y2.toNat) y3.toNat) σ') ?_ ?_ ?_ ?_ ?_
  · have a3 := hZ.c.2.2.2.1
    exact ⟨_, slFr.id, rfl, ⟨by omega, by omega⟩, fun l a b => by omega⟩
  · have a3 := hZ.c.2.2.2.1
    have a4 := hZ.c.2.2.2.2.1
    rintro μ y2 σ' ⟨fr, rfl, hy, c1⟩
    rw [fr 6 0 (by simp), M.1]
    refine ⟨⟨⟨by omega, by omega⟩, by omega, by omega⟩, fun q => ⟨(1000, (Z.1 1 4 - 0).toNat, 0), Or.inl (by show 1000 < 2000; decide), fr, rfl, ⟨by omega, by omega⟩, fun l a b => c1 l a (by omega), fun l a b => by omega⟩, fun q => ⟨⟨by omega, by omega⟩, ⟨by omega, by omega⟩, (2000, (Z.1 1 3 - (y2 + 1)).toNat, 0), Or.inr ⟨rfl, Or.inl (by show (Z.1 1 3 - (y2 + 1)).toNat < (Z.1 1 3 - y2).toNat; omega)⟩, (fr.up (by simp)).up (by simp), rfl, ⟨by omega, by omega⟩, fun l a b => ?_⟩⟩
    by_cases z : l = y2
    · rw [z, slU_same, slU_else (by decide), slU_same]; exact ⟨rfl, rfl⟩
    · rw [slU_else (by decide), slU_ne (by omega), slU_ne (by omega), slU_else (by decide)]; exact c1 l a (by omega)
  · have a3 := hZ.c.2.2.2.1
    have a4 := hZ.c.2.2.2.2.1
    have a34 := ab_mul (a := Z.1 1 3) (b := Z.1 1 4) (by omega) (by omega) (by omega) (by omega)
    have n34 : 0 ≤ Z.1 1 3 * Z.1 1 4 := Int.mul_nonneg (by omega) (by omega)
    have l34 : Z.1 1 3 * Z.1 1 4 ≤ 5 * 8 := Int.mul_le_mul (by omega) (by omega) (by omega) (by omega)
    rintro μ y2 σ' ⟨fr, rfl, hy, c1, c2⟩
    rw [fr 6 0 (by simp), M.2.1]
    refine ⟨⟨⟨by omega, by omega⟩, by omega, by omega⟩, fun q => ⟨((Z.1 1 3 * Z.1 1 4 - 0).toNat, 100, 0), Or.inl (by show (Z.1 1 3 * Z.1 1 4 - 0).toNat < 1000; omega), fr, rfl, ⟨by omega, by omega⟩, ⟨fun l a b => (c1 l a b).1, fun l a b => c2 l a (by omega)⟩, fun l a b => (c1 l a b).2⟩, fun q => ⟨⟨by omega, by omega⟩, (1000, (Z.1 1 4 - (y2 + 1)).toNat, 0), Or.inr ⟨rfl, Or.inl (by show (Z.1 1 4 - (y2 + 1)).toNat < (Z.1 1 4 - y2).toNat; omega)⟩, fr.up (by simp), rfl, ⟨by omega, by omega⟩, fun l a b => ?_, fun l a b => ?_⟩⟩
    · rw [slU_else (by decide), slU_else (by decide)]; exact c1 l a b
    · by_cases z : l = y2
      · rw [z, slU_same]
      · rw [slU_ne (by omega)]; exact c2 l a (by omega)
  · have a3 := hZ.c.2.2.2.1
    have a4 := hZ.c.2.2.2.2.1
    have l34 : Z.1 1 3 * Z.1 1 4 ≤ 5 * 8 := Int.mul_le_mul (by omega) (by omega) (by omega) (by omega)
    rintro μ y2 σ' ⟨fr, rfl, hy, c1, c2⟩
    rw [fr 6 0 (by simp), M.1, M.2.1]
    refine ⟨⟨⟨by omega, by omega⟩, by omega, by omega⟩, fun q => ⟨⟨by omega, by omega⟩, ?_⟩, fun q => ⟨((Z.1 1 3 * Z.1 1 4 - y2).toNat, (Z.1 1 3 - 0).toNat, 0), Or.inr ⟨rfl, Or.inl (by show (Z.1 1 3 - 0).toNat < 100; omega)⟩, fr, rfl, ⟨by omega, by omega⟩, ⟨by omega, by omega⟩, c1, c2⟩⟩
    rw [c1.1 x1 h1.1 h1.2, show y2 = Z.1 1 3 * Z.1 1 4 by omega]
    exact h σ' fr
  · have a3 := hZ.c.2.2.2.1
    have a4 := hZ.c.2.2.2.2.1
    rintro μ y2 y3 σ' ⟨fr, rfl, hy, hy3, c1, c2⟩
    have M' : isMt Z t σ' := M.c (fr 6 0 (by simp)) (fr 44 0 (by simp)) (fr 45 0 (by simp))
    have g0 : mtG Z (mtRn Z t (mtIt Z t y2.toNat) y3.toNat) := mtRn_g (mtIt_g (by omega) (by omega) _) (by omega)
    rw [M'.1, M'.2.1]
    refine ⟨⟨⟨by omega, by omega⟩, by omega, by omega⟩, fun q => ⟨((Z.1 1 3 * Z.1 1 4 - (y2 + 1)).toNat, 100, 0), Or.inl (by show (Z.1 1 3 * Z.1 1 4 - (y2 + 1)).toNat < (Z.1 1 3 * Z.1 1 4 - y2).toNat; omega), fr, rfl, ⟨by omega, by omega⟩, ?_⟩, fun q => ⟨⟨by omega, by omega⟩, ?_⟩⟩
    · rw [show (y2 + 1).toNat = y2.toNat + 1 by omega]
      show isQ 47 48 Z (mtRn Z t (mtIt Z t y2.toNat) (Z.1 1 3).toNat) σ' ∧ isQa Z (mtRn Z t (mtIt Z t y2.toNat) (Z.1 1 3).toNat) σ'
      rw [show Z.1 1 3 = y3 by omega]
      exact ⟨c1, c2⟩
    · have gh := g0.1 y3 hy3.1 (by omega)
      have ga := g0.2.2 y3 hy3.1 (by omega)
      have lt : slLt ((Z.1 1 3 * Z.1 1 4 - y2).toNat, (Z.1 1 3 - (y3 + 1)).toNat, 0) ((Z.1 1 3 * Z.1 1 4 - y2).toNat, (Z.1 1 3 - y3).toNat, 0) := Or.inr ⟨rfl, Or.inl (by show (Z.1 1 3 - (y3 + 1)).toNat < (Z.1 1 3 - y3).toNat; omega)⟩
      have es := mtRn_s (Z := Z) (h := t) (q := mtIt Z t y2.toNat) hy3.1
      have same : ¬ ((mtRn Z t (mtIt Z t y2.toNat) y3.toNat).1 y3 = -1 ∧ (mtRn Z t (mtIt Z t y2.toNat) y3.toNat).2.2 y3 < Z.1 1 4) → mtRn Z t (mtIt Z t y2.toNat) (y3 + 1).toNat = mtRn Z t (mtIt Z t y2.toNat) y3.toNat := fun no => by
        rw [es]; exact abIte_f no
      rw [c1.1 y3 hy3.1 (by omega), c2 y3 hy3.1 (by omega)]
      refine ⟨⟨by omega, by omega⟩, fun z => ⟨_, lt, fr, rfl, hy, ⟨by omega, by omega⟩, ?_⟩, fun z => ⟨⟨by omega, by omega⟩, ⟨⟨by omega, by omega⟩, by omega, by omega⟩, fun w => ⟨_, lt, fr, rfl, hy, ⟨by omega, by omega⟩, ?_⟩, fun w => ?_⟩⟩
      · rw [same (fun u => z u.1)]; exact ⟨c1, c2⟩
      · rw [same (fun u => by have := u.2; omega)]; exact ⟨c1, c2⟩
      · refine sp_X6_ask hG (by omega) (by omega) hZ M' c1 c2 g0 ⟨hy3.1, by omega⟩ (by omega) (fun τ f2 q1 q2 => slKt.ok ⟨_, lt, fr.tr f2, rfl, hy, ⟨by omega, by omega⟩, ?_⟩)
        have e2 : mtRn Z t (mtIt Z t y2.toNat) (y3 + 1).toNat = mtTk Z t y3 (mtSh Z t y3 ((mtRn Z t (mtIt Z t y2.toNat) y3.toNat).2.2 y3)) (mtRn Z t (mtIt Z t y2.toNat) y3.toNat) := by
          rw [es]; exact abIte_t ⟨z, by omega⟩
        rw [e2]
        exact ⟨q1, q2⟩
set_option maxHeartbeats 1000000 in
set_option maxRecDepth 4000 in
theorem sp_X11_visit {G : slG} (hG : slGood G) {d K : Nat} (hd : 50 ≤ d) (hK : 2 ≤ K) {Φ : slPost} {σ : slM} {x1 : Int} {x2 : Int} {c s N : Nat} {Z : abZ} (hX : isX c s Z σ) (hZ : gdZ N Z) (i1 : InR x1) (i2 : InR x2) (h : cA c s Z σ Φ (abOk ((0 ≤ x1 ∧ x1 < Z.1 1 3) ∧ 0 ≤ x2 ∧ x2 < 240) (abVst Z x1 x2))) :
    slCall G mX11_visit d K [sR 11 0, sI x1, sI x2] σ Φ := by
  refine vc_X11_visit hG (by omega) hK  ?_
  refine sp_X11_needLight hG (by omega) (by omega) hX hZ.c i1 (fun q1 => slKt.ok ?_) (fun q => slKt.ex (Or.inl rfl) (h.no (fun z => q z.1) cQ.id hX))
  refine sp_X11_needHour hG (by omega) (by omega) i2 (fun q2 => slKt.ok ?_) (fun q => slKt.ex (Or.inl rfl) (h.no (fun z => q z.2) cQ.id hX))
  refine sp_X11_settle hG (by omega) (by omega) hX hZ (fun τ f x t => slKt.ok ?_)
  rw [x.e4, x.e5]
  refine sp_X6_rankAll hG (by omega) (by omega) hZ ⟨f, x, t⟩ rfl rfl q2 (fun τ1 m1 M => slKt.ok ?_)
  refine sp_X6_bestShipFor hG (by omega) (by omega) hZ M q1 (fun τ2 f2 => slKt.ok ?_)
  have m2 : cS c s Z σ τ2 := m1.fr f2 (by decide) (fun k hk => by rw [f2 36 1 (by simp)]; exact m1.dz k hk)
  exact h.yes ⟨q1, q2⟩ m2.1 m2.2.1
/-! ===== how many stable matchings there are ===== -/
def mtW (Z : abZ) (h : Int) (m : Int → Int) (l o : Int) : Prop := m o ≠ -1 ∧ mtLR Z h l (m o) (m l) ∧ mtSR Z h (m o) l o
def mtQ (Z : abZ) (h : Int) (k : Int) (m : Int → Int) : Prop := ∀ o : Int, 0 ≤ o → o < k → ¬ mtW Z h m k o ∧ ¬ mtW Z h m o k
def mtF (k : Int) (m : Int → Int) (s : Int) : Prop := s = -1 ∨ ∀ o : Int, 0 ≤ o → o < k → m o ≠ s
def mtN (Z : abZ) (h : Int) (m : Int → Int) : Prop := ∀ s : Int, 0 ≤ s → s < Z.1 1 4 → (∀ o : Int, 0 ≤ o → o < Z.1 1 3 → m o ≠ s) → ∀ l : Int, 0 ≤ l → l < Z.1 1 3 → ¬ mtLR Z h l s (m l)
noncomputable def abCt (Z : abZ) (h : Int) : Nat → Int → (Int → Int) → Int
  | 0, _, m => abIf (mtN Z h m) 1 0
  | n + 1, k, m => abSum (fun j => abIf (mtF k m (j - 1) ∧ mtQ Z h k (abPut m k (j - 1))) (abCt Z h n (k + 1) (abPut m k (j - 1))) 0) (Z.1 1 4 + 1).toNat
theorem mtW_c {Z : abZ} {h : Int} {m m' : Int → Int} {l o : Int} (e1 : m' l = m l) (e2 : m' o = m o) : mtW Z h m' l o ↔ mtW Z h m l o := by
  unfold mtW
  rw [e1, e2]
def isMm (Z : abZ) (k : Int) (m : Int → Int) (σ : slM) : Prop := (∀ l : Int, 0 ≤ l → l < k → σ 47 0 l.toNat = m l ∧ -1 ≤ m l ∧ m l < Z.1 1 4) ∧ ∀ s : Int, 0 ≤ s → s < Z.1 1 4 → InR (σ 48 0 s.toNat) ∧ (σ 48 0 s.toNat = -1 ↔ ∀ l : Int, 0 ≤ l → l < k → m l ≠ s)
set_option maxHeartbeats 1000000 in
set_option maxRecDepth 4000 in
theorem sp_X6_wantsShipOf {G : slG} (hG : slGood G) {d K : Nat} (hd : 3 ≤ d) (hK : 0 ≤ K) {Φ : slPost} {σ : slM} {x1 : Int} {x2 : Int} {N : Nat} {Z : abZ} {t : Int} {m : Int → Int} (hZ : gdZ N Z) (M : isMt Z t σ) (h1 : 0 ≤ x1 ∧ x1 < Z.1 1 3) (h2 : 0 ≤ x2 ∧ x2 < Z.1 1 3) (e1 : σ 47 0 x1.toNat = m x1 ∧ -1 ≤ m x1 ∧ m x1 < Z.1 1 4) (e2 : σ 47 0 x2.toNat = m x2 ∧ -1 ≤ m x2 ∧ m x2 < Z.1 1 4) (h : Φ (0, abIf (mtW Z t m x1 x2) 1 0) σ) :
    slCall G mX6_wantsShipOf d K [sR 6 0, sI x1, sI x2] σ Φ := by
  refine vc_X6_wantsShipOf hG (by omega) hK  ?_
  have a3 := hZ.c.2.2.2.1
  have a4 := hZ.c.2.2.2.2.1
  rw [e1.1, e2.1]
  refine ⟨⟨by omega, by omega⟩, ⟨by omega, by omega⟩, fun q => ?_, fun q => ⟨⟨by omega, by omega⟩, ?_⟩⟩
  · rwa [abIf_f (fun z => z.1 q)] at h
  · refine sp_X6_lightWouldRather hG (by omega) (by omega) hZ M h1 ⟨by omega, e2.2.2⟩ e1.2 (slKt.ok ⟨in01, fun z => ?_, fun z => ?_⟩)
    · rwa [abIf_f (fun w => abIf_z z w.2.1)] at h
    · refine sp_X6_wouldRather hG (by omega) (by omega) hZ M ⟨by omega, e2.2.2⟩ h1 ⟨by omega, h2.2⟩ (slKt.ok ⟨in01, fun w => ?_, fun w => ?_⟩)
      · rwa [abIf_f (fun u => abIf_z w u.2.2)] at h
      · rwa [abIf_t ⟨q, abIf_nz z, abIf_nz w⟩] at h
set_option maxHeartbeats 1000000 in
set_option maxRecDepth 4000 in
theorem sp_X6_isQuietBelow {G : slG} (hG : slGood G) {d K : Nat} (hd : 4 ≤ d) (hK : 0 ≤ K) {Φ : slPost} {σ : slM} {x1 : Int} {N : Nat} {Z : abZ} {t : Int} {m : Int → Int} (hZ : gdZ N Z) (M : isMt Z t σ) (h1 : 0 ≤ x1 ∧ x1 < Z.1 1 3) (e : ∀ l : Int, 0 ≤ l → l < x1 + 1 → σ 47 0 l.toNat = m l ∧ -1 ≤ m l ∧ m l < Z.1 1 4) (h : Φ (0, abIf (mtQ Z t x1 m) 1 0) σ) :
    slCall G mX6_isQuietBelow d K [sR 6 0, sI x1] σ Φ := by
  refine vc_X6_isQuietBelow hG (by omega) hK (fun μ y2 σ' => σ' = σ ∧ μ = ((x1 - y2).toNat, 0, 0) ∧ (0 ≤ y2 ∧ y2 ≤ x1) ∧ ∀ o : Int, 0 ≤ o → o < y2 → ¬ mtW Z t m x1 o ∧ ¬ mtW Z t m o x1) ?_ ?_
  · exact ⟨_, rfl, rfl, ⟨by omega, by omega⟩, fun o a b => by omega⟩
  · have a3 := hZ.c.2.2.2.1
    rintro μ y2 σ' ⟨rfl, rfl, hy, al⟩
    refine ⟨⟨⟨by omega, by omega⟩, by omega, by omega⟩, fun q => ?_, fun q => ?_⟩
    · rwa [abIf_t (show mtQ Z t x1 m from fun o a b => al o a (by omega))] at h
    · refine sp_X6_wantsShipOf hG (by omega) (by omega) (m := m) hZ M h1 ⟨hy.1, by omega⟩ (e x1 h1.1 (by omega)) (e y2 hy.1 (by omega)) (slKt.ok ⟨in01, fun z => ?_, fun z => ?_⟩)
      · rwa [abIf_f (fun w => (w y2 hy.1 (by omega)).1 (abIf_nz z))] at h
      · refine sp_X6_wantsShipOf hG (by omega) (by omega) (m := m) hZ M ⟨hy.1, by omega⟩ h1 (e y2 hy.1 (by omega)) (e x1 h1.1 (by omega)) (slKt.ok ⟨in01, fun w => ⟨_, Or.inl (by show (x1 - (y2 + 1)).toNat < (x1 - y2).toNat; omega), rfl, rfl, ⟨by omega, by omega⟩, fun o a b => ?_⟩, fun w => ?_⟩)
        · by_cases u : o = y2
          · rw [u]; exact ⟨abIf_z z, abIf_z w⟩
          · exact al o a (by omega)
        · rwa [abIf_f (fun u => (u y2 hy.1 (by omega)).2 (abIf_nz w))] at h
set_option maxHeartbeats 1000000 in
set_option maxRecDepth 4000 in
theorem sp_X6_isNoShipLeftLonging {G : slG} (hG : slGood G) {d K : Nat} (hd : 4 ≤ d) (hK : 0 ≤ K) {Φ : slPost} {σ : slM}  {N : Nat} {Z : abZ} {t : Int} {m : Int → Int} (hZ : gdZ N Z) (M : isMt Z t σ) (e : isMm Z (Z.1 1 3) m σ) (h : Φ (0, abIf (mtN Z t m) 1 0) σ) :
    slCall G mX6_isNoShipLeftLonging d K [sR 6 0] σ Φ := by
  refine vc_X6_isNoShipLeftLonging hG (by omega) hK (fun μ y1 σ' => σ' = σ ∧ μ = ((Z.1 1 4 - y1).toNat, 100, 0) ∧ (0 ≤ y1 ∧ y1 ≤ Z.1 1 4) ∧ ∀ s : Int, 0 ≤ s → s < y1 → (∀ o : Int, 0 ≤ o → o < Z.1 1 3 → m o ≠ s) → ∀ l : Int, 0 ≤ l → l < Z.1 1 3 → ¬ mtLR Z t l s (m l)) (fun μ y1 y2 σ' => σ' = σ ∧ μ = ((Z.1 1 4 - y1).toNat, (Z.1 1 3 - y2).toNat, 0) ∧ (0 ≤ y1 ∧ y1 < Z.1 1 4) ∧ (0 ≤ y2 ∧ y2 ≤ Z.1 1 3) ∧ (∀ o : Int, 0 ≤ o → o < Z.1 1 3 → m o ≠ y1) ∧ (∀ s : Int, 0 ≤ s → s < y1 → (∀ o : Int, 0 ≤ o → o < Z.1 1 3 → m o ≠ s) → ∀ l : Int, 0 ≤ l → l < Z.1 1 3 → ¬ mtLR Z t l s (m l)) ∧ ∀ l : Int, 0 ≤ l → l < y2 → ¬ mtLR Z t l y1 (m l)) ?_ ?_ ?_
  · have a4 := hZ.c.2.2.2.2.1
    exact ⟨_, rfl, rfl, ⟨by omega, by omega⟩, fun o a b => by omega⟩
  · have a3 := hZ.c.2.2.2.1
    have a4 := hZ.c.2.2.2.2.1
    rintro μ y1 σ' ⟨rfl, rfl, hy, al⟩
    rw [M.2.1]
    refine ⟨⟨⟨by omega, by omega⟩, by omega, by omega⟩, fun q => ?_, fun q => ⟨⟨by omega, by omega⟩, (e.2 y1 hy.1 (by omega)).1, fun z => ⟨((Z.1 1 4 - (y1 + 1)).toNat, 100, 0), Or.inl (by show (Z.1 1 4 - (y1 + 1)).toNat < (Z.1 1 4 - y1).toNat; omega), rfl, rfl, ⟨by omega, by omega⟩, fun s a b f => ?_⟩, fun z => ⟨((Z.1 1 4 - y1).toNat, (Z.1 1 3 - 0).toNat, 0), Or.inr ⟨rfl, Or.inl (by show (Z.1 1 3 - 0).toNat < 100; omega)⟩, rfl, rfl, ⟨by omega, by omega⟩, ⟨by omega, by omega⟩, (e.2 y1 hy.1 (by omega)).2.mp z, al, fun l a b => by omega⟩⟩⟩
    · rwa [abIf_t (show mtN Z t m from fun s a b => al s a (by omega))] at h
    · by_cases u : s = y1
      · rw [u] at f
        exact absurd ((e.2 y1 hy.1 (by omega)).2.mpr f) z
      · exact al s a (by omega) f
  · have a3 := hZ.c.2.2.2.1
    have a4 := hZ.c.2.2.2.2.1
    rintro μ y1 y2 σ' ⟨rfl, rfl, hy, hy2, f, al, al2⟩
    rw [M.1]
    refine ⟨⟨⟨by omega, by omega⟩, by omega, by omega⟩, fun q => ⟨((Z.1 1 4 - (y1 + 1)).toNat, 100, 0), Or.inl (by show (Z.1 1 4 - (y1 + 1)).toNat < (Z.1 1 4 - y1).toNat; omega), rfl, rfl, ⟨by omega, by omega⟩, fun s a b fs => ?_⟩, fun q => ⟨⟨by omega, by omega⟩, ?_⟩⟩
    · by_cases u : s = y1
      · rw [u]; exact fun l a b => al2 l a (by omega)
      · exact al s a (by omega) fs
    · have e2 := e.1 y2 hy2.1 (by omega)
      rw [e2.1]
      refine sp_X6_lightWouldRather hG (by omega) (by omega) hZ M ⟨hy2.1, by omega⟩ hy e2.2 (slKt.ok ⟨in01, fun z => ⟨((Z.1 1 4 - y1).toNat, (Z.1 1 3 - (y2 + 1)).toNat, 0), Or.inr ⟨rfl, Or.inl (by show (Z.1 1 3 - (y2 + 1)).toNat < (Z.1 1 3 - y2).toNat; omega)⟩, rfl, rfl, hy, ⟨by omega, by omega⟩, f, al, fun l a b => ?_⟩, fun z => ?_⟩)
      · by_cases u : l = y2
        · rw [u]; exact abIf_z z
        · exact al2 l a (by omega)
      · rwa [abIf_f (fun w => w y1 hy.1 hy.2 f y2 hy2.1 (by omega) (abIf_nz z))] at h
/-- what a part of the search leaves as it was -/
def mtK (Z : abZ) (k : Int) (σ τ : slM) : Prop := slFr [(47, 0), (48, 0)] σ τ ∧ (∀ l : Int, 0 ≤ l → l < k → τ 47 0 l.toNat = σ 47 0 l.toNat) ∧ ∀ s : Int, 0 ≤ s → s < Z.1 1 4 → τ 48 0 s.toNat = σ 48 0 s.toNat
theorem mtK.tr {Z : abZ} {k : Int} {σ τ υ : slM} (h1 : mtK Z k σ τ) (h2 : mtK Z k τ υ) : mtK Z k σ υ := ⟨h1.1.tr h2.1, fun l a b => (h2.2.1 l a b).trans (h1.2.1 l a b), fun s a b => (h2.2.2 s a b).trans (h1.2.2 s a b)⟩
theorem isMm.k {Z : abZ} {k : Int} {m : Int → Int} {σ τ : slM} (h : isMm Z k m σ) (e : mtK Z k σ τ) : isMm Z k m τ := ⟨fun l a b => by rw [e.2.1 l a b]; exact h.1 l a b, fun s a b => by rw [e.2.2 s a b]; exact h.2 s a b⟩
theorem isMt.k {Z : abZ} {t k : Int} {σ τ : slM} (M : isMt Z t σ) (e : mtK Z k σ τ) : isMt Z t τ := M.c (e.1 6 0 (by simp)) (e.1 44 0 (by simp)) (e.1 45 0 (by simp))
noncomputable def abCj (Z : abZ) (t : Int) (n : Nat) (k : Int) (m : Int → Int) (y : Nat) : Int := abSum (fun j => abIf (mtF k m (j - 1) ∧ mtQ Z t k (abPut m k (j - 1))) (abCt Z t n (k + 1) (abPut m k (j - 1))) 0) y
theorem abCj_s {Z : abZ} {t : Int} {n : Nat} {k : Int} {m : Int → Int} {y : Int} (h : -1 ≤ y) : abCj Z t n k m (y + 1 + 1).toNat = abCj Z t n k m (y + 1).toNat + abIf (mtF k m y ∧ mtQ Z t k (abPut m k y)) (abCt Z t n (k + 1) (abPut m k y)) 0 := by
  unfold abCj
  rw [abSum_s (by omega), show y + 1 - 1 = y by omega]
set_option maxHeartbeats 8000000 in
set_option maxRecDepth 4000 in
theorem st_from {G : slG} (hG : slGood G) {N : Nat} {Z : abZ} {t : Int} (hZ : gdZ N Z) : ∀ (n : Nat) {d K : Nat} {Φ : slPost} {σ : slM} {x1 : Int} {m : Int → Int}, 10 + 2 * n ≤ d → isMt Z t σ → isMm Z x1 m σ → 0 ≤ x1 → x1 + n = Z.1 1 3 → (∀ τ, mtK Z x1 σ τ → Φ (0, abCt Z t n x1 m) τ) → slCall G mX6_stableFrom d K [sR 6 0, sI x1] σ Φ
  | 0, d, K, Φ, σ, x1, m, hd, M, e, h0, h1, h => by
    have a3 := hZ.c.2.2.2.1
    refine vc_X6_stableFrom hG (by omega) (by omega) (fun _ _ _ _ => False) ?_ ?_
    · rw [M.1]
      refine ⟨⟨⟨by omega, by omega⟩, by omega, by omega⟩, fun q => by omega, fun q => ?_⟩
      have e1 : x1 = Z.1 1 3 := by omega
      rw [e1] at e h
      have k := h σ ⟨slFr.id, fun _ _ _ => rfl, fun _ _ _ => rfl⟩
      refine sp_X6_isNoShipLeftLonging hG (by omega) (by omega) (m := m) hZ M e (slKt.ok ⟨in01, fun z => ?_, fun z => ?_⟩)
      · have k : Φ (0, abIf (mtN Z t m) 1 0) σ := k
        rwa [abIf_f (abIf_z z)] at k
      · have k : Φ (0, abIf (mtN Z t m) 1 0) σ := k
        rwa [abIf_t (abIf_nz z)] at k
    · intro μ y2 y3 σ' z
      exact z.elim
  | n + 1, d, K, Φ, σ, x1, m, hd, M, e, h0, h1, h => by
    have a3 := hZ.c.2.2.2.1
    have a4 := hZ.c.2.2.2.2.1
    have wit : ∀ {d K : Nat} {Φ : slPost} {σ : slM} {x2 : Int}, 11 + 2 * n ≤ d → isMt Z t σ → isMm Z x1 m σ → σ 47 0 x1.toNat = x2 → -1 ≤ x2 → x2 < Z.1 1 4 → mtF x1 m x2 → (∀ τ, mtK Z x1 σ τ → Φ (0, abCt Z t n (x1 + 1) (abPut m x1 x2)) τ) → slCall G mX6_stableWith d K [sR 6 0, sI x1, sI x2] σ Φ := by
      intro d K Φ σ x2 hd M e e2 r1 r2 fr h
      have low : ∀ l : Int, 0 ≤ l → l < x1 → abPut m x1 x2 l = m l := fun l a b => by rw [ab_put, if_neg (by omega)]
      have own : abPut m x1 x2 x1 = x2 := by rw [ab_put, if_pos rfl]
      have L1 : ∀ υ : slM, υ 47 0 = σ 47 0 → ∀ l : Int, 0 ≤ l → l < x1 + 1 → υ 47 0 l.toNat = abPut m x1 x2 l ∧ -1 ≤ abPut m x1 x2 l ∧ abPut m x1 x2 l < Z.1 1 4 := fun υ eu l a b => by
        rw [eu]
        by_cases z : l = x1
        · rw [z, own]; exact ⟨e2, r1, r2⟩
        · rw [low l a (by omega)]; exact e.1 l a (by omega)
      refine vc_X6_stableWith hG (by omega) (by omega) ⟨⟨by omega, by omega⟩, fun q => ⟨⟨by omega, by omega⟩, ?_⟩, fun q => ?_⟩
      · have f2 := fr.resolve_left q
        refine st_from hG hZ n (m := abPut m x1 x2) (by omega) (M.c (slU_else (by decide)) (slU_else (by decide)) (slU_else (by decide))) ⟨L1 _ (slU_else (by decide)), fun s a b => ?_⟩ (by omega) (by omega) (fun τ k => slKt.ok ⟨⟨by omega, by omega⟩, h _ ⟨?_, fun l a b => ?_, fun s a b => ?_⟩⟩)
        · by_cases z : s = x2
          · rw [z, slU_same]
            exact ⟨⟨by omega, by omega⟩, fun w => by omega, fun w => absurd own (w x1 h0 (by omega))⟩
          · rw [slU_ne (by omega)]
            refine ⟨(e.2 s a b).1, fun w l c d => ?_, fun w => (e.2 s a b).2.mpr (fun l c d => ?_)⟩
            · by_cases y : l = x1
              · rw [y, own]; exact fun u => z u.symm
              · rw [low l c (by omega)]; exact (e.2 s a b).2.mp w l c (by omega)
            · have := w l c (by omega)
              rw [low l c d] at this
              exact this
        · exact ((slFr.id.up (L := [(47, 0), (48, 0)]) (by simp)).tr k.1).up (by simp)
        · rw [slU_else (by decide), k.2.1 l a (by omega), slU_else (by decide)]
        · by_cases z : s = x2
          · rw [z, slU_same]
            exact ((e.2 x2 (by omega) r2).2.mpr f2).symm
          · rw [slU_ne (by omega), k.2.2 s a b, slU_ne (by omega)]
      · refine st_from hG hZ n (m := abPut m x1 x2) (by omega) M ⟨L1 σ rfl, fun s a b => ⟨(e.2 s a b).1, fun w l c d => ?_, fun w => (e.2 s a b).2.mpr (fun l c d => ?_)⟩⟩ (by omega) (by omega) (fun τ k => slKt.ok (h τ ⟨k.1, fun l a b => k.2.1 l a (by omega), k.2.2⟩))
        · by_cases y : l = x1
          · rw [y, own, q]; omega
          · rw [low l c (by omega)]; exact (e.2 s a b).2.mp w l c (by omega)
        · have := w l c (by omega)
          rw [low l c d] at this
          exact this
    refine vc_X6_stableFrom hG (by omega) (by omega) (fun μ y2 y3 σ' => mtK Z x1 σ σ' ∧ μ = ((Z.1 1 4 - y3).toNat, 0, 0) ∧ (-1 ≤ y3 ∧ y3 ≤ Z.1 1 4) ∧ y2 = abCj Z t n x1 m (y3 + 1).toNat) ?_ ?_
    · rw [M.1]
      exact ⟨⟨⟨by omega, by omega⟩, by omega, by omega⟩, fun q => ⟨_, ⟨slFr.id, fun _ _ _ => rfl, fun _ _ _ => rfl⟩, rfl, ⟨by omega, by omega⟩, rfl⟩, fun q => by omega⟩
    · rintro μ y2 y3 σ' ⟨k, rfl, hy, rfl⟩
      have M' := M.k k
      have e' := e.k k
      have lt : ¬ Z.1 1 4 ≤ y3 → slLt ((Z.1 1 4 - (y3 + 1)).toNat, 0, 0) ((Z.1 1 4 - y3).toNat, 0, 0) := fun q => Or.inl (by show (Z.1 1 4 - (y3 + 1)).toNat < (Z.1 1 4 - y3).toNat; omega)
      rw [M'.2.1]
      have body : ¬ Z.1 1 4 ≤ y3 → mtF x1 m y3 → ∀ {A : Int → slM → Prop}, (∀ τ v, mtK Z x1 σ τ → v = abCj Z t n x1 m (y3 + 1 + 1).toNat → A v τ) → slCall G mX6_isQuietBelow (d - 1) 0 [sR 6 0, sI x1] (slU σ' 47 0 x1.toNat y3) (slKt (fun v22 τ23 => ((InR v22)) ∧ (v22 = 0 → A (abCj Z t n x1 m (y3 + 1).toNat) τ23) ∧ (¬ (v22 = 0) → slCall G mX6_stableWith (d - 1) 0 [sR 6 0, sI x1, sI y3] τ23 (slKt (fun v29 τ30 => A (abCj Z t n x1 m (y3 + 1).toNat + v29) τ30) Φ))) Φ) := by
        intro q fr A hA
        have k2 : mtK Z x1 σ' (slU σ' 47 0 x1.toNat y3) := ⟨slFr.id.up (by simp), fun l a b => slU_ne (by omega), fun s a b => by rw [slU_else (by decide)]⟩
        have M2 := M'.k k2
        have e2 := e'.k k2
        have es := abCj_s (Z := Z) (t := t) (n := n) (k := x1) (m := m) hy.1
        refine sp_X6_isQuietBelow hG (by omega) (by omega) (m := abPut m x1 y3) hZ M2 ⟨h0, by omega⟩ (fun l a b => ?_) (slKt.ok ⟨in01, fun z => hA _ _ (k.tr k2) ?_, fun z => ?_⟩)
        · by_cases z : l = x1
          · rw [z, slU_same, ab_put, if_pos rfl]; exact ⟨rfl, hy.1, by omega⟩
          · rw [ab_put, if_neg z]; exact e2.1 l a (by omega)
        · rw [es, abIf_f (fun w => abIf_z z w.2), Int.add_zero]
        · refine wit (by omega) M2 e2 (slU_same _ _ _ _ _) hy.1 (by omega) fr (fun τ k3 => slKt.ok (hA _ _ ((k.tr k2).tr k3) ?_))
          rw [es, abIf_t ⟨fr, abIf_nz z⟩]
      refine ⟨⟨⟨by omega, by omega⟩, by omega, by omega⟩, fun q => ?_, fun q => ⟨⟨by omega, by omega⟩, fun z => ⟨⟨by omega, by omega⟩, ?_⟩, fun z => ⟨⟨by omega, by omega⟩, (e'.2 y3 (by omega) (by omega)).1, fun w => ⟨_, lt q, k, rfl, ⟨by omega, by omega⟩, ?_⟩, fun w => ⟨⟨by omega, by omega⟩, ?_⟩⟩⟩⟩
      · have kk := h σ' k
        rw [show y3 = Z.1 1 4 by omega]
        exact kk
      · exact body q (Or.inl z) (A := fun v τ => ∃ μ2, slLt μ2 ((Z.1 1 4 - y3).toNat, 0, 0) ∧ mtK Z x1 σ τ ∧ μ2 = ((Z.1 1 4 - (y3 + 1)).toNat, 0, 0) ∧ (-1 ≤ y3 + 1 ∧ y3 + 1 ≤ Z.1 1 4) ∧ v = abCj Z t n x1 m (y3 + 1 + 1).toNat) (fun τ v k2 ev => ⟨_, lt q, k2, rfl, ⟨by omega, by omega⟩, ev⟩)
      · rw [abCj_s hy.1, abIf_f (fun u => u.1.elim z (fun f => w ((e'.2 y3 (by omega) (by omega)).2.mpr f))), Int.add_zero]
      · exact body q (Or.inr ((e'.2 y3 (by omega) (by omega)).2.mp w)) (A := fun v τ => ∃ μ2, slLt μ2 ((Z.1 1 4 - y3).toNat, 0, 0) ∧ mtK Z x1 σ τ ∧ μ2 = ((Z.1 1 4 - (y3 + 1)).toNat, 0, 0) ∧ (-1 ≤ y3 + 1 ∧ y3 + 1 ≤ Z.1 1 4) ∧ v = abCj Z t n x1 m (y3 + 1 + 1).toNat) (fun τ v k2 ev => ⟨_, lt q, k2, rfl, ⟨by omega, by omega⟩, ev⟩)
noncomputable def abVis (Z : abZ) (h : Int) : Int := abCt Z h (Z.1 1 3).toNat 0 (fun _ => -1)
set_option maxHeartbeats 1000000 in
set_option maxRecDepth 4000 in
theorem sp_X6_stableOnes {G : slG} (hG : slGood G) {d K : Nat} (hd : 30 ≤ d) (hK : 0 ≤ K) {Φ : slPost} {σ : slM}  {N : Nat} {Z : abZ} {t : Int} (hZ : gdZ N Z) (M : isMt Z t σ) (h : ∀ τ, slFr [(47, 0), (48, 0)] σ τ → Φ (0, abVis Z t) τ) :
    slCall G mX6_stableOnes d K [sR 6 0] σ Φ := by
  refine vc_X6_stableOnes hG (by omega) hK (fun μ y1 σ' => slFr [(47, 0), (48, 0)] σ σ' ∧ μ = ((Z.1 1 4 - y1).toNat, 0, 0) ∧ (0 ≤ y1 ∧ y1 ≤ Z.1 1 4) ∧ ∀ s : Int, 0 ≤ s → s < y1 → σ' 48 0 s.toNat = -1) ?_ ?_
  · have a4 := hZ.c.2.2.2.2.1
    exact ⟨_, slFr.id, rfl, ⟨by omega, by omega⟩, fun s a b => by omega⟩
  · have a3 := hZ.c.2.2.2.1
    have a4 := hZ.c.2.2.2.2.1
    rintro μ y1 σ' ⟨fr, rfl, hy, c1⟩
    have M' : isMt Z t σ' := M.c (fr 6 0 (by simp)) (fr 44 0 (by simp)) (fr 45 0 (by simp))
    rw [M'.2.1]
    refine ⟨⟨⟨by omega, by omega⟩, by omega, by omega⟩, fun q => ?_, fun q => ⟨⟨by omega, by omega⟩, _, Or.inl (by show (Z.1 1 4 - (y1 + 1)).toNat < (Z.1 1 4 - y1).toNat; omega), fr.up (by simp), rfl, ⟨by omega, by omega⟩, fun s a b => ?_⟩⟩
    · refine st_from hG hZ (Z.1 1 3).toNat (m := fun _ => -1) (by omega) M' ⟨fun l a b => by omega, fun s a b => ?_⟩ (by decide) (by omega) (fun τ k => slKt.ok (h τ (fr.tr k.1)))
      rw [c1 s a (by omega)]
      exact ⟨⟨by decide, by decide⟩, fun _ l c d => by omega, fun _ => rfl⟩
    · by_cases z : s = y1
      · rw [z, slU_same]
      · rw [slU_ne (by omega)]; exact c1 s a (by omega)
set_option maxHeartbeats 1000000 in
set_option maxRecDepth 4000 in
theorem sp_X11_visits {G : slG} (hG : slGood G) {d K : Nat} (hd : 50 ≤ d) (hK : 1 ≤ K) {Φ : slPost} {σ : slM} {x1 : Int} {c s N : Nat} {Z : abZ} (hX : isX c s Z σ) (hZ : gdZ N Z) (i1 : InR x1) (h : cA c s Z σ Φ (abOk (0 ≤ x1 ∧ x1 < 240) (abVis Z x1))) :
    slCall G mX11_visits d K [sR 11 0, sI x1] σ Φ := by
  refine vc_X11_visits hG (by omega) hK  ?_
  refine sp_X11_needHour hG (by omega) (by omega) i1 (fun q1 => slKt.ok ?_) (fun q => slKt.ex (Or.inl rfl) (h.no q cQ.id hX))
  refine sp_X11_settle hG (by omega) (by omega) hX hZ (fun τ f x t => slKt.ok ?_)
  rw [x.e4, x.e5]
  refine sp_X6_rankAll hG (by omega) (by omega) hZ ⟨f, x, t⟩ rfl rfl q1 (fun τ1 m1 M => slKt.ok ?_)
  refine sp_X6_stableOnes hG (by omega) (by omega) hZ M (fun τ2 f2 => slKt.ok ?_)
  have m2 : cS c s Z σ τ2 := m1.fr f2 (by decide) (fun k hk => by rw [f2 36 1 (by simp)]; exact m1.dz k hk)
  exact h.yes q1 m2.1 m2.2.1
