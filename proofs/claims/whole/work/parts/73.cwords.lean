/-! ===== rows of letters read by the class ===== -/
set_option maxHeartbeats 1000000 in
set_option maxRecDepth 4000 in
theorem sp_X7_isWordOf {G : slG} (hG : slGood G) {d K : Nat} (hd : 16 ≤ d) (hK : 0 ≤ K) {Φ : slPost} {σ : slM} {w : Nat} {x2 : Int} (hw : 107 ≤ w ∧ w < 136) {X : abX} {p : Int} {f : Int → Int} (hX : gdX X) (hp : 0 ≤ p ∧ p ≤ X.2) (T : isTk X p σ) (i2 : InR x2) (hl : 0 < (slBy (w + 29)).length) (fy : ∀ k : Nat, k < (slBy (w + 29)).length → f ((slBy (w + 29)).getD k 0) ≠ -1) (fn : ∀ c : Int, (∀ k : Nat, k < (slBy (w + 29)).length → (slBy (w + 29)).getD k 0 ≠ c) → f c = -1) (h0 : ∀ k q, pWo X f x2 p = .inl (k, q) → 1 ≤ k ∧ k ≤ 5 → ∀ τ, rcE k q σ τ → Φ (0, 0) τ) (h1 : ∀ wd p', pWo X f x2 p = .inr (wd, p') → Φ (0, 1) σ) :
    slCall G mX7_isWordOf d K [sR 7 0, sR w 0, sI x2] σ Φ := by
  refine vc_X7_isWordOf hG (by omega) hK hw (fun μ y3 σ' => σ' = σ ∧ lxK X p = 2 ∧ (0 ≤ y3 ∧ y3 ≤ lxE X p - lxB X p) ∧ (∀ k : Int, 0 ≤ k → k < y3 → f (X.1 (lxB X p + k).toNat) ≠ -1) ∧ μ = ((lxE X p - lxB X p - y3).toNat, 0, 0)) ?_ ?_
  · have r := lxK_r (X := X) (p := p)
    have e := lxE_r (X := X) hp.2
    rw [T.2.2.2.1]
    refine ⟨⟨by omega, by omega⟩, fun z => ⟨_, rfl, z, ⟨by omega, by omega⟩, fun k a b => by omega, rfl⟩, fun z => ?_⟩
    exact sp_X7_refuse hG (by omega) (by omega) T (slKt.ok ⟨Or.inl rfl, h0 1 (lxB X p) (by unfold pWo; rw [if_neg z]) (by decide) _ rcE.fl⟩)
  · rintro μ y3 σ' ⟨rfl, k2, hy, ok, rfl⟩
    have e := lxE_p (X := X) hp.2
    have b := lxB_r (X := X) hp.2
    have hx := hX.1
    refine sp_X9_letters hG (by omega) (by omega) (slKt.ok ?_)
    rw [T.2.1, T.2.2.1]
    refine ⟨⟨⟨by omega, by omega⟩, by omega, by omega⟩, fun z => ?_, fun z => ?_⟩
    · have al : pAll X f p := fun k a b => ok k a (by omega)
      refine sp_X9_letters hG (by omega) (by omega) (slKt.ok ?_)
      rw [T.2.1, T.2.2.1]
      refine ⟨⟨⟨by omega, by omega⟩, i2⟩, fun y => h1 _ _ (by unfold pWo; rw [if_pos k2, abIte_t al, if_pos y]), fun y => ?_⟩
      exact sp_X7_refuse hG (by omega) (by omega) T (slKt.ok ⟨in0, fun _ => h0 2 (lxB X p) (by unfold pWo; rw [if_pos k2, abIte_t al, if_neg y]) (by decide) _ rcE.fl, fun u => absurd rfl u⟩)
    · refine sp_X9_letterAt hG (by omega) (by omega) hX hp T ⟨hy.1, by omega⟩ (slKt.ok ?_)
      have bt := hX.2 (lxB X p + y3).toNat
      refine sp_J0_indexOf_0f7a4 hG (by omega) (by omega) hw bt hl (fun n => slKt.ok ?_) (fun k a b c => slKt.ok ?_)
      · have nf := fn _ n
        refine ⟨⟨by decide, by decide⟩, fun u => absurd u (by decide), fun _ => ?_⟩
        have na : ¬ pAll X f p := fun u => u y3 hy.1 (by omega) nf
        exact sp_X7_refuse hG (by omega) (by omega) T (slKt.ok ⟨Or.inl rfl, h0 3 (lxB X p) (by unfold pWo; rw [if_pos k2, abIte_f na]) (by decide) _ rcE.fl⟩)
      · refine ⟨?_, fun _ => ⟨((lxE X p - lxB X p - (y3 + 1)).toNat, 0, 0), Or.inl ?_, rfl, k2, ⟨by omega, by omega⟩, fun j u v => ?_, rfl⟩, fun u => absurd (by omega) u⟩
        · have lb := slBy_len (b := w + 29) ⟨by omega, by omega⟩
          exact ⟨by omega, by omega⟩
        · show (lxE X p - lxB X p - (y3 + 1)).toNat < (lxE X p - lxB X p - y3).toNat
          omega
        · by_cases t : j = y3
          · rw [t, ← b]
            exact fy k a
          · exact ok j u (by omega)
set_option maxHeartbeats 1000000 in
set_option maxRecDepth 4000 in
theorem sp_X7_readWay {G : slG} (hG : slGood G) {d K : Nat} (hd : 18 ≤ d) (hK : 0 ≤ K) {Φ : slPost} {σ : slM} {x1 : Int} {X : abX} {r : Nat} {p : Int} (hX : gdX X) (hp : 0 ≤ p ∧ p ≤ X.2) (T : isTk X p σ) (er : σ 7 0 2 = r) (hx1 : 0 ≤ x1 ∧ x1 < 5) (h0 : ∀ k q, pWo X stF 12 p = .inl (k, q) → 1 ≤ k ∧ k ≤ 5 → ∀ τ, rcE k q σ τ → Φ (0, 0) τ) (h1 : ∀ wd p', pWo X stF 12 p = .inr (wd, p') → p < p' ∧ p' ≤ X.2 → ∀ τ, slFr [(9, 0), (28, r), (29, r)] σ τ → τ 28 r x1.toNat = wd.2 → (∀ k, k ≠ x1.toNat → τ 28 r k = σ 28 r k) → (∀ k : Int, 0 ≤ k → k < wd.2 → τ 29 r (x1 * 12 + k).toNat = stF (X.1 (wd.1 + k).toNat)) → (∀ j : Nat, (j : Int) < x1 * 12 → τ 29 r j = σ 29 r j) → isTk X p' τ → Φ (0, 1) τ) :
    slCall G mX7_readWay d K [sR 7 0, sI x1] σ Φ := by
  refine vc_X7_readWay hG (by omega) hK (fun μ y2 σ' => pWo X stF 12 p = .inr ((lxB X p, lxE X p - lxB X p), lxE X p) ∧ slFr [(28, r), (29, r)] σ σ' ∧ σ' 28 r x1.toNat = lxE X p - lxB X p ∧ (∀ k, k ≠ x1.toNat → σ' 28 r k = σ 28 r k) ∧ (0 ≤ y2 ∧ y2 ≤ lxE X p - lxB X p) ∧ (∀ k : Int, 0 ≤ k → k < y2 → σ' 29 r (x1 * 12 + k).toNat = stF (X.1 (lxB X p + k).toNat)) ∧ (∀ j : Nat, (j : Int) < x1 * 12 → σ' 29 r j = σ 29 r j) ∧ μ = ((12 - y2).toNat, 0, 0)) ?_ ?_
  · have sb : slBy (112 + 29) = [110, 101, 115, 119, 111] := by decide
    refine sp_X7_isWordOf hG (by omega) (by omega) (by decide) (f := stF) hX hp T (by decide) (by rw [sb]; decide) (by rw [sb]; decide) ?_ (fun k q e hk τ E => slKt.ok ⟨in0, fun z => absurd rfl z, fun _ => h0 k q e hk τ E⟩) (fun wd p' e => slKt.ok ⟨in1, fun _ => ?_, fun z => absurd z (by decide)⟩)
    · rw [sb]
      intro c n
      have n0 := n 0 (by decide)
      have n1 := n 1 (by decide)
      have n2 := n 2 (by decide)
      have n3 := n 3 (by decide)
      have n4 := n 4 (by decide)
      have n0 : (110 : Int) ≠ c := n0
      have n1 : (101 : Int) ≠ c := n1
      have n2 : (115 : Int) ≠ c := n2
      have n3 : (119 : Int) ≠ c := n3
      have n4 : (111 : Int) ≠ c := n4
      unfold stF
      rw [if_neg (by omega), if_neg (by omega), if_neg (by omega), if_neg (by omega), if_neg (by omega)]
    · have w := pWo_o hp.2 e
      have er2 := lxE_r (X := X) hp.2
      refine sp_X9_letters hG (by omega) (by omega) (slKt.ok ?_)
      rw [T.2.1, T.2.2.1, er, Int.toNat_natCast]
      refine ⟨hx1, _, ?_, slFr.id.up (by simp), slU_same _ _ _ _ _, fun k hk => slU_ne hk, ⟨by omega, by omega⟩, fun k a b => by omega, fun j hj => by rw [slU_else (by omega)], rfl⟩
      rw [e, w.2.2.2.1, w.2.2.2.2]
  · rintro μ y2 σ' ⟨e, f, c1, c2, hy, c3, c4, rfl⟩
    have w := pWo_o hp.2 e
    have ee := lxE_p (X := X) hp.2
    have eb := lxB_r (X := X) hp.2
    have T' : isTk X p σ' := T.c (f 9 0 (by simp)) (f 58 0 (by simp))
    have m12 : lxE X p - lxB X p ≤ 12 := w.2.2.1.2
    have fin : lxE X p - lxB X p ≤ y2 → slCall G mX9_next (d - 1) 0 [sR 9 0] σ' (slKt (fun _ τ20 => Φ (0, 1) τ20) Φ) := fun z => by
      refine sp_X9_next hG (by omega) (by omega) hX T'.1 ⟨by omega, ee.2.1⟩ T'.2.2.1 (fun τ f2 T2 => slKt.ok (h1 _ _ e ⟨ee.2.2 (by omega), ee.2.1⟩ τ ((f.mono (by simp)).tr (f2.mono (by simp))) ?_ ?_ ?_ ?_ T2))
      · rw [f2 28 r (by simp)]; exact c1
      · rw [f2 28 r (by simp)]; exact c2
      · rw [f2 29 r (by simp)]; exact fun k a b => c3 k a (by have b : k < lxE X p - lxB X p := b; omega)
      · rw [f2 29 r (by simp)]; exact c4
    refine ⟨⟨by omega, by omega⟩, fun z => fin (by omega), fun z => sp_X9_letters hG (by omega) (by omega) (slKt.ok ?_)⟩
    rw [T'.2.1, T'.2.2.1]
    refine ⟨⟨⟨by omega, by omega⟩, by omega, by omega⟩, fun z => fin z, fun z2 => sp_X9_letterAt hG (by omega) (by omega) hX hp T' ⟨hy.1, by omega⟩ (slKt.ok ?_)⟩
    have sb : slBy (112 + 29) = [110, 101, 115, 119, 111] := by decide
    have bt := hX.2 (lxB X p + y2).toNat
    have al := w.2.1 y2 hy.1 (by omega)
    refine sp_J0_indexOf_0f7a4 hG (by omega) (by omega) (by decide) bt (by rw [sb]; decide) ?_ ?_
    · rw [sb]
      intro n
      have n0 := n 0 (by decide)
      have n1 := n 1 (by decide)
      have n2 := n 2 (by decide)
      have n3 := n 3 (by decide)
      have n4 := n 4 (by decide)
      have n0 : (110 : Int) ≠ X.1 (lxB X p + y2).toNat := n0
      have n1 : (101 : Int) ≠ X.1 (lxB X p + y2).toNat := n1
      have n2 : (115 : Int) ≠ X.1 (lxB X p + y2).toNat := n2
      have n3 : (119 : Int) ≠ X.1 (lxB X p + y2).toNat := n3
      have n4 : (111 : Int) ≠ X.1 (lxB X p + y2).toNat := n4
      refine absurd ?_ al
      unfold stF
      rw [if_neg (by omega), if_neg (by omega), if_neg (by omega), if_neg (by omega), if_neg (by omega)]
    · rw [sb]
      intro k k5 kc _
      have k5 : k < 5 := k5
      have es : ((k : Nat) : Int) = stF (X.1 (lxB X p + y2).toNat) := by
        rw [← kc]
        have : k = 0 ∨ k = 1 ∨ k = 2 ∨ k = 3 ∨ k = 4 := by omega
        rcases this with u | u | u | u | u <;> subst u <;> decide
      rw [es, f 7 0 (by simp), er, Int.toNat_natCast]
      refine slKt.ok ⟨⟨by omega, by omega⟩, ((12 - (y2 + 1)).toNat, 0, 0), Or.inl (by show (12 - (y2 + 1)).toNat < (12 - y2).toNat; omega), e, f.up (by simp), ?_, fun k hk => ?_, ⟨by omega, by omega⟩, fun j a b => ?_, fun j hj => ?_, rfl⟩
      · rw [slU_else (by omega)]; exact c1
      · rw [slU_else (by omega)]; exact c2 k hk
      · by_cases t : j = y2
        · rw [t, slU_same]
        · rw [slU_ne (by omega)]; exact c3 j a (by omega)
      · rw [slU_ne (by omega)]; exact c4 j hj
set_option maxHeartbeats 1000000 in
set_option maxRecDepth 4000 in
theorem sp_X7_readFlashes {G : slG} (hG : slGood G) {d K : Nat} (hd : 18 ≤ d) (hK : 0 ≤ K) {Φ : slPost} {σ : slM} {x1 : Int} {X : abX} {r : Nat} {p : Int} (hX : gdX X) (hp : 0 ≤ p ∧ p ≤ X.2) (T : isTk X p σ) (er : σ 7 0 2 = r) (hx1 : 0 ≤ x1 ∧ x1 < 5) (h0 : ∀ k q, pWo X flF 6 p = .inl (k, q) → 1 ≤ k ∧ k ≤ 5 → ∀ τ, rcE k q σ τ → Φ (0, 0) τ) (h1 : ∀ wd p', pWo X flF 6 p = .inr (wd, p') → p < p' ∧ p' ≤ X.2 → ∀ τ, slFr [(9, 0), (30, r), (31, r)] σ τ → τ 30 r x1.toNat = wd.2 → (∀ k, k ≠ x1.toNat → τ 30 r k = σ 30 r k ∧ τ 31 r k = σ 31 r k) → (0 ≤ τ 31 r x1.toNat ∧ τ 31 r x1.toNat < 2 ^ wd.2.toNat) → (∀ k : Int, 0 ≤ k → k < wd.2 → abBit (τ 31 r x1.toNat) k = flF (X.1 (wd.1 + k).toNat)) → isTk X p' τ → Φ (0, 1) τ) :
    slCall G mX7_readFlashes d K [sR 7 0, sI x1] σ Φ := by
  refine vc_X7_readFlashes hG (by omega) hK (fun μ y2 σ' => pWo X flF 6 p = .inr ((lxB X p, lxE X p - lxB X p), lxE X p) ∧ slFr [(30, r), (31, r)] σ σ' ∧ σ' 30 r x1.toNat = lxE X p - lxB X p ∧ (∀ k, k ≠ x1.toNat → σ' 30 r k = σ 30 r k ∧ σ' 31 r k = σ 31 r k) ∧ (0 ≤ y2 ∧ y2 ≤ lxE X p - lxB X p) ∧ (∃ m : Nat, σ' 31 r x1.toNat = m ∧ m < 2 ^ y2.toNat ∧ ∀ k : Nat, (k : Int) < y2 → abBit (m : Int) (k : Int) = flF (X.1 (lxB X p + k).toNat)) ∧ μ = ((6 - y2).toNat, 0, 0)) ?_ ?_
  · have sb : slBy (113 + 29) = [108, 107] := by decide
    refine sp_X7_isWordOf hG (by omega) (by omega) (by decide) (f := flF) hX hp T (by decide) (by rw [sb]; decide) (by rw [sb]; decide) ?_ (fun k q e hk τ E => slKt.ok ⟨in0, fun z => absurd rfl z, fun _ => h0 k q e hk τ E⟩) (fun wd p' e => slKt.ok ⟨in1, fun _ => ?_, fun z => absurd z (by decide)⟩)
    · rw [sb]
      intro c n
      have n0 : (108 : Int) ≠ c := n 0 (by decide)
      have n1 : (107 : Int) ≠ c := n 1 (by decide)
      unfold flF
      rw [if_neg (by omega), if_neg (by omega)]
    · have w := pWo_o hp.2 e
      have er2 := lxE_r (X := X) hp.2
      refine sp_X9_letters hG (by omega) (by omega) (slKt.ok ?_)
      rw [T.2.1, T.2.2.1, slU_else (by omega), er, Int.toNat_natCast]
      refine ⟨hx1, hx1, _, ?_, (slFr.id.up (by simp)).up (by simp), ?_, fun k hk => ⟨?_, ?_⟩, ⟨by omega, by omega⟩, ⟨0, ?_, by decide, fun k hk => by omega⟩, rfl⟩
      · rw [e, w.2.2.2.1, w.2.2.2.2]
      · rw [slU_else (by omega), slU_same]
      · rw [slU_else (by omega), slU_ne hk]
      · rw [slU_ne hk, slU_else (by omega)]
      · rw [slU_same]; rfl
  · rintro μ y2 σ' ⟨e, f, c1, c2, hy, ⟨m, em, lm, bm⟩, rfl⟩
    have w := pWo_o hp.2 e
    have ee := lxE_p (X := X) hp.2
    have eb := lxB_r (X := X) hp.2
    have T' : isTk X p σ' := T.c (f 9 0 (by simp)) (f 58 0 (by simp))
    have m12 : lxE X p - lxB X p ≤ 6 := w.2.2.1.2
    have fin : lxE X p - lxB X p ≤ y2 → slCall G mX9_next (d - 1) 0 [sR 9 0] σ' (slKt (fun _ τ20 => Φ (0, 1) τ20) Φ) := fun z => by
      refine sp_X9_next hG (by omega) (by omega) hX T'.1 ⟨by omega, ee.2.1⟩ T'.2.2.1 (fun τ f2 T2 => slKt.ok (h1 _ _ e ⟨ee.2.2 (by omega), ee.2.1⟩ τ ((f.mono (by simp)).tr (f2.mono (by simp))) ?_ ?_ ?_ ?_ T2))
      · rw [f2 30 r (by simp)]; exact c1
      · rw [f2 30 r (by simp), f2 31 r (by simp)]; exact c2
      · rw [f2 31 r (by simp), em]
        have ey : y2 = lxE X p - lxB X p := by omega
        show 0 ≤ (m : Int) ∧ (m : Int) < 2 ^ (lxE X p - lxB X p).toNat
        rw [← ey]
        exact ⟨by omega, by exact_mod_cast lm⟩
      · rw [f2 31 r (by simp), em]
        intro k a b
        have b : k < lxE X p - lxB X p := b
        have := bm k.toNat (by omega)
        rw [show ((k.toNat : Nat) : Int) = k by omega] at this
        exact this
    refine ⟨⟨by omega, by omega⟩, fun z => fin (by omega), fun z => sp_X9_letters hG (by omega) (by omega) (slKt.ok ?_)⟩
    rw [T'.2.1, T'.2.2.1]
    refine ⟨⟨⟨by omega, by omega⟩, by omega, by omega⟩, fun z => fin z, fun z2 => sp_X9_letterAt hG (by omega) (by omega) hX hp T' ⟨hy.1, by omega⟩ (slKt.ok ?_)⟩
    have bt := hX.2 (lxB X p + y2).toNat
    have al := w.2.1 y2 hy.1 (by omega)
    have n8 : y2.toNat < 8 := by omega
    have lt : slLt ((6 - (y2 + 1)).toNat, 0, 0) ((6 - y2).toNat, 0, 0) := Or.inl (by show (6 - (y2 + 1)).toNat < (6 - y2).toNat; omega)
    have y1 : (y2 + 1).toNat = y2.toNat + 1 := by omega
    have yy : ((y2.toNat : Nat) : Int) = y2 := by omega
    refine ⟨⟨by omega, by omega⟩, fun n108 => ⟨_, lt, e, f, c1, c2, ⟨by omega, by omega⟩, ⟨m, em, ?_, fun k hk => ?_⟩, rfl⟩, fun y108 => ⟨hx1, hx1, _, lt, e, ?_, ?_, fun k hk => ?_, ⟨by omega, by omega⟩, ⟨m + 2 ^ y2.toNat, ?_, ?_, fun k hk => ?_⟩, rfl⟩⟩
    · rw [y1, Nat.pow_succ]; omega
    · by_cases t : (k : Int) = y2
      · have h0 := (abBit_hi y2.toNat n8 m lm).2
        rw [yy] at h0
        rw [t, h0]
        unfold flF at al ⊢
        by_cases c107 : X.1 (lxB X p + y2).toNat = 107
        · rw [if_pos c107]
        · rw [if_neg c107, if_neg n108] at al
          exact absurd rfl al
      · exact bm k (by omega)
    · rw [f 7 0 (by simp), er, Int.toNat_natCast]
      exact f.up (by simp)
    · rw [slU_else (by omega)]; exact c1
    · rw [f 7 0 (by simp), er, Int.toNat_natCast, slU_else (by omega), slU_ne hk]
      exact c2 k hk
    · rw [f 7 0 (by simp), er, Int.toNat_natCast, slU_same, em]
      have := sOrBit y2.toNat n8 m lm
      rw [yy] at this
      rw [this]
      simp
    · rw [y1, Nat.pow_succ]; omega
    · by_cases t : (k : Int) = y2
      · have h0 := (abBit_hi y2.toNat n8 m lm).1
        rw [yy] at h0
        have cc : (((m + 2 ^ y2.toNat : Nat)) : Int) = (m : Int) + 2 ^ y2.toNat := by simp
        rw [cc, t, h0, y108]
        decide
      · have h0 := abBit_lo y2.toNat n8 m lm k (by omega)
        have cc : (((m + 2 ^ y2.toNat : Nat)) : Int) = (m : Int) + 2 ^ y2.toNat := by simp
        rw [cc, h0]
        exact bm k (by omega)
