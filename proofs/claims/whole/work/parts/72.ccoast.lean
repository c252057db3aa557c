/-! ===== a coast read by the class ===== -/
def rcL (r s : Nat) : List (Nat × Nat) := [(9, 0), (7, 0), (50, 0), (1, r), (23, r), (24, r), (25, r), (26, r), (27, r), (28, r), (29, r), (30, r), (31, r), (32, r), (4, r), (37, r), (38, r), (51, s), (52, s), (53, s), (54, s)]
def rcF (r s : Nat) (σ τ : slM) : Prop := slFr (rcL r s) σ τ ∧ (∀ k, k ≠ 4 → k ≠ 5 → k ≠ 6 → τ 7 0 k = σ 7 0 k) ∧ (0 ≤ σ 4 r 4 ∧ σ 4 r 4 ≤ 3 → 0 ≤ τ 4 r 4 ∧ τ 4 r 4 ≤ 3)
theorem rcF.id {r s : Nat} {σ : slM} : rcF r s σ σ := ⟨slFr.id, fun _ _ _ _ => rfl, fun h => h⟩
theorem rcF.tr {r s : Nat} {σ τ υ : slM} (h : rcF r s σ τ) (g : rcF r s τ υ) : rcF r s σ υ := ⟨h.1.tr g.1, fun k a b c => (g.2.1 k a b c).trans (h.2.1 k a b c), fun x => g.2.2 (h.2.2 x)⟩
theorem rcF.of {r s : Nat} {σ τ : slM} {L : List (Nat × Nat)} (f : slFr L σ τ) (h : ∀ p ∈ L, p ∈ rcL r s) (h7 : ∀ p ∈ L, p.1 ≠ 7 ∧ p.1 ≠ 4) : rcF r s σ τ := ⟨f.mono h, fun k _ _ _ => by rw [f 7 0 (fun z => (h7 _ z).1 rfl)], fun x => by rw [f 4 r (fun z => (h7 _ z).2 rfl)]; exact x⟩
theorem rcF.up {r s : Nat} {σ τ : slM} {a i k : Nat} {v : Int} (h : rcF r s σ τ) (m : (a, i) ∈ rcL r s) (h7 : a ≠ 7 ∧ a ≠ 4) : rcF r s σ (slU τ a i k v) := ⟨h.1.up m, fun j b c d => by rw [slU_else (fun z => h7.1 z.1.symm)]; exact h.2.1 j b c d, fun x => by rw [slU_else (fun z => h7.2 z.1.symm)]; exact h.2.2 x⟩
theorem rcF.up4 {r s : Nat} {σ τ : slM} {v : Int} (h : rcF r s σ τ) (hv : 0 ≤ v ∧ v ≤ 3) : rcF r s σ (slU τ 4 r 4 v) := ⟨h.1.up (by simp [rcL]), fun j b c d => by rw [slU_else (by omega)]; exact h.2.1 j b c d, fun x => by rw [slU_same]; exact hv⟩
/-- a fault is told and nothing else -/
def rcE (k q : Int) (σ τ : slM) : Prop := slFr [(7, 0), (9, 0)] σ τ ∧ (∀ j, j ≠ 5 → j ≠ 6 → τ 7 0 j = σ 7 0 j) ∧ τ 7 0 5 = k ∧ τ 7 0 6 = q
theorem rcE.fl {X : abX} {p k : Int} {σ : slM} : rcE k (lxB X p) σ (rdFl X p k σ) := ⟨by unfold rdFl; exact (slFr.id.up (by simp)).up (by simp), fun j a b => by unfold rdFl; rw [slU_ne b, slU_ne a], rdFl.e.1, rdFl.e.2⟩
theorem rcE.nx {k q : Int} {σ τ υ : slM} (f : slFr [(9, 0)] σ τ) (h : rcE k q τ υ) : rcE k q σ υ := ⟨(f.mono (by simp)).tr h.1, fun j a b => by rw [h.2.1 j a b, f 7 0 (by simp)], h.2.2⟩
theorem rcE.rc {r s : Nat} {k q : Int} {σ τ : slM} (h : rcE k q σ τ) : rcF r s σ τ := ⟨h.1.mono (by simp [rcL]), fun j _ b c => h.2.1 j b c, fun x => by rw [h.1 4 r (by simp)]; exact x⟩
def qHd (r : Nat) (Q : abV) (σ : slM) : Prop := (σ 1 r 0 = Q.1 0 0 ∧ σ 1 r 1 = Q.1 0 1 ∧ σ 1 r 2 = Q.1 0 2 ∧ σ 1 r 3 = Q.1 0 3 ∧ σ 1 r 4 = Q.1 0 4 ∧ σ 1 r 5 = Q.1 0 5) ∧ σ 4 r 4 = Q.1 0 6 ∧ σ 7 0 4 = (if 0 < Q.1 0 5 then 1 else 0)
def qCp (r : Nat) (Q : abV) (σ : slM) : Prop := ∀ i : Int, 0 ≤ i → i < Q.1 0 2 → σ 24 r i.toNat = Q.1 1 i % Q.1 0 0 ∧ σ 25 r i.toNat = Q.1 1 i / Q.1 0 0
def qMk (r : Nat) (Q : abV) (σ : slM) : Prop := ∀ c : Int, 0 ≤ c → c < 144 → σ 23 r c.toNat = Q.1 13 c % 2 ∧ σ 50 0 c.toNat = Q.1 13 c
def qLt (r s : Nat) (Q : abV) (σ : slM) : Prop := ∀ l : Int, 0 ≤ l → l < Q.1 0 3 → (σ 51 s l.toNat = Q.1 2 l ∧ σ 26 r l.toNat = Q.1 3 l ∧ σ 52 s l.toNat = Q.1 4 l ∧ σ 27 r l.toNat = Q.1 5 l ∧ σ 28 r l.toNat = Q.1 6 l ∧ σ 30 r l.toNat = Q.1 8 l) ∧ (∀ k : Int, 0 ≤ k → k < Q.1 6 l → σ 29 r (l * 12 + k).toNat = Q.1 7 (l * 12 + k)) ∧ (0 ≤ σ 31 r l.toNat ∧ σ 31 r l.toNat < 2 ^ (Q.1 8 l).toNat) ∧ ∀ k : Int, 0 ≤ k → k < Q.1 8 l → abBit (σ 31 r l.toNat) k = Q.1 9 (l * 6 + k)
def qSp (s : Nat) (Q : abV) (σ : slM) : Prop := ∀ l : Int, 0 ≤ l → l < Q.1 0 4 → σ 53 s l.toNat = Q.1 10 l ∧ σ 54 s l.toNat = Q.1 11 l
def qFg (r : Nat) (Q : abV) (σ : slM) : Prop := ∀ k : Int, 0 ≤ k → k < Q.1 0 5 → σ 32 r k.toNat = Q.1 12 k
def qFm (r : Nat) (σ : slM) (k : Int) : Int := if k = 0 then 0 else σ 38 r (k - 1).toNat
def qLw (r : Nat) (Q : abV) (p : Int) (σ : slM) : Prop := ∃ oc : List Int, isOc r oc σ ∧ (oc.length : Int) ≤ p ∧ (oc.length : Int) = qFm r σ (Q.1 0 6) ∧ ∀ k : Int, 0 ≤ k → k < Q.1 0 6 → (0 ≤ qFm r σ k ∧ qFm r σ k ≤ σ 38 r k.toNat ∧ σ 38 r k.toNat ≤ oc.length) ∧ abSeg (σ 37 r) (qFm r σ k).toNat (σ 38 r k.toNat - qFm r σ k).toNat = Q.2 k.toNat ∧ abRn (Q.2 k.toNat) 0 1
def isRq (r s : Nat) (Q : abV) (p : Int) (σ : slM) : Prop := (σ 7 0 2 = r ∧ σ 7 0 3 = s ∧ σ 7 0 5 = 0) ∧ qHd r Q σ ∧ qCp r Q σ ∧ qMk r Q σ ∧ qLt r s Q σ ∧ qSp s Q σ ∧ qFg r Q σ ∧ qLw r Q p σ
theorem isRq.up {r s : Nat} {Q : abV} {p p' : Int} {σ : slM} (h : isRq r s Q p σ) (le : p ≤ p') : isRq r s Q p' σ := by
  obtain ⟨h1, h2, h3, h4, h5, h6, h7, oc, a, b, c⟩ := h
  exact ⟨h1, h2, h3, h4, h5, h6, h7, oc, a, by omega, c⟩
theorem isRq.nx {r s : Nat} {Q : abV} {p : Int} {σ τ : slM} (h : isRq r s Q p σ) (f : slFr [(9, 0)] σ τ) : isRq r s Q p τ := by
  have q : ∀ a i, a ≠ 9 → τ a i = σ a i := fun a i ha => f a i (by simp; omega)
  unfold isRq qHd qCp qMk qLt qSp qFg qLw qFm isOc
  rw [q 7 0 (by decide), q 1 r (by decide), q 4 r (by decide), q 24 r (by decide), q 25 r (by decide), q 23 r (by decide), q 50 0 (by decide), q 51 s (by decide), q 26 r (by decide), q 52 s (by decide), q 27 r (by decide), q 28 r (by decide), q 30 r (by decide), q 29 r (by decide), q 31 r (by decide), q 53 s (by decide), q 54 s (by decide), q 32 r (by decide), q 38 r (by decide), q 37 r (by decide)]
  exact h
theorem sp_nu {G : slG} (hG : slGood G) {d K : Nat} (hd : 18 ≤ d) {Φ : slPost} {σ : slM} {X : abX} {p lo hi : Int} (hX : gdX X) (hp : 0 ≤ p ∧ p ≤ X.2) (T : isTk X p σ) (i1 : InR lo) (i2 : InR hi) (h0 : ∀ k q, pNu X lo hi p = .inl (k, q) → 1 ≤ k ∧ k ≤ 5 → ∀ τ, rcE k q σ τ → Φ (0, -1) τ) (h1 : ∀ v p', pNu X lo hi p = .inr (v, p') → 0 ≤ v ∧ v ≤ 10000 → lo ≤ v ∧ v ≤ hi → p < p' ∧ p' ≤ X.2 → ∀ τ, slFr [(9, 0)] σ τ → isTk X p' τ → Φ (0, v) τ) : slCall G mX7_readNumber d K [sR 7 0, sI lo, sI hi] σ Φ := by
  have e := lxE_p (X := X) hp.2
  refine sp_X7_readNumber hG (by omega) (by omega) hX hp T i1 i2 (fun k3 => h0 1 (lxB X p) ?_ (by decide) _ rcE.fl) (fun k3 n => h0 2 (lxB X p) ?_ (by decide) _ rcE.fl) (fun k3 b τ f T2 => h1 _ _ ?_ ?_ b ⟨e.2.2 (by omega), e.2.1⟩ τ f T2)
  · unfold pNu
    rw [if_neg k3]
  · unfold pNu
    rw [if_pos k3, if_neg n]
  · unfold pNu
    rw [if_pos k3, if_pos b]
  · have := lxN_r k3
    omega
theorem sp_nh {G : slG} (hG : slGood G) {d K : Nat} (hd : 18 ≤ d) {Φ : slPost} {σ : slM} {X : abX} {p lo hi : Int} (hp : 0 ≤ p ∧ p ≤ X.2) (T : isTk X p σ) (i1 : InR lo) (i2 : InR hi) (h0 : ∀ k q, pNu X lo hi p = .inl (k, q) → 1 ≤ k ∧ k ≤ 5 → ∀ τ, rcE k q σ τ → Φ (0, -1) τ) (h1 : ∀ v p', pNu X lo hi p = .inr (v, p') → 0 ≤ v ∧ v ≤ 10000 → lo ≤ v ∧ v ≤ hi → p < p' ∧ p' ≤ X.2 → p' = lxE X p → Φ (0, v) σ) : slCall G mX7_numberHere d K [sR 7 0, sI lo, sI hi] σ Φ := by
  have e := lxE_p (X := X) hp.2
  refine sp_X7_numberHere hG (by omega) (by omega) T i1 i2 (fun k3 => h0 1 (lxB X p) ?_ (by decide) _ rcE.fl) (fun k3 n => h0 2 (lxB X p) ?_ (by decide) _ rcE.fl) (fun k3 b => h1 _ _ ?_ ?_ b ⟨e.2.2 (by omega), e.2.1⟩ rfl)
  · unfold pNu
    rw [if_neg k3]
  · unfold pNu
    rw [if_pos k3, if_neg n]
  · unfold pNu
    rw [if_pos k3, if_pos b]
  · have := lxN_r k3
    omega
set_option maxHeartbeats 1000000 in
set_option maxRecDepth 4000 in
theorem sp_X7_readCell {G : slG} (hG : slGood G) {d K : Nat} (hd : 20 ≤ d) (hK : 0 ≤ K) {Φ : slPost} {σ : slM} {x1 : Int} {x2 : Int} {X : abX} {Q : abV} {r s : Nat} {p : Int} (hX : gdX X) (hp : 0 ≤ p ∧ p ≤ X.2) (T : isTk X p σ) (I : isRq r s Q p σ) (g : gdR Q) (hx : x1 = 1 ∧ x2 = 7 ∨ x1 = 2 ∧ x2 = 3 ∨ x1 = 4 ∧ x2 = 5) (h0 : ∀ k q, pCl X Q x2 p = .inl (k, q) → 1 ≤ k ∧ k ≤ 5 → ∀ τ, rcE k q σ τ → Φ (0, -1) τ) (h1 : ∀ c p', pCl X Q x2 p = .inr (c, p') → 0 ≤ c ∧ c < 144 → p < p' ∧ p' ≤ X.2 → ∀ τ, slFr [(9, 0), (50, 0)] σ τ → (∀ c' : Int, 0 ≤ c' → c' < 144 → τ 50 0 c'.toNat = (qU Q 13 c (Q.1 13 c + x1)).1 13 c') → isTk X p' τ → Φ (0, c) τ) :
    slCall G mX7_readCell d K [sR 7 0, sI x1, sI x2] σ Φ := by
  refine vc_X7_readCell hG (by omega) hK  ?_
  have im : InR (-1) := ⟨by decide, by decide⟩
  obtain ⟨⟨e2, e3, e5⟩, H, -, M, -⟩ := I
  rw [e2, Int.toNat_natCast, H.1.1]
  refine sp_nh hG (by omega) hp T (by decide) ⟨by have := g.1; omega, by have := g.1; omega⟩ (fun k q e hk τ E => slKt.ok ⟨im, fun z => absurd rfl z, fun _ => h0 k q (by unfold pCl; rw [e]; rfl) hk τ E⟩) (fun x p1 e0 v0 b hp1 ep1 => slKt.ok ⟨⟨by omega, by omega⟩, fun _ => ?_, fun z => by omega⟩)
  refine sp_X9_next hG (by omega) (by omega) (p := p1) hX T.1 ⟨by omega, hp1.2⟩ (by rw [T.2.2.1, ep1]) (fun τ f T2 => slKt.ok ?_)
  have q : ∀ a i, a ≠ 9 → τ a i = σ a i := fun a i ha => f a i (by simp; omega)
  rw [q 7 0 (by decide), e2, Int.toNat_natCast, q 1 r (by decide), H.1.2.1]
  have ep := lxE_p (X := X) hp1.2
  have ec : pCl X Q x2 p = rdB (pNh X 0 (Q.1 0 1 - 1) p1) fun y p2 => if sAnd (Q.1 13 (Q.1 0 0 * y + x)) x2 = 0 then .inr (Q.1 0 0 * y + x, lxE X p2) else .inl (4, lxB X p2) := by
    unfold pCl
    rw [e0]
    rfl
  refine sp_X7_numberHere hG (by omega) (by omega) T2 (by decide) ⟨by have := g.2.1; omega, by have := g.2.1; omega⟩ (fun k3 => slKt.ok ⟨im, fun z => absurd rfl z, fun _ => h0 1 (lxB X p1) ?_ (by decide) _ (rcE.nx f rcE.fl)⟩) (fun k3 n => slKt.ok ⟨im, fun z => absurd rfl z, fun _ => h0 2 (lxB X p1) ?_ (by decide) _ (rcE.nx f rcE.fl)⟩) (fun k3 b2 => slKt.ok ?_)
  · rw [ec]; unfold pNh; rw [if_neg k3]; rfl
  · rw [ec]; unfold pNh; rw [if_pos k3, if_neg n]; rfl
  · have ec2 : pCl X Q x2 p = if sAnd (Q.1 13 (Q.1 0 0 * lxN X p1 + x)) x2 = 0 then .inr (Q.1 0 0 * lxN X p1 + x, lxE X p1) else .inl (4, lxB X p1) := by
      rw [ec]; unfold pNh; rw [if_pos k3, if_pos b2]; rfl
    have n := lxN_r k3
    refine ⟨⟨by omega, by omega⟩, fun _ => ?_, fun z => by omega⟩
    rw [q 7 0 (by decide), e2, Int.toNat_natCast, q 1 r (by decide), H.1.1, q 50 0 (by decide)]
    have g0 := g.1
    have g1 := g.2.1
    have c0 : 0 ≤ Q.1 0 0 * lxN X p1 := Int.mul_nonneg (by omega) n.1
    have c1 : Q.1 0 0 * lxN X p1 ≤ Q.1 0 0 * (Q.1 0 1 - 1) := Int.mul_le_mul_of_nonneg_left b2.2 (by omega)
    have c2 : Q.1 0 0 * Q.1 0 1 ≤ 12 * 12 := Int.mul_le_mul g0.2 g1.2 (by omega) (by omega)
    rw [Int.mul_sub, Int.mul_one] at c1
    have cr : 0 ≤ Q.1 0 0 * lxN X p1 + x ∧ Q.1 0 0 * lxN X p1 + x < 144 := ⟨by omega, by omega⟩
    clear c0 c1
    generalize Q.1 0 0 * lxN X p1 + x = c at *
    have mc := (M c cr.1 cr.2).2
    have m := (g.2.2.2.2.2.2.2.1 c).1
    rw [mc]
    have an := mk_and (bar := 0) m
    have orr := mk_or m
    refine ⟨cr, inAnd, fun z => ⟨cr, cr, ?_⟩, fun z => ?_⟩
    · rw [if_pos z] at ec2
      have os : sOr (Q.1 13 c) x1 = Q.1 13 c + x1 := by
        rcases hx with ⟨a, b⟩ | ⟨a, b⟩ | ⟨a, b⟩
        · rw [a]; rw [b] at z; exact orr.1 (an.1.mp z)
        · rw [a]; rw [b] at z; exact orr.2.1 (an.2.1.mp z)
        · rw [a]; rw [b] at z; exact orr.2.2 (an.2.2.1.mp z).2
      rw [os]
      have T3 : isTk X p1 (slU τ 50 0 c.toNat (Q.1 13 c + x1)) := T2.c (slU_else (by decide)) (slU_else (by decide))
      refine sp_X9_next hG (by omega) (by omega) hX T3.1 ⟨by omega, ep.2.1⟩ T3.2.2.1 (fun τ2 f2 T4 => slKt.ok (h1 c _ ec2 cr ⟨by have := ep.2.2 (by omega); omega, ep.2.1⟩ τ2 ?_ (fun c' a b => ?_) T4))
      · exact ((f.mono (by simp)).up (by simp)).tr (f2.mono (by simp))
      · rw [f2 50 0 (by simp)]
        by_cases y : c' = c
        · rw [y, slU_same, qU_y]
        · rw [slU_ne (by omega), qU_i y, q 50 0 (by decide)]
          exact (M c' a b).2
    · rw [if_neg z] at ec2
      exact sp_X7_refuse hG (by omega) (by omega) T2 (slKt.ok (h0 4 (lxB X p1) ec2 (by decide) _ (rcE.nx f rcE.fl)))
