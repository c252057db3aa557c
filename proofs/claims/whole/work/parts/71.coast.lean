/-! ===== a coast that is read: what it says ===== -/
/-- rows: 0 counts (wide, high, capes, lights, ships, fogs, laws), 1 cape, 2 begin, 3 reach, 4 oil, 5 rank, 6 steps, 7 way, 8 flashes, 9 sign, 10 mooring, 11 want, 12 fog, 13 mark; and the laws -/
abbrev abV : Type := (Nat → Int → Int) × (Nat → List Int)
abbrev abR (α : Type) : Type := (Int × Int) ⊕ (α × Int)
def qU (Q : abV) (r : Nat) (i v : Int) : abV := (fun r' i' => if r' = r ∧ i' = i then v else Q.1 r' i', Q.2)
theorem qU_y {Q : abV} {r : Nat} {i v : Int} : (qU Q r i v).1 r i = v := if_pos ⟨rfl, rfl⟩
theorem qU_r {Q : abV} {r r' : Nat} {i i' v : Int} (h : r' ≠ r) : (qU Q r i v).1 r' i' = Q.1 r' i' := if_neg (fun z => h z.1)
theorem qU_i {Q : abV} {r r' : Nat} {i i' v : Int} (h : i' ≠ i) : (qU Q r i v).1 r' i' = Q.1 r' i' := if_neg (fun z => h z.2)
theorem qU_l {Q : abV} {r : Nat} {i v : Int} : (qU Q r i v).2 = Q.2 := rfl
def rdB {α β : Type} (r : abR α) (f : α → Int → abR β) : abR β := match r with | .inl e => .inl e | .inr a => f a.1 a.2
theorem rdB_e {α β : Type} {e : Int × Int} {f : α → Int → abR β} : rdB (.inl e) f = .inl e := rfl
theorem rdB_o {α β : Type} {a : α} {p : Int} {f : α → Int → abR β} : rdB (.inr (a, p)) f = f a p := rfl
noncomputable def pNh (X : abX) (lo hi p : Int) : abR Int := if lxK X p = 3 then (if lo ≤ lxN X p ∧ lxN X p ≤ hi then .inr (lxN X p, p) else .inl (2, lxB X p)) else .inl (1, lxB X p)
noncomputable def pNu (X : abX) (lo hi p : Int) : abR Int := if lxK X p = 3 then (if lo ≤ lxN X p ∧ lxN X p ≤ hi then .inr (lxN X p, lxE X p) else .inl (2, lxB X p)) else .inl (1, lxB X p)
noncomputable def pSg (X : abX) (c p : Int) : abR Int := if lxK X p = c then .inr (0, lxE X p) else .inl (1, lxB X p)
noncomputable def pCl (X : abX) (Q : abV) (bar p : Int) : abR Int := rdB (pNu X 0 (Q.1 0 0 - 1) p) fun x p1 => rdB (pNh X 0 (Q.1 0 1 - 1) p1) fun y p2 => if sAnd (Q.1 13 (Q.1 0 0 * y + x)) bar = 0 then .inr (Q.1 0 0 * y + x, lxE X p2) else .inl (4, lxB X p2)
def stF (c : Int) : Int := if c = 110 then 0 else if c = 101 then 1 else if c = 115 then 2 else if c = 119 then 3 else if c = 111 then 4 else -1
def flF (c : Int) : Int := if c = 107 then 0 else if c = 108 then 1 else -1
def pAll (X : abX) (f : Int → Int) (p : Int) : Prop := ∀ k : Int, 0 ≤ k → k < lxE X p - lxB X p → f (X.1 (lxB X p + k).toNat) ≠ -1
/-- a word of such letters: its place and its length -/
noncomputable def pWo (X : abX) (f : Int → Int) (most p : Int) : abR (Int × Int) := if lxK X p = 2 then (abIte (pAll X f p) (if lxE X p - lxB X p ≤ most then .inr ((lxB X p, lxE X p - lxB X p), lxE X p) else .inl (2, lxB X p)) (.inl (3, lxB X p))) else .inl (1, lxB X p)
/-- the letters of a word laid into a row -/
def qW (X : abX) (Q : abV) (r : Nat) (f : Int → Int) (at0 : Int) (w : Int × Int) : abV := (fun r' i => if r' = r ∧ at0 ≤ i ∧ i < at0 + w.2 then f (X.1 (w.1 + (i - at0)).toNat) else Q.1 r' i, Q.2)
noncomputable def lnSg (X : abX) (p : Int) (Q : abV) : abR abV := rdB (pSg X 59 p) fun _ p1 => .inr (Q, p1)
noncomputable def lnCa (X : abX) (Q : abV) (p : Int) : abR abV := if 12 ≤ Q.1 0 2 then .inl (2, lxB X p) else rdB (pCl X Q 7 (lxE X p)) fun c p1 => lnSg X p1 (qU (qU (qU Q 13 c (Q.1 13 c + 1)) 1 (Q.1 0 2) c) 0 2 (Q.1 0 2 + 1))
def qLi (X : abX) (Q : abV) (c re oi ra : Int) (w f : Int × Int) : abV :=
  qU (qW X (qU (qW X (qU (qU (qU (qU (qU (qU Q 13 c (Q.1 13 c + 2)) 2 (Q.1 0 3) c) 3 (Q.1 0 3) re) 4 (Q.1 0 3) oi) 5 (Q.1 0 3) ra) 6 (Q.1 0 3) w.2) 7 stF (Q.1 0 3 * 12) w) 8 (Q.1 0 3) f.2) 9 flF (Q.1 0 3 * 6) f) 0 3 (Q.1 0 3 + 1)
noncomputable def lnLi (X : abX) (Q : abV) (p : Int) : abR abV := if 5 ≤ Q.1 0 3 then .inl (2, lxB X p) else
  rdB (pCl X Q 3 (lxE X p)) fun c p1 => rdB (pNu X 1 12 p1) fun re p2 => rdB (pNu X 0 200 p2) fun oi p3 => rdB (pNu X 0 9 p3) fun ra p4 => rdB (pWo X stF 12 p4) fun w p5 => rdB (pWo X flF 6 p5) fun f p6 => lnSg X p6 (qLi X Q c re oi ra w f)
noncomputable def lnSh (X : abX) (Q : abV) (p : Int) : abR abV := if 8 ≤ Q.1 0 4 then .inl (2, lxB X p) else
  rdB (pCl X Q 5 (lxE X p)) fun c p1 => rdB (pNu X 0 12 p1) fun wa p2 => lnSg X p2 (qU (qU (qU (qU Q 13 c (Q.1 13 c + 4)) 10 (Q.1 0 4) c) 11 (Q.1 0 4) wa) 0 4 (Q.1 0 4 + 1))
noncomputable def foR (X : abX) : Nat → abV → Int → abR abV
  | 0, Q, p => .inr (Q, p)
  | n + 1, Q, p => if Q.1 0 5 = 8 then .inl (2, lxB X p) else rdB (pNu X 0 9 p) fun v p1 => if lxK X p1 = 3 then foR X n (qU (qU Q 12 (Q.1 0 5) v) 0 5 (Q.1 0 5 + 1)) p1 else .inr (qU (qU Q 12 (Q.1 0 5) v) 0 5 (Q.1 0 5 + 1), p1)
noncomputable def lnFo (X : abX) (Q : abV) (p : Int) : abR abV := if 0 < Q.1 0 5 then .inl (5, lxB X p) else rdB (foR X 9 Q (lxE X p)) fun Q1 p1 => lnSg X p1 Q1
/-- where the machine ends that reads a law from p on -/
noncomputable def exV (X : abX) (p : Int) : exS := @dite _ (∃ t, exRe X (0, p, [], [0], [], 1, 0) t ∧ 2 ≤ t.1) (Classical.propDecidable _) (fun h => h.choose) (fun _ => exFl 0 0)
theorem exV_eq {X : abX} {p : Int} {t : exS} (h : exRe X (0, p, [], [0], [], 1, 0) t) (h2 : 2 ≤ t.1) : exV X p = t := by
  have ex : ∃ t, exRe X (0, p, [], [0], [], 1, 0) t ∧ 2 ≤ t.1 := ⟨t, h, h2⟩
  have e : exV X p = ex.choose := dif_pos ex
  rw [e]
  exact exRe.un ex.choose_spec.1 h ex.choose_spec.2 h2
def qLa (Q : abV) (o : List Int) : abV := (fun r i => if r = 0 ∧ i = 6 then Q.1 0 6 + 1 else Q.1 r i, fun k => if (k : Int) = Q.1 0 6 then o else Q.2 k)
noncomputable def lnLa (X : abX) (Q : abV) (p : Int) : abR abV := if 3 ≤ Q.1 0 6 then .inl (2, lxB X p) else if (exV X (lxE X p)).1 = 3 then .inl ((exV X (lxE X p)).2.2.2.2.2.1, (exV X (lxE X p)).2.1) else lnSg X (exV X (lxE X p)).2.1 (qLa Q (exV X (lxE X p)).2.2.2.2.1)
noncomputable def lnLine (X : abX) (Q : abV) (p : Int) : abR abV := if lxW X p = 7 then lnCa X Q p else if lxW X p = 2 then lnLi X Q p else if lxW X p = 8 then lnSh X Q p else if lxW X p = 9 then lnFo X Q p else if lxW X p = 10 then lnLa X Q p else .inl (1, lxB X p)
noncomputable def lnAll (X : abX) : Nat → abV → Int → abR abV
  | 0, Q, p => .inr (Q, p)
  | n + 1, Q, p => if lxK X p = 0 then .inr (Q, p) else rdB (lnLine X Q p) fun Q1 p1 => lnAll X n Q1 p1
noncomputable def lnSea (X : abX) (Q : abV) (p : Int) : abR abV := if lxW X p = 6 then rdB (pNu X 1 12 (lxE X p)) fun w p1 => rdB (pNu X 1 12 p1) fun h p2 => lnSg X p2 (qU (qU Q 0 0 w) 0 1 h) else .inr (Q, p)
def q0 : abV := (fun r i => if r = 0 ∧ (i = 0 ∨ i = 1) then 8 else 0, fun _ => [])
noncomputable def lnCo (X : abX) : abR abV := rdB (lnSea X q0 0) fun Q p => lnAll X 701 Q p
/-! what a good reading is; of the laws see qLw -/
def gdR (Q : abV) : Prop :=
  (1 ≤ Q.1 0 0 ∧ Q.1 0 0 ≤ 12) ∧ (1 ≤ Q.1 0 1 ∧ Q.1 0 1 ≤ 12) ∧ (0 ≤ Q.1 0 2 ∧ Q.1 0 2 ≤ 12) ∧ (0 ≤ Q.1 0 3 ∧ Q.1 0 3 ≤ 5) ∧ (0 ≤ Q.1 0 4 ∧ Q.1 0 4 ≤ 8) ∧ (0 ≤ Q.1 0 5 ∧ Q.1 0 5 ≤ 8) ∧ (0 ≤ Q.1 0 6 ∧ Q.1 0 6 ≤ 3)
  ∧ (∀ c : Int, (0 ≤ Q.1 13 c ∧ Q.1 13 c ≤ 7) ∧ (Q.1 13 c % 2 = 1 → Q.1 13 c = 1))
  ∧ (∀ i : Int, 0 ≤ i → i < Q.1 0 2 → (0 ≤ Q.1 1 i ∧ Q.1 1 i < Q.1 0 0 * Q.1 0 1) ∧ Q.1 13 (Q.1 1 i) % 2 = 1)
  ∧ (∀ l : Int, 0 ≤ l → l < Q.1 0 3 → ((0 ≤ Q.1 2 l ∧ Q.1 2 l < Q.1 0 0 * Q.1 0 1) ∧ Q.1 13 (Q.1 2 l) / 2 % 2 = 1 ∧ ∀ k : Int, 0 ≤ k → k < Q.1 0 3 → k ≠ l → Q.1 2 k ≠ Q.1 2 l) ∧ (1 ≤ Q.1 3 l ∧ Q.1 3 l ≤ 12) ∧ (0 ≤ Q.1 4 l ∧ Q.1 4 l ≤ 200) ∧ (0 ≤ Q.1 5 l ∧ Q.1 5 l ≤ 9) ∧ (1 ≤ Q.1 6 l ∧ Q.1 6 l ≤ 12) ∧ (1 ≤ Q.1 8 l ∧ Q.1 8 l ≤ 6) ∧ (∀ k : Int, 0 ≤ k → k < Q.1 6 l → 0 ≤ Q.1 7 (l * 12 + k) ∧ Q.1 7 (l * 12 + k) ≤ 4) ∧ ∀ k : Int, 0 ≤ k → k < Q.1 8 l → Q.1 9 (l * 6 + k) = 0 ∨ Q.1 9 (l * 6 + k) = 1)
  ∧ (∀ s : Int, 0 ≤ s → s < Q.1 0 4 → ((0 ≤ Q.1 10 s ∧ Q.1 10 s < Q.1 0 0 * Q.1 0 1) ∧ Q.1 13 (Q.1 10 s) / 4 % 2 = 1) ∧ (0 ≤ Q.1 11 s ∧ Q.1 11 s ≤ 12))
  ∧ (∀ k : Int, 0 ≤ k → k < Q.1 0 5 → 0 ≤ Q.1 12 k ∧ Q.1 12 k ≤ 9)
/-! numbers, cells and words -/
theorem pNu_o {X : abX} {lo hi p v p' : Int} (h : pNu X lo hi p = .inr (v, p')) : lxK X p = 3 ∧ (lo ≤ v ∧ v ≤ hi) ∧ v = lxN X p ∧ p' = lxE X p := by
  unfold pNu at h
  split at h
  · split at h
    · rename_i k b
      injection h with h
      injection h with h1 h2
      rw [← h1, ← h2]
      exact ⟨k, b, rfl, rfl⟩
    · cases h
  · cases h
theorem pNh_o {X : abX} {lo hi p v p' : Int} (h : pNh X lo hi p = .inr (v, p')) : lxK X p = 3 ∧ (lo ≤ v ∧ v ≤ hi) ∧ v = lxN X p ∧ p' = p := by
  unfold pNh at h
  split at h
  · split at h
    · rename_i k b
      injection h with h
      injection h with h1 h2
      rw [← h1, ← h2]
      exact ⟨k, b, rfl, rfl⟩
    · cases h
  · cases h
theorem rdB_i {α β : Type} {r : abR α} {f : α → Int → abR β} {b : β} {p : Int} (h : rdB r f = .inr (b, p)) : ∃ a p1, r = .inr (a, p1) ∧ f a p1 = .inr (b, p) := by
  match r, h with
  | .inr (a, p1), h => exact ⟨a, p1, rfl, h⟩
theorem mk_and {m bar : Int} (h : 0 ≤ m ∧ m ≤ 7) : (sAnd m 7 = 0 ↔ m = 0) ∧ (sAnd m 3 = 0 ↔ m % 4 = 0) ∧ (sAnd m 5 = 0 ↔ m % 2 = 0 ∧ m / 4 % 2 = 0) ∧ (sAnd m 1 = m % 2) := by
  have k : m = 0 ∨ m = 1 ∨ m = 2 ∨ m = 3 ∨ m = 4 ∨ m = 5 ∨ m = 6 ∨ m = 7 := by omega
  rcases k with e | e | e | e | e | e | e | e <;> subst e <;> decide
theorem mk_or {m : Int} (h : 0 ≤ m ∧ m ≤ 7) : (m = 0 → sOr m 1 = m + 1) ∧ (m % 4 = 0 → sOr m 2 = m + 2) ∧ (m / 4 % 2 = 0 → sOr m 4 = m + 4) := by
  have k : m = 0 ∨ m = 1 ∨ m = 2 ∨ m = 3 ∨ m = 4 ∨ m = 5 ∨ m = 6 ∨ m = 7 := by omega
  rcases k with e | e | e | e | e | e | e | e <;> subst e <;> decide
theorem pCl_o {X : abX} {Q : abV} {bar p c p' : Int} (g : gdR Q) (h : pCl X Q bar p = .inr (c, p')) : (0 ≤ c ∧ c < Q.1 0 0 * Q.1 0 1) ∧ sAnd (Q.1 13 c) bar = 0 := by
  unfold pCl at h
  obtain ⟨x, p1, e1, h⟩ := rdB_i h
  obtain ⟨y, p2, e2, h⟩ := rdB_i h
  have a := pNu_o e1
  have b := pNh_o e2
  split at h
  · rename_i s
    injection h with h
    injection h with h1 h2
    rw [← h1]
    refine ⟨⟨?_, ?_⟩, s⟩
    · have := Int.mul_nonneg (by have := g.1; omega : (0 : Int) ≤ Q.1 0 0) b.2.1.1
      omega
    · have q : Q.1 0 0 * y ≤ Q.1 0 0 * (Q.1 0 1 - 1) := Int.mul_le_mul_of_nonneg_left b.2.1.2 (by have := g.1; omega)
      rw [Int.mul_sub, Int.mul_one] at q
      omega
  · cases h
theorem pWo_o {X : abX} {f : Int → Int} {most p p' : Int} {w : Int × Int} (hp : p ≤ X.2) (h : pWo X f most p = .inr (w, p')) : lxK X p = 2 ∧ pAll X f p ∧ (1 ≤ w.2 ∧ w.2 ≤ most) ∧ w = (lxB X p, lxE X p - lxB X p) ∧ p' = lxE X p := by
  unfold pWo at h
  split at h
  · rename_i k
    by_cases a : pAll X f p
    · rw [abIte_t a] at h
      split at h
      · rename_i m
        injection h with h
        injection h with h1 h2
        rw [← h1, ← h2]
        have := (lxE_r (X := X) hp).2.2 (by omega)
        exact ⟨k, a, ⟨by show 1 ≤ lxE X p - lxB X p; omega, m⟩, rfl, rfl⟩
      · cases h
    · rw [abIte_f a] at h
      cases h
  · cases h
theorem stF_r {c : Int} : stF c ≠ -1 → 0 ≤ stF c ∧ stF c ≤ 4 := by
  unfold stF
  repeat' split
  all_goals omega
theorem flF_r {c : Int} : flF c ≠ -1 → flF c = 0 ∨ flF c = 1 := by
  unfold flF
  repeat' split
  all_goals omega
