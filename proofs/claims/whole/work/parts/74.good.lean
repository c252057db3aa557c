/-! ===== readings stay good ===== -/
theorem gdR.sea {Q : abV} (g : gdR Q) {w h : Int} (hw : 1 ≤ w ∧ w ≤ 12) (hh : 1 ≤ h ∧ h ≤ 12) (z2 : Q.1 0 2 = 0) (z3 : Q.1 0 3 = 0) (z4 : Q.1 0 4 = 0) : gdR (qU (qU Q 0 0 w) 0 1 h) := by
  have R : ∀ r i, r ≠ 0 → (qU (qU Q 0 0 w) 0 1 h).1 r i = Q.1 r i := fun r i hr => by rw [qU_r hr, qU_r hr]
  have R0 : ∀ i, i ≠ 0 → i ≠ 1 → (qU (qU Q 0 0 w) 0 1 h).1 0 i = Q.1 0 i := fun i a b => by rw [qU_i b, qU_i a]
  have R00 : (qU (qU Q 0 0 w) 0 1 h).1 0 0 = w := by rw [qU_i (by decide), qU_y]
  have R01 : (qU (qU Q 0 0 w) 0 1 h).1 0 1 = h := qU_y
  generalize qU (qU Q 0 0 w) 0 1 h = Q' at *
  obtain ⟨-, -, -, -, -, g5, g6, gm, -, -, -, gf⟩ := g
  have e2 := R0 2 (by decide) (by decide)
  have e3 := R0 3 (by decide) (by decide)
  have e4 := R0 4 (by decide) (by decide)
  have e5 := R0 5 (by decide) (by decide)
  have e6 := R0 6 (by decide) (by decide)
  refine ⟨by omega, by omega, by omega, by omega, by omega, by omega, by omega, fun c => ?_, fun i a b => by omega, fun i a b => by omega, fun i a b => by omega, fun k a b => ?_⟩
  · rw [R 13 c (by decide)]; exact gm c
  · rw [R 12 k (by decide)]; exact gf k a (by omega)
def qCa (Q : abV) (c : Int) : abV := qU (qU (qU Q 13 c (Q.1 13 c + 1)) 1 (Q.1 0 2) c) 0 2 (Q.1 0 2 + 1)
theorem qCa_r {Q : abV} {c : Int} {r : Nat} {i : Int} (h0 : r ≠ 0) (h1 : r ≠ 1) (h13 : r ≠ 13) : (qCa Q c).1 r i = Q.1 r i := by unfold qCa; rw [qU_r h0, qU_r h1, qU_r h13]
theorem qCa_0 {Q : abV} {c i : Int} (h : i ≠ 2) : (qCa Q c).1 0 i = Q.1 0 i := by unfold qCa; rw [qU_i h, qU_r (by decide), qU_r (by decide)]
theorem qCa_02 {Q : abV} {c : Int} : (qCa Q c).1 0 2 = Q.1 0 2 + 1 := qU_y
theorem qCa_1 {Q : abV} {c i : Int} : (qCa Q c).1 1 i = if i = Q.1 0 2 then c else Q.1 1 i := by
  unfold qCa
  rw [qU_r (by decide)]
  by_cases z : i = Q.1 0 2
  · rw [if_pos z, z, qU_y]
  · rw [if_neg z, qU_i z, qU_r (by decide)]
theorem qCa_13 {Q : abV} {c i : Int} : (qCa Q c).1 13 i = if i = c then Q.1 13 c + 1 else Q.1 13 i := by
  unfold qCa
  rw [qU_r (by decide), qU_r (by decide)]
  by_cases z : i = c
  · rw [if_pos z, z, qU_y]
  · rw [if_neg z, qU_i z]
theorem gdR.ca {Q : abV} (g : gdR Q) {c : Int} (n : ¬ 12 ≤ Q.1 0 2) (hc : 0 ≤ c ∧ c < Q.1 0 0 * Q.1 0 1) (m : sAnd (Q.1 13 c) 7 = 0) : gdR (qCa Q c) := by
  obtain ⟨g0, g1, g2, g3, g4, g5, g6, gm, gc, gl, gs, gf⟩ := g
  have m0 := (mk_and (bar := 0) (gm c).1).1.mp m
  have R := fun (r : Nat) (i : Int) => @qCa_r Q c r i
  have R0 := fun (i : Int) => @qCa_0 Q c i
  have R02 := @qCa_02 Q c
  have R1 := fun (i : Int) => @qCa_1 Q c i
  have R13 := fun (i : Int) => @qCa_13 Q c i
  generalize qCa Q c = Q' at *
  have e0 := R0 0 (by decide)
  have e1 := R0 1 (by decide)
  have e3 := R0 3 (by decide)
  have e4 := R0 4 (by decide)
  have e5 := R0 5 (by decide)
  have e6 := R0 6 (by decide)
  have ne : ∀ x : Int, Q.1 13 x ≠ 0 → Q'.1 13 x = Q.1 13 x := fun x hx => by
    rw [R13 x, if_neg (fun z => hx (by rw [z]; exact m0))]
  refine ⟨by omega, by omega, by omega, by omega, by omega, by omega, by omega, fun x => ?_, fun i a b => ?_, fun l a b => ?_, fun l a b => ?_, fun k a b => ?_⟩
  · rw [R13 x]
    split
    · rw [m0]; exact ⟨by decide, fun _ => by decide⟩
    · exact gm x
  · rw [R1 i, e0, e1]
    split
    · rw [R13 c, if_pos rfl, m0]; exact ⟨hc, by decide⟩
    · have := gc i a (by omega)
      rw [ne _ (by omega)]
      exact this
  · have h := gl l a (by omega)
    rw [R 2 l (by decide) (by decide) (by decide), R 3 l (by decide) (by decide) (by decide), R 4 l (by decide) (by decide) (by decide), R 5 l (by decide) (by decide) (by decide), R 6 l (by decide) (by decide) (by decide), R 8 l (by decide) (by decide) (by decide), e0, e1, e3, ne _ (by omega)]
    refine ⟨⟨h.1.1, h.1.2.1, fun k a b n => ?_⟩, h.2.1, h.2.2.1, h.2.2.2.1, h.2.2.2.2.1, h.2.2.2.2.2.1, fun k a b => ?_, fun k a b => ?_⟩
    · rw [R 2 k (by decide) (by decide) (by decide)]; exact h.1.2.2 k a b n
    · rw [R 7 _ (by decide) (by decide) (by decide)]; exact h.2.2.2.2.2.2.1 k a b
    · rw [R 9 _ (by decide) (by decide) (by decide)]; exact h.2.2.2.2.2.2.2 k a b
  · have h := gs l a (by omega)
    rw [R 10 l (by decide) (by decide) (by decide), R 11 l (by decide) (by decide) (by decide), e0, e1, ne _ (by omega)]
    exact h
  · rw [R 12 k (by decide) (by decide) (by decide)]
    exact gf k a (by omega)
theorem qLi_r {X : abX} {Q : abV} {c re oi ra : Int} {w f : Int × Int} {r : Nat} {i : Int} (h : r = 1 ∨ r = 10 ∨ r = 11 ∨ r = 12) : (qLi X Q c re oi ra w f).1 r i = Q.1 r i := by
  rcases h with e | e | e | e <;> subst e <;> simp [qLi, qU, qW]
theorem qLi_0 {X : abX} {Q : abV} {c re oi ra : Int} {w f : Int × Int} {i : Int} (h : i ≠ 3) : (qLi X Q c re oi ra w f).1 0 i = Q.1 0 i := by simp [qLi, qU, qW, h]
theorem qLi_03 {X : abX} {Q : abV} {c re oi ra : Int} {w f : Int × Int} : (qLi X Q c re oi ra w f).1 0 3 = Q.1 0 3 + 1 := by simp [qLi, qU, qW]
theorem qLi_13 {X : abX} {Q : abV} {c re oi ra : Int} {w f : Int × Int} {i : Int} : (qLi X Q c re oi ra w f).1 13 i = if i = c then Q.1 13 c + 2 else Q.1 13 i := by simp [qLi, qU, qW]
theorem qLi_2 {X : abX} {Q : abV} {c re oi ra : Int} {w f : Int × Int} {i : Int} : (qLi X Q c re oi ra w f).1 2 i = if i = Q.1 0 3 then c else Q.1 2 i := by simp [qLi, qU, qW]
theorem qLi_3 {X : abX} {Q : abV} {c re oi ra : Int} {w f : Int × Int} {i : Int} : (qLi X Q c re oi ra w f).1 3 i = if i = Q.1 0 3 then re else Q.1 3 i := by simp [qLi, qU, qW]
theorem qLi_4 {X : abX} {Q : abV} {c re oi ra : Int} {w f : Int × Int} {i : Int} : (qLi X Q c re oi ra w f).1 4 i = if i = Q.1 0 3 then oi else Q.1 4 i := by simp [qLi, qU, qW]
theorem qLi_5 {X : abX} {Q : abV} {c re oi ra : Int} {w f : Int × Int} {i : Int} : (qLi X Q c re oi ra w f).1 5 i = if i = Q.1 0 3 then ra else Q.1 5 i := by simp [qLi, qU, qW]
theorem qLi_6 {X : abX} {Q : abV} {c re oi ra : Int} {w f : Int × Int} {i : Int} : (qLi X Q c re oi ra w f).1 6 i = if i = Q.1 0 3 then w.2 else Q.1 6 i := by simp [qLi, qU, qW]
theorem qLi_8 {X : abX} {Q : abV} {c re oi ra : Int} {w f : Int × Int} {i : Int} : (qLi X Q c re oi ra w f).1 8 i = if i = Q.1 0 3 then f.2 else Q.1 8 i := by simp [qLi, qU, qW]
theorem qLi_7 {X : abX} {Q : abV} {c re oi ra : Int} {w f : Int × Int} {i : Int} : (qLi X Q c re oi ra w f).1 7 i = if Q.1 0 3 * 12 ≤ i ∧ i < Q.1 0 3 * 12 + w.2 then stF (X.1 (w.1 + (i - Q.1 0 3 * 12)).toNat) else Q.1 7 i := by simp [qLi, qU, qW]
theorem qLi_9 {X : abX} {Q : abV} {c re oi ra : Int} {w f : Int × Int} {i : Int} : (qLi X Q c re oi ra w f).1 9 i = if Q.1 0 3 * 6 ≤ i ∧ i < Q.1 0 3 * 6 + f.2 then flF (X.1 (f.1 + (i - Q.1 0 3 * 6)).toNat) else Q.1 9 i := by simp [qLi, qU, qW]
theorem gdR.li {X : abX} {Q : abV} (g : gdR Q) {c re oi ra : Int} {w f : Int × Int} (n : ¬ 5 ≤ Q.1 0 3) (hc : 0 ≤ c ∧ c < Q.1 0 0 * Q.1 0 1) (m : sAnd (Q.1 13 c) 3 = 0) (hre : 1 ≤ re ∧ re ≤ 12) (hoi : 0 ≤ oi ∧ oi ≤ 200) (hra : 0 ≤ ra ∧ ra ≤ 9) (hw : 1 ≤ w.2 ∧ w.2 ≤ 12) (hf : 1 ≤ f.2 ∧ f.2 ≤ 6) (aw : ∀ k : Int, 0 ≤ k → k < w.2 → stF (X.1 (w.1 + k).toNat) ≠ -1) (af : ∀ k : Int, 0 ≤ k → k < f.2 → flF (X.1 (f.1 + k).toNat) ≠ -1) : gdR (qLi X Q c re oi ra w f) := by
  obtain ⟨g0, g1, g2, g3, g4, g5, g6, gm, gc, gl, gs, gf⟩ := g
  have gmc := gm c
  have m0 := (mk_and (bar := 0) gmc.1).2.1.mp m
  have R := fun (r : Nat) (i : Int) => @qLi_r X Q c re oi ra w f r i
  have R0 := fun (i : Int) => @qLi_0 X Q c re oi ra w f i
  have R03 := @qLi_03 X Q c re oi ra w f
  have R13 := fun (i : Int) => @qLi_13 X Q c re oi ra w f i
  have R2 := fun (i : Int) => @qLi_2 X Q c re oi ra w f i
  have R3 := fun (i : Int) => @qLi_3 X Q c re oi ra w f i
  have R4 := fun (i : Int) => @qLi_4 X Q c re oi ra w f i
  have R5 := fun (i : Int) => @qLi_5 X Q c re oi ra w f i
  have R6 := fun (i : Int) => @qLi_6 X Q c re oi ra w f i
  have R7 := fun (i : Int) => @qLi_7 X Q c re oi ra w f i
  have R8 := fun (i : Int) => @qLi_8 X Q c re oi ra w f i
  have R9 := fun (i : Int) => @qLi_9 X Q c re oi ra w f i
  generalize qLi X Q c re oi ra w f = Q' at *
  have e0 := R0 0 (by decide)
  have e1 := R0 1 (by decide)
  have e2 := R0 2 (by decide)
  have e4 := R0 4 (by decide)
  have e5 := R0 5 (by decide)
  have e6 := R0 6 (by decide)
  refine ⟨by omega, by omega, by omega, by omega, by omega, by omega, by omega, fun x => ?_, fun i a b => ?_, fun l a b => ?_, fun l a b => ?_, fun k a b => ?_⟩
  · rw [R13 x]
    split
    · exact ⟨by omega, fun z => by omega⟩
    · exact gm x
  · have h := gc i a (by omega)
    rw [R 1 i (by decide), e0, e1, R13, if_neg (fun z => by have := h.2; rw [z] at this; omega)]
    exact h
  · rw [R2 l, R3 l, R4 l, R5 l, R6 l, R8 l, e0, e1, R03]
    by_cases z : l = Q.1 0 3
    · rw [if_pos z, if_pos z, if_pos z, if_pos z, if_pos z, if_pos z, R13, if_pos rfl]
      refine ⟨⟨hc, by omega, fun k a b n => ?_⟩, hre, hoi, hra, hw, hf, fun k a b => ?_, fun k a b => ?_⟩
      · rw [R2 k, if_neg (by omega)]
        intro u
        have := (gl k a (by omega)).1.2.1
        rw [u] at this
        omega
      · rw [R7, if_pos ⟨by omega, by omega⟩, show l * 12 + k - Q.1 0 3 * 12 = k by rw [z]; omega]
        exact stF_r (aw k a b)
      · rw [R9, if_pos ⟨by omega, by omega⟩, show l * 6 + k - Q.1 0 3 * 6 = k by rw [z]; omega]
        exact flF_r (af k a b)
    · have h := gl l a (by omega)
      have nc : Q.1 2 l ≠ c := fun u => by have := h.1.2.1; rw [u] at this; omega
      rw [if_neg z, if_neg z, if_neg z, if_neg z, if_neg z, if_neg z, R13, if_neg nc]
      refine ⟨⟨h.1.1, h.1.2.1, fun k a b n => ?_⟩, h.2.1, h.2.2.1, h.2.2.2.1, h.2.2.2.2.1, h.2.2.2.2.2.1, fun k a b => ?_, fun k a b => ?_⟩
      · rw [R2 k]
        split
        · exact fun u => nc u.symm
        · exact h.1.2.2 k a (by omega) n
      · rw [R7, if_neg (by omega)]; exact h.2.2.2.2.2.2.1 k a b
      · rw [R9, if_neg (by omega)]; exact h.2.2.2.2.2.2.2 k a b
  · have h := gs l a (by omega)
    rw [R 10 l (by decide), R 11 l (by decide), e0, e1, R13]
    split
    · rename_i z
      rw [z] at h
      rw [z]
      exact ⟨⟨h.1.1, by omega⟩, h.2⟩
    · exact h
  · rw [R 12 k (by decide)]
    exact gf k a (by omega)
def qSh (Q : abV) (c wa : Int) : abV := qU (qU (qU (qU Q 13 c (Q.1 13 c + 4)) 10 (Q.1 0 4) c) 11 (Q.1 0 4) wa) 0 4 (Q.1 0 4 + 1)
theorem qSh_r {Q : abV} {c wa : Int} {r : Nat} {i : Int} (h0 : r ≠ 0) (h1 : r ≠ 10) (h2 : r ≠ 11) (h13 : r ≠ 13) : (qSh Q c wa).1 r i = Q.1 r i := by unfold qSh; rw [qU_r h0, qU_r h2, qU_r h1, qU_r h13]
theorem qSh_0 {Q : abV} {c wa i : Int} (h : i ≠ 4) : (qSh Q c wa).1 0 i = Q.1 0 i := by simp [qSh, qU, h]
theorem qSh_04 {Q : abV} {c wa : Int} : (qSh Q c wa).1 0 4 = Q.1 0 4 + 1 := by simp [qSh, qU]
theorem qSh_13 {Q : abV} {c wa i : Int} : (qSh Q c wa).1 13 i = if i = c then Q.1 13 c + 4 else Q.1 13 i := by simp [qSh, qU]
theorem qSh_10 {Q : abV} {c wa i : Int} : (qSh Q c wa).1 10 i = if i = Q.1 0 4 then c else Q.1 10 i := by simp [qSh, qU]
theorem qSh_11 {Q : abV} {c wa i : Int} : (qSh Q c wa).1 11 i = if i = Q.1 0 4 then wa else Q.1 11 i := by simp [qSh, qU]
theorem gdR.sh {Q : abV} (g : gdR Q) {c wa : Int} (n : ¬ 8 ≤ Q.1 0 4) (hc : 0 ≤ c ∧ c < Q.1 0 0 * Q.1 0 1) (m : sAnd (Q.1 13 c) 5 = 0) (hw : 0 ≤ wa ∧ wa ≤ 12) : gdR (qSh Q c wa) := by
  obtain ⟨g0, g1, g2, g3, g4, g5, g6, gm, gc, gl, gs, gf⟩ := g
  have gmc := gm c
  have m0 := (mk_and (bar := 0) gmc.1).2.2.1.mp m
  have R := fun (r : Nat) (i : Int) => @qSh_r Q c wa r i
  have R0 := fun (i : Int) => @qSh_0 Q c wa i
  have R04 := @qSh_04 Q c wa
  have R10 := fun (i : Int) => @qSh_10 Q c wa i
  have R11 := fun (i : Int) => @qSh_11 Q c wa i
  have R13 := fun (i : Int) => @qSh_13 Q c wa i
  generalize qSh Q c wa = Q' at *
  have e0 := R0 0 (by decide)
  have e1 := R0 1 (by decide)
  have e2 := R0 2 (by decide)
  have e3 := R0 3 (by decide)
  have e5 := R0 5 (by decide)
  have e6 := R0 6 (by decide)
  refine ⟨by omega, by omega, by omega, by omega, by omega, by omega, by omega, fun x => ?_, fun i a b => ?_, fun l a b => ?_, fun l a b => ?_, fun k a b => ?_⟩
  · rw [R13 x]
    split
    · exact ⟨by omega, fun z => by omega⟩
    · exact gm x
  · have h := gc i a (by omega)
    rw [R 1 i (by decide) (by decide) (by decide) (by decide), e0, e1, R13, if_neg (fun z => by have := h.2; rw [z] at this; omega)]
    exact h
  · have h := gl l a (by omega)
    have mk : Q'.1 13 (Q.1 2 l) / 2 % 2 = 1 := by
      rw [R13]
      split
      · rename_i z
        have := h.1.2.1
        rw [z] at this
        omega
      · exact h.1.2.1
    rw [R 2 l (by decide) (by decide) (by decide) (by decide), R 3 l (by decide) (by decide) (by decide) (by decide), R 4 l (by decide) (by decide) (by decide) (by decide), R 5 l (by decide) (by decide) (by decide) (by decide), R 6 l (by decide) (by decide) (by decide) (by decide), R 8 l (by decide) (by decide) (by decide) (by decide), e0, e1, e3]
    refine ⟨⟨h.1.1, mk, fun k a b n => ?_⟩, h.2.1, h.2.2.1, h.2.2.2.1, h.2.2.2.2.1, h.2.2.2.2.2.1, fun k a b => ?_, fun k a b => ?_⟩
    · rw [R 2 k (by decide) (by decide) (by decide) (by decide)]; exact h.1.2.2 k a b n
    · rw [R 7 _ (by decide) (by decide) (by decide) (by decide)]; exact h.2.2.2.2.2.2.1 k a b
    · rw [R 9 _ (by decide) (by decide) (by decide) (by decide)]; exact h.2.2.2.2.2.2.2 k a b
  · rw [R10 l, R11 l, e0, e1]
    by_cases z : l = Q.1 0 4
    · rw [if_pos z, if_pos z, R13, if_pos rfl]
      exact ⟨⟨hc, by omega⟩, hw⟩
    · have h := gs l a (by omega)
      rw [if_neg z, if_neg z, R13]
      split
      · rename_i y
        have := h.1.2
        rw [y] at this
        omega
      · exact h
  · rw [R 12 k (by decide) (by decide) (by decide) (by decide)]
    exact gf k a (by omega)
def qFo (Q : abV) (v : Int) : abV := qU (qU Q 12 (Q.1 0 5) v) 0 5 (Q.1 0 5 + 1)
theorem qFo_r {Q : abV} {v : Int} {r : Nat} {i : Int} (h0 : r ≠ 0) (h1 : r ≠ 12) : (qFo Q v).1 r i = Q.1 r i := by unfold qFo; rw [qU_r h0, qU_r h1]
theorem qFo_0 {Q : abV} {v i : Int} (h : i ≠ 5) : (qFo Q v).1 0 i = Q.1 0 i := by simp [qFo, qU, h]
theorem qFo_05 {Q : abV} {v : Int} : (qFo Q v).1 0 5 = Q.1 0 5 + 1 := by simp [qFo, qU]
theorem qFo_12 {Q : abV} {v i : Int} : (qFo Q v).1 12 i = if i = Q.1 0 5 then v else Q.1 12 i := by simp [qFo, qU]
/-- the rest as it was -/
theorem gdR.sm {Q Q' : abV} (g : gdR Q) (R : ∀ r i, r ≠ 0 → r ≠ 12 → Q'.1 r i = Q.1 r i) (R0 : ∀ i, i ≠ 5 → i ≠ 6 → Q'.1 0 i = Q.1 0 i) (h5 : 0 ≤ Q'.1 0 5 ∧ Q'.1 0 5 ≤ 8) (h6 : 0 ≤ Q'.1 0 6 ∧ Q'.1 0 6 ≤ 3) (hf : ∀ k : Int, 0 ≤ k → k < Q'.1 0 5 → 0 ≤ Q'.1 12 k ∧ Q'.1 12 k ≤ 9) : gdR Q' := by
  obtain ⟨g0, g1, g2, g3, g4, g5, g6, gm, gc, gl, gs, gf⟩ := g
  have e0 := R0 0 (by decide) (by decide)
  have e1 := R0 1 (by decide) (by decide)
  have e2 := R0 2 (by decide) (by decide)
  have e3 := R0 3 (by decide) (by decide)
  have e4 := R0 4 (by decide) (by decide)
  refine ⟨by omega, by omega, by omega, by omega, by omega, h5, h6, fun x => ?_, fun i a b => ?_, fun l a b => ?_, fun l a b => ?_, hf⟩
  · rw [R 13 x (by decide) (by decide)]; exact gm x
  · rw [R 1 i (by decide) (by decide), e0, e1, R 13 _ (by decide) (by decide)]; exact gc i a (by omega)
  · have h := gl l a (by omega)
    rw [R 2 l (by decide) (by decide), R 3 l (by decide) (by decide), R 4 l (by decide) (by decide), R 5 l (by decide) (by decide), R 6 l (by decide) (by decide), R 8 l (by decide) (by decide), e0, e1, e3, R 13 _ (by decide) (by decide)]
    refine ⟨⟨h.1.1, h.1.2.1, fun k a b n => ?_⟩, h.2.1, h.2.2.1, h.2.2.2.1, h.2.2.2.2.1, h.2.2.2.2.2.1, fun k a b => ?_, fun k a b => ?_⟩
    · rw [R 2 k (by decide) (by decide)]; exact h.1.2.2 k a b n
    · rw [R 7 _ (by decide) (by decide)]; exact h.2.2.2.2.2.2.1 k a b
    · rw [R 9 _ (by decide) (by decide)]; exact h.2.2.2.2.2.2.2 k a b
  · rw [R 10 l (by decide) (by decide), R 11 l (by decide) (by decide), e0, e1, R 13 _ (by decide) (by decide)]; exact gs l a (by omega)
theorem gdR.fo {Q : abV} (g : gdR Q) {v : Int} (n : Q.1 0 5 ≠ 8) (hv : 0 ≤ v ∧ v ≤ 9) : gdR (qFo Q v) := by
  have g5 := g.2.2.2.2.2.1
  refine g.sm (fun r i a b => qFo_r a b) (fun i a _ => qFo_0 a) ?_ ?_ (fun k a b => ?_)
  · rw [qFo_05]; omega
  · rw [qFo_0 (by decide)]; exact g.2.2.2.2.2.2.1
  · rw [qFo_05] at b
    rw [qFo_12]
    split
    · exact hv
    · exact g.2.2.2.2.2.2.2.2.2.2.2 k a (by omega)
theorem gdR.la {Q : abV} (g : gdR Q) {o : List Int} (n : ¬ 3 ≤ Q.1 0 6) : gdR (qLa Q o) := by
  have g6 := g.2.2.2.2.2.2.1
  refine g.sm (fun r i a b => if_neg (fun z => a z.1)) (fun i a b => if_neg (fun z => b z.2)) ?_ ?_ (fun k a b => ?_)
  · rw [show (qLa Q o).1 0 5 = Q.1 0 5 from by simp [qLa]]; exact g.2.2.2.2.2.1
  · rw [show (qLa Q o).1 0 6 = Q.1 0 6 + 1 from by simp [qLa]]; omega
  · rw [show (qLa Q o).1 0 5 = Q.1 0 5 from by simp [qLa]] at b
    rw [show (qLa Q o).1 12 k = Q.1 12 k from by simp [qLa]]
    exact g.2.2.2.2.2.2.2.2.2.2.2 k a b
theorem gdR_q0 : gdR q0 := by
  have e0 : q0.1 0 0 = 8 := by simp [q0]
  have e1 : q0.1 0 1 = 8 := by simp [q0]
  have e2 : q0.1 0 2 = 0 := by simp [q0]
  have e3 : q0.1 0 3 = 0 := by simp [q0]
  have e4 : q0.1 0 4 = 0 := by simp [q0]
  have e5 : q0.1 0 5 = 0 := by simp [q0]
  have e6 : q0.1 0 6 = 0 := by simp [q0]
  refine ⟨by omega, by omega, by omega, by omega, by omega, by omega, by omega, fun c => ?_, fun i a b => by omega, fun i a b => by omega, fun i a b => by omega, fun i a b => by omega⟩
  have e : q0.1 13 c = 0 := by simp [q0]
  rw [e]
  exact ⟨by decide, by decide⟩
