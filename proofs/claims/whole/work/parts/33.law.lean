/-! ===== what a law gives ===== -/
def abJoin (o a b : Int) : Int :=
  if o = -14 then wr (a * b) else if o = -13 then wr (a - b) else if o = -12 then wr (a + b) else if o = -11 then (if a = b then 1 else 0) else if o = -10 then (if b ≤ a then 0 else 1)
  else if o = -9 then (if a = 0 then 0 else if b = 0 then 0 else 1) else if o = -8 then (if a = 0 then (if b = 0 then 0 else 1) else 1) else if b = 0 then 0 else sDiv a b
def abEx (vals : Nat → Int) (o : Int) (st : List Int) : List Int :=
  if -6 ≤ o then (if 0 ≤ o then o else vals (-1 - o).toNat) :: st else if o = -7 then (match st with | a :: t => (if a = 0 then 1 else 0) :: t | [] => []) else match st with | b :: a :: t => abJoin o a b :: t | s => s
def abRun (vals : Nat → Int) : List Int → List Int → List Int
  | [], st => st
  | o :: os, st => abRun vals os (abEx vals o st)
def abGive (P : abP) (law : Int) (vals : Nat → Int) : Int := (abRun vals (abLaw P law) []).headD 0
def abStk (f : Nat → Int) : List Int → Prop
  | [] => True
  | a :: t => f t.length = a ∧ abStk f t
theorem abStk.up {σ : slM} {r i k : Nat} {v : Int} : ∀ {t : List Int}, abStk (σ r i) t → t.length ≤ k → abStk (slU σ r i k v r i) t
  | [], _, _ => trivial
  | a :: t, h, hk => by
    have hk' : t.length + 1 ≤ k := hk
    exact ⟨by rw [slU_ne (by omega)]; exact h.1, abStk.up h.2 (by omega)⟩
theorem inWr (x : Int) : InR (wr x) := by
  have a := Int32.toInt_lt (Int32.ofInt x)
  have b := Int32.le_toInt (Int32.ofInt x)
  exact ⟨b, a⟩
theorem inDiv (x y : Int) : InR (sDiv x y) := ⟨Int32.le_toInt _, Int32.toInt_lt _⟩
theorem inJoin {o a b : Int} : InR (abJoin o a b) := by
  have w1 := inWr (a * b)
  have w2 := inWr (a - b)
  have w3 := inWr (a + b)
  have w4 := inDiv a b
  unfold abJoin
  repeat' split
  all_goals first | assumption | exact ⟨by omega, by omega⟩
theorem abWf_in : ∀ {os : List Int} {d : Nat}, abWf os d → ∀ o ∈ os, -15 ≤ o ∧ o < 10000
  | [], _, _, o, h => absurd h (by simp)
  | p :: os, d, w, o, h => by
    obtain ⟨a, b, c⟩ := w
    rcases List.mem_cons.mp h with e | e
    · rw [e]; exact ⟨a, b⟩
    · split at c
      · exact abWf_in c.2 o e
      · split at c
        · exact abWf_in c.2 o e
        · exact abWf_in c.2 o e
set_option maxHeartbeats 1000000 in
set_option maxRecDepth 4000 in
theorem sp_X4_join {G : slG} (hG : slGood G) {d K : Nat} (hd : 1 ≤ d) (hK : 0 ≤ K) {Φ : slPost} {σ : slM} {x0 : Int} {x1 : Int} {x2 : Int} (h0 : -15 ≤ x0 ∧ x0 ≤ -8) (h1 : InR x1) (h2 : InR x2) (h : Φ (0, abJoin x0 x1 x2) σ) :
    slCall G mX4_join d K [sI x0, sI x1, sI x2] σ Φ := by
  refine vc_X4_join hG (by omega) hK  ?_
  unfold abJoin at h
  have hs : x0 = -15 ∨ x0 = -14 ∨ x0 = -13 ∨ x0 = -12 ∨ x0 = -11 ∨ x0 = -10 ∨ x0 = -9 ∨ x0 = -8 := by omega
  refine ⟨⟨by omega, by omega⟩, fun e => ?_, fun e => ?_, fun e => ?_, fun e => ⟨⟨h1, h2⟩, fun q => ?_, fun q => ?_⟩, fun e => ⟨⟨h1, h2⟩, fun q => ?_, fun q => ?_⟩, fun e => ⟨h1, fun q => ?_, fun q => ⟨h2, fun q2 => ?_, fun q2 => ?_⟩⟩, fun e => ⟨h1, fun q => ?_, fun q => ⟨h2, fun q2 => ?_, fun q2 => ?_⟩⟩, fun e => ?_⟩
  · rwa [if_pos e] at h
  · rwa [if_neg (by omega), if_pos e] at h
  · rwa [if_neg (by omega), if_neg (by omega), if_pos e] at h
  · rwa [if_neg (by omega), if_neg (by omega), if_neg (by omega), if_pos e, if_neg q] at h
  · rwa [if_neg (by omega), if_neg (by omega), if_neg (by omega), if_pos e, if_pos q] at h
  · rwa [if_neg (by omega), if_neg (by omega), if_neg (by omega), if_neg (by omega), if_pos e, if_pos q] at h
  · rwa [if_neg (by omega), if_neg (by omega), if_neg (by omega), if_neg (by omega), if_pos e, if_neg q] at h
  · rwa [if_neg (by omega), if_neg (by omega), if_neg (by omega), if_neg (by omega), if_neg (by omega), if_pos e, if_pos q] at h
  · rwa [if_neg (by omega), if_neg (by omega), if_neg (by omega), if_neg (by omega), if_neg (by omega), if_pos e, if_neg q, if_pos q2] at h
  · rwa [if_neg (by omega), if_neg (by omega), if_neg (by omega), if_neg (by omega), if_neg (by omega), if_pos e, if_neg q, if_neg q2] at h
  · rwa [if_neg (by omega), if_neg (by omega), if_neg (by omega), if_neg (by omega), if_neg (by omega), if_neg (by omega), if_pos e, if_neg q] at h
  · rwa [if_neg (by omega), if_neg (by omega), if_neg (by omega), if_neg (by omega), if_neg (by omega), if_neg (by omega), if_pos e, if_pos q, if_pos q2] at h
  · rwa [if_neg (by omega), if_neg (by omega), if_neg (by omega), if_neg (by omega), if_neg (by omega), if_neg (by omega), if_pos e, if_pos q, if_neg q2] at h
  · rw [if_neg (by omega), if_neg (by omega), if_neg (by omega), if_neg (by omega), if_neg (by omega), if_neg (by omega), if_neg (by omega)] at h
    refine vc_X11_quotient hG (by omega) (by omega) ⟨h2, fun q => ⟨⟨h2, q⟩, slKn.ok ?_⟩, fun q => slKn.ok ?_⟩
    · rwa [if_neg q] at h
    · rwa [if_pos q] at h
set_option maxHeartbeats 1000000 in
set_option maxRecDepth 4000 in
theorem sp_X12_works {G : slG} (hG : slGood G) {d K : Nat} (hd : 0 ≤ d) (hK : 0 ≤ K) {Φ : slPost} {σ : slM} {x0 : Int} {x1 : Int} {x2 : Int} {o : Int} (h0 : -15 ≤ o ∧ o ≤ -8) (e0 : x0 = abOp o) (h1 : InR x1) (h2 : InR x2) (h : Φ (0, abJoin o x1 x2) σ) :
    slCall G mX12_works d K [sI x0, sI x1, sI x2] σ Φ := by
  refine vc_X12_works hG (by omega) hK  ?_
  have key : ∀ v, v = abJoin o x1 x2 → Φ (0, v) σ := fun v e => by rw [e]; exact h
  clear h
  unfold abJoin at key
  have hs : o = -15 ∨ o = -14 ∨ o = -13 ∨ o = -12 ∨ o = -11 ∨ o = -10 ∨ o = -9 ∨ o = -8 := by omega
  unfold abOp at e0
  rcases hs with rfl | rfl | rfl | rfl | rfl | rfl | rfl | rfl
  all_goals simp only [Int.reduceEq, Int.reduceNeg, Int.reduceSub, if_true, if_false, ite_true, ite_false] at key e0
  all_goals subst e0
  all_goals (refine ⟨⟨by omega, by omega⟩, ?_⟩)
  all_goals simp only [Int.reduceEq, Int.reduceLT, if_true, if_false, ite_true, ite_false, false_implies, true_implies, or_self, or_true, true_or, or_false, false_or, true_and, and_true]
  all_goals repeat' first | apply And.intro | intro _
  all_goals first | contradiction | assumption | exact h1.1 | exact h1.2 | exact h2.1 | exact h2.2 | (apply key; first | rfl | (repeat' split) <;> first | rfl | omega)
set_option maxHeartbeats 1000000 in
set_option maxRecDepth 4000 in
theorem sp_X4_give {G : slG} (hG : slGood G) {d K : Nat} (hd : 2 ≤ d) (hK : 0 ≤ K) {Φ : slPost} {σ : slM} {i0 : Nat} {x1 : Int} {t : Nat} {P : abP} {vals : Nat → Int} (hP : isC i0 P σ) (hC : gdC P) (h1 : 0 ≤ x1 ∧ x1 < P 4 4) (hv : ∀ k, k < 6 → σ 57 t k = vals k) (hi : ∀ k, k < 6 → InR (vals k)) (h : ∀ τ, slFr [(39, i0)] σ τ → Φ (0, abGive P x1 vals) τ) :
    slCall G mX4_give d K [sR 4 i0, sI x1, sR 57 t] σ Φ := by
  refine vc_X4_give hG (by omega) hK (fun μ y3 y4 σ' => ∃ st : List Int, st.length ≤ 40 ∧ slFr [(39, i0)] σ σ' ∧ μ = ((P 38 x1.toNat - y4).toNat, 0, 0) ∧ 0 ≤ y4 ∧ y4 ≤ P 38 x1.toNat ∧ abWf (abSeg (P 37) y4.toNat (P 38 x1.toNat - y4).toNat) st.length ∧ y3 = st.length ∧ abStk (σ' 39 i0) st ∧ (∀ a ∈ st, InR a) ∧ (abRun vals (abSeg (P 37) y4.toNat (P 38 x1.toNat - y4).toNat) st).headD 0 = abGive P x1 vals) ?_ ?_
  · obtain ⟨p1, p23, p24, p25, p26, p27, p28, p29, p30, p31, p32, p4, p37, p38⟩ := hP
    have L := hC.2.2.2.2.2.2.2.2.2.2
    have l2 := L.2 x1 h1.1 h1.2
    rw [p4, p38]
    refine ⟨⟨by omega, by omega⟩, fun q => by omega, fun q => ⟨⟨⟨by omega, by omega⟩, by omega, by omega⟩, fun q2 => ⟨⟨by omega, by omega⟩, fun q3 => ⟨⟨by omega, by omega⟩, ?_⟩, fun q3 => ?_⟩, fun q2 => by omega⟩⟩
    · have f : abFrom P x1 = P 38 (x1 - 1).toNat := if_neg q3
      have l3 := l2.2
      unfold abGive
      unfold abLaw at l3 ⊢
      rw [f] at l2 l3 ⊢
      exact ⟨_, [], by simp, slFr.id, rfl, by omega, by omega, l3, rfl, trivial, fun a z => absurd z (by simp), rfl⟩
    · have f : abFrom P x1 = 0 := if_pos q3
      have l3 := l2.2
      unfold abGive
      unfold abLaw at l3 ⊢
      rw [f] at l2 l3 ⊢
      exact ⟨_, [], by simp, slFr.id, rfl, by omega, by omega, l3, rfl, trivial, fun a z => absurd z (by simp), rfl⟩
  · obtain ⟨p1, p23, p24, p25, p26, p27, p28, p29, p30, p31, p32, p4, p37, p38⟩ := hP
    have L := hC.2.2.2.2.2.2.2.2.2.2
    have l2 := L.2 x1 h1.1 h1.2
    rintro μ y3 y4 σ' ⟨st, lim, fr, rfl, y0, y1, wf, rfl, stk, inr, run⟩
    have e37 : σ' 37 i0 = P 37 := (fr 37 i0 (by simp)).trans p37
    have e38 : σ' 38 i0 = P 38 := (fr 38 i0 (by simp)).trans p38
    have e57 : ∀ k, k < 6 → σ' 57 t k = vals k := fun k hk => by rw [fr 57 t (by simp)]; exact hv k hk
    rw [e37, e38]
    refine ⟨⟨by omega, by omega⟩, ⟨⟨by omega, by omega⟩, by omega, by omega⟩, fun q => ?_, fun q => ?_⟩
    · rw [show (P 38 x1.toNat - y4).toNat = 0 by omega] at wf run
      have l1 : st.length = 1 := wf
      obtain ⟨a, rfl⟩ := List.length_eq_one_iff.mp l1
      have e : σ' 39 i0 0 = a := stk.1
      rw [e]
      have r2 : a = abGive P x1 vals := run
      rw [r2]
      exact h σ' fr
    · have en : (P 38 x1.toNat - y4).toNat = (P 38 x1.toNat - (y4 + 1)).toNat + 1 := by omega
      have ea : (y4 + 1).toNat = y4.toNat + 1 := by omega
      rw [en] at wf run
      have wf2 : -15 ≤ P 37 y4.toNat ∧ P 37 y4.toNat < 10000 ∧ if -6 ≤ P 37 y4.toNat then st.length < 40 ∧ abWf (abSeg (P 37) (y4.toNat + 1) (P 38 x1.toNat - (y4 + 1)).toNat) (st.length + 1) else if P 37 y4.toNat = -7 then 1 ≤ st.length ∧ abWf (abSeg (P 37) (y4.toNat + 1) (P 38 x1.toNat - (y4 + 1)).toNat) st.length else 2 ≤ st.length ∧ abWf (abSeg (P 37) (y4.toNat + 1) (P 38 x1.toNat - (y4 + 1)).toNat) (st.length - 1) := wf
      have run2 : (abRun vals (abSeg (P 37) (y4.toNat + 1) (P 38 x1.toNat - (y4 + 1)).toNat) (abEx vals (P 37 y4.toNat) st)).headD 0 = abGive P x1 vals := run
      clear wf run
      obtain ⟨o1, o2, wf⟩ := wf2
      have lt : slLt ((P 38 x1.toNat - (y4 + 1)).toNat, 0, 0) ((P 38 x1.toNat - y4).toNat, 0, 0) := Or.inl (by show (P 38 x1.toNat - (y4 + 1)).toNat < (P 38 x1.toNat - y4).toNat; omega)
      unfold abEx at run2
      refine ⟨⟨by omega, by omega⟩, ⟨by omega, by omega⟩, fun q1 => ⟨⟨by omega, by omega⟩, fun q2 => ?_, fun q2 => ?_⟩, fun q1 => ?_⟩
      · rw [if_neg (by omega), if_neg q2] at wf run2
        obtain ⟨b, a, t, rfl⟩ : ∃ b a t, st = b :: a :: t := by
          match st, wf.1 with
          | b :: a :: t, _ => exact ⟨b, a, t, rfl⟩
        have ln : (b :: a :: t).length = t.length + 2 := rfl
        rw [ln] at wf lim ⊢
        refine ⟨⟨by omega, by omega⟩, fun z => by omega, fun z => ?_⟩
        have i1 : (((t.length + 2 : Nat) : Int) + -1 - 1).toNat = t.length := by omega
        have i2 : (((t.length + 2 : Nat) : Int) + -1).toNat = t.length + 1 := by omega
        refine ⟨⟨by omega, by omega⟩, ⟨by omega, by omega⟩, ?_⟩
        rw [i1, i2]
        have s1 : σ' 39 i0 (t.length + 1) = b := stk.1
        have s2 : σ' 39 i0 t.length = a := stk.2.1
        rw [s1, s2]
        refine sp_X4_join hG (by omega) (by omega) ⟨by omega, by omega⟩ (inr a (by simp)) (inr b (by simp)) (slKt.ok ⟨⟨by omega, by omega⟩, _, lt, abJoin (P 37 y4.toNat) a b :: t, (show t.length + 1 ≤ 40 by omega), fr.up (by simp), rfl, by omega, by omega, ?_, ?_, ?_, ?_, ?_⟩)
        · rw [ea]; exact wf.2
        · show ((t.length + 2 : Nat) : Int) + -1 = ((t.length + 1 : Nat) : Int); omega
        · exact ⟨slU_same _ _ _ _ _, abStk.up stk.2.2 (by omega)⟩
        · intro z hz
          rcases List.mem_cons.mp hz with e | e
          · rw [e]; exact inJoin
          · exact inr z (by simp [e])
        · rw [ea]; exact run2
      · rw [if_neg (by omega), if_pos q2] at wf run2
        obtain ⟨a, t, rfl⟩ : ∃ a t, st = a :: t := by
          match st, wf.1 with
          | a :: t, _ => exact ⟨a, t, rfl⟩
        have ln : (a :: t).length = t.length + 1 := rfl
        rw [ln] at wf lim ⊢
        refine ⟨⟨by omega, by omega⟩, fun z => by omega, fun z => ?_⟩
        have i1 : (((t.length + 1 : Nat) : Int) - 1).toNat = t.length := by omega
        rw [i1]
        have s1 : σ' 39 i0 t.length = a := stk.1
        rw [s1]
        have e3 : (if ¬ a = 0 then (0 : Int) else 1) = if a = 0 then 1 else 0 := by by_cases z : a = 0 <;> simp [z]
        rw [e3]
        refine ⟨⟨by omega, by omega⟩, inr a (by simp), ⟨by omega, by omega⟩, _, lt, (if a = 0 then 1 else 0) :: t, lim, fr.up (by simp), rfl, by omega, by omega, ?_, rfl, ?_, ?_, ?_⟩
        · rw [ea]; exact wf.2
        · exact ⟨slU_same _ _ _ _ _, abStk.up stk.2 (by omega)⟩
        · intro z hz
          rcases List.mem_cons.mp hz with e | e
          · rw [e]; split <;> exact ⟨by omega, by omega⟩
          · exact inr z (by simp [e])
        · rw [ea]; exact run2
      · rw [if_pos (by omega)] at wf run2
        refine ⟨⟨by omega, by omega⟩, fun z => by omega, fun z => ⟨⟨by omega, by omega⟩, fun q2 => ⟨⟨by omega, by omega⟩, ⟨by omega, by omega⟩, ?_⟩, fun q2 => ⟨⟨by omega, by omega⟩, ?_⟩⟩⟩
        · rw [if_neg (by omega)] at run2
          have hk : (-1 - P 37 y4.toNat).toNat < 6 := by omega
          rw [e57 _ hk]
          refine ⟨_, lt, vals (-1 - P 37 y4.toNat).toNat :: st, (show st.length + 1 ≤ 40 by omega), fr.up (by simp), rfl, by omega, by omega, ?_, rfl, ?_, ?_, ?_⟩
          · rw [ea]; exact wf.2
          · rw [Int.toNat_natCast]; exact ⟨slU_same _ _ _ _ _, abStk.up stk (by omega)⟩
          · intro z hz
            rcases List.mem_cons.mp hz with e | e
            · rw [e]; exact hi _ hk
            · exact inr z e
          · rw [ea]; exact run2
        · rw [if_pos (by omega)] at run2
          refine ⟨_, lt, P 37 y4.toNat :: st, (show st.length + 1 ≤ 40 by omega), fr.up (by simp), rfl, by omega, by omega, ?_, rfl, ?_, ?_, ?_⟩
          · rw [ea]; exact wf.2
          · rw [Int.toNat_natCast]; exact ⟨slU_same _ _ _ _ _, abStk.up stk (by omega)⟩
          · intro z hz
            rcases List.mem_cons.mp hz with e | e
            · rw [e]; exact ⟨by omega, by omega⟩
            · exact inr z e
          · rw [ea]; exact run2
set_option maxHeartbeats 1000000 in
set_option maxRecDepth 4000 in
theorem sp_X12_reckons {G : slG} (hG : slGood G) {d K : Nat} (hd : 1 ≤ d) (hK : 0 ≤ K) {Φ : slPost} {σ : slM} {x1 : Int} {L : List Int} (h1 : 0 ≤ x1) (hc : abCode (σ 70 0) x1.toNat L) (hw : abWf L 0) (hi : ∀ k, k < 6 → InR (σ 90 0 k)) (h : ∀ τ, mFr [91] [] σ τ → Φ (0, (abRun (σ 90 0) L []).headD 0) τ) :
    slCall G mX12_reckons d K [sR 12 0, sI x1] σ Φ := by
  refine vc_X12_reckons hG (by omega) hK (fun μ y2 y3 σ' => ∃ os st : List Int, st.length ≤ 40 ∧ mFr [91] [] σ σ' ∧ μ = (os.length, 0, 0) ∧ 0 ≤ y3 ∧ abCode (σ 70 0) y3.toNat os ∧ abWf os st.length ∧ y2 = st.length ∧ abStk (σ' 91 0) st ∧ (∀ a ∈ st, InR a) ∧ (abRun (σ 90 0) os st).headD 0 = (abRun (σ 90 0) L []).headD 0) ?_ ?_
  · exact ⟨_, L, [], by simp, mFr.id, rfl, h1, hc, hw, rfl, trivial, fun a z => absurd z (by simp), rfl⟩
  · rintro μ y2 y3 σ' ⟨os, st, lim, fr, rfl, y0, cd, wf, rfl, stk, inr, run⟩
    have e70 : σ' 70 0 = σ 70 0 := fr.1 70 0 (by decide) (by decide)
    have e90 : σ' 90 0 = σ 90 0 := fr.1 90 0 (by decide) (by decide)
    rw [e70, e90]
    match os, cd, wf, run with
    | [], cd, wf, run =>
      have l1 : st.length = 1 := wf
      obtain ⟨a, rfl⟩ := List.length_eq_one_iff.mp l1
      have c1 : y3.toNat < 2100 ∧ σ 70 0 y3.toNat = 0 := cd
      refine ⟨⟨by omega, by omega⟩, ⟨by omega, by omega⟩, fun q => ?_, fun q => absurd c1.2 q⟩
      have e : σ' 91 0 0 = a := stk.1
      rw [e]
      have r2 : a = (abRun (σ 90 0) L []).headD 0 := run
      rw [r2]
      exact h σ' fr
    | o :: os, cd, wf, run =>
      obtain ⟨c1, cd⟩ := cd
      obtain ⟨o1, o2, wf⟩ := wf
      have run2 : (abRun (σ 90 0) os (abEx (σ 90 0) o st)).headD 0 = (abRun (σ 90 0) L []).headD 0 := run
      clear run
      have lt : slLt (os.length, 0, 0) ((o :: os).length, 0, 0) := Or.inl (by show os.length < os.length + 1; omega)
      unfold abEx at run2
      have n1 : (y3 + 1).toNat = y3.toNat + 1 := by omega
      have n2 : (y3 + 1 + 1).toNat = y3.toNat + 2 := by omega
      by_cases p : 0 ≤ o
      · rw [if_pos p] at cd
        rw [if_pos (by omega)] at wf run2
        rw [if_pos p] at run2
        have w : ∃ μ2, slLt μ2 ((o :: os).length, 0, 0) ∧ ∃ os2 st2 : List Int, st2.length ≤ 40 ∧ mFr [91] [] σ (slU σ' 91 0 ((st.length : Nat) : Int).toNat (σ 70 0 (y3 + 1).toNat)) ∧ μ2 = (os2.length, 0, 0) ∧ 0 ≤ y3 + 1 + 1 ∧ abCode (σ 70 0) (y3 + 1 + 1).toNat os2 ∧ abWf os2 st2.length ∧ ((st.length : Nat) : Int) + 1 = st2.length ∧ abStk (slU σ' 91 0 ((st.length : Nat) : Int).toNat (σ 70 0 (y3 + 1).toNat) 91 0) st2 ∧ (∀ a ∈ st2, InR a) ∧ (abRun (σ 90 0) os2 st2).headD 0 = (abRun (σ 90 0) L []).headD 0 := by
          rw [n1, n2, cd.2.1, Int.toNat_natCast]
          refine ⟨_, lt, os, o :: st, (show st.length + 1 ≤ 40 by omega), fr.up (by decide) (by decide), rfl, by omega, cd.2.2, wf.2, rfl, ⟨slU_same _ _ _ _ _, abStk.up stk (by omega)⟩, ?_, run2⟩
          intro z hz
          rcases List.mem_cons.mp hz with e | e
          · rw [e]; exact ⟨by omega, by omega⟩
          · exact inr z e
        refine ⟨⟨by omega, by omega⟩, ⟨by omega, by omega⟩, fun q => by omega, fun q => ⟨⟨by omega, by omega⟩, ⟨by omega, by omega⟩, fun q2 => ⟨⟨by omega, by omega⟩, fun q3 => absurd q2 q3, fun q3 => ⟨⟨by omega, by omega⟩, ⟨by omega, by omega⟩, w⟩⟩, fun q2 => absurd cd.1 q2⟩⟩
      · rw [if_neg p] at cd
        by_cases p2 : -6 ≤ o
        · rw [if_pos p2] at cd wf run2
          rw [if_neg p] at run2
          have hk : (-1 - o).toNat < 6 := by omega
          have i2 := hi _ hk
          refine ⟨⟨by omega, by omega⟩, ⟨by omega, by omega⟩, fun q => by omega, fun q => ⟨⟨by omega, by omega⟩, ⟨by omega, by omega⟩, fun q2 => by omega, fun q2 => ⟨⟨by omega, by omega⟩, fun q3 => absurd cd.1 q3, fun q3 => ⟨⟨by omega, by omega⟩, fun q4 => ?_, fun q4 => by omega⟩⟩⟩⟩
          rw [n1, n2, cd.2.1, Int.toNat_natCast]
          refine ⟨⟨by omega, by omega⟩, ⟨by omega, by omega⟩, ⟨by omega, by omega⟩, _, lt, os, σ 90 0 (-1 - o).toNat :: st, (show st.length + 1 ≤ 40 by omega), fr.up (by decide) (by decide), rfl, by omega, cd.2.2, wf.2, rfl, ⟨slU_same _ _ _ _ _, abStk.up stk (by omega)⟩, ?_, run2⟩
          intro z hz
          rcases List.mem_cons.mp hz with e | e
          · rw [e]; exact i2
          · exact inr z e
        · rw [if_neg p2] at cd wf run2
          have ob : abOp o ≠ 0 ∧ abOp o ≠ 1 ∧ abOp o ≠ 2 ∧ 0 ≤ abOp o ∧ abOp o < 100 ∧ (abOp o = 3 ↔ o = -7) := by unfold abOp; omega
          rw [cd.1]
          by_cases p3 : o = -7
          · rw [if_pos p3] at wf run2
            obtain ⟨a, t, rfl⟩ : ∃ a t, st = a :: t := by
              match st, wf.1 with
              | a :: t, _ => exact ⟨a, t, rfl⟩
            have ln : (a :: t).length = t.length + 1 := rfl
            rw [ln] at wf lim ⊢
            have i1 : (((t.length + 1 : Nat) : Int) - 1).toNat = t.length := by omega
            have s1 : σ' 91 0 t.length = a := stk.1
            have e3 : (if ¬ a = 0 then (0 : Int) else 1) = if a = 0 then 1 else 0 := by by_cases z : a = 0 <;> simp [z]
            rw [i1, s1, e3]
            refine ⟨⟨by omega, by omega⟩, ⟨by omega, by omega⟩, fun q => by omega, fun q => ⟨⟨by omega, by omega⟩, ⟨by omega, by omega⟩, fun q2 => by omega, fun q2 => ⟨⟨by omega, by omega⟩, fun q3 => ⟨⟨by omega, by omega⟩, fun q4 => by omega, fun q4 => ⟨⟨by omega, by omega⟩, inr a (by simp), ⟨by omega, by omega⟩, _, lt, os, (if a = 0 then 1 else 0) :: t, lim, fr.up (by decide) (by decide), rfl, by omega, by rw [n1]; exact cd.2, wf.2, rfl, ⟨slU_same _ _ _ _ _, abStk.up stk.2 (by omega)⟩, ?_, run2⟩⟩, fun q3 => by omega⟩⟩⟩
            intro z hz
            rcases List.mem_cons.mp hz with e | e
            · rw [e]; split <;> exact ⟨by omega, by omega⟩
            · exact inr z (by simp [e])
          · rw [if_neg p3] at wf run2
            obtain ⟨b, a, t, rfl⟩ : ∃ b a t, st = b :: a :: t := by
              match st, wf.1 with
              | b :: a :: t, _ => exact ⟨b, a, t, rfl⟩
            have ln : (b :: a :: t).length = t.length + 2 := rfl
            rw [ln] at wf lim ⊢
            have i1 : (((t.length + 2 : Nat) : Int) + -1 - 1).toNat = t.length := by omega
            have i2 : (((t.length + 2 : Nat) : Int) + -1).toNat = t.length + 1 := by omega
            have s1 : σ' 91 0 (t.length + 1) = b := stk.1
            have s2 : σ' 91 0 t.length = a := stk.2.1
            rw [i1, i2, s1, s2]
            refine ⟨⟨by omega, by omega⟩, ⟨by omega, by omega⟩, fun q => by omega, fun q => ⟨⟨by omega, by omega⟩, ⟨by omega, by omega⟩, fun q2 => by omega, fun q2 => ⟨⟨by omega, by omega⟩, fun q3 => ⟨⟨by omega, by omega⟩, fun q4 => ⟨⟨by omega, by omega⟩, ⟨by omega, by omega⟩, ?_⟩, fun q4 => by omega⟩, fun q3 => by omega⟩⟩⟩
            refine sp_X12_works hG (by omega) (by omega) ⟨by omega, by omega⟩ rfl (inr a (by simp)) (inr b (by simp)) (slKt.ok ⟨⟨by omega, by omega⟩, _, lt, os, abJoin o a b :: t, (show t.length + 1 ≤ 40 by omega), fr.up (by decide) (by decide), rfl, by omega, by rw [n1]; exact cd.2, wf.2, ?_, ⟨slU_same _ _ _ _ _, abStk.up stk.2.2 (by omega)⟩, ?_, run2⟩)
            · show ((t.length + 2 : Nat) : Int) + -1 = ((t.length + 1 : Nat) : Int); omega
            · intro z hz
              rcases List.mem_cons.mp hz with e | e
              · rw [e]; exact inJoin
              · exact inr z (by simp [e])
theorem abGive_in {P : abP} {law : Int} {vals : Nat → Int} (hi : ∀ k, k < 6 → InR (vals k)) (hw : abWf (abLaw P law) 0) : InR (abGive P law vals) := by
  have key : ∀ (os : List Int) (st : List Int), abWf os st.length → (∀ a ∈ st, InR a) → ∀ a ∈ abRun vals os st, InR a := by
    intro os
    induction os with
    | nil => exact fun st _ h => h
    | cons o os ih =>
      intro st wf h
      obtain ⟨o1, o2, wf⟩ := wf
      show ∀ a ∈ abRun vals os (abEx vals o st), InR a
      unfold abEx
      by_cases p : -6 ≤ o
      · rw [if_pos p] at wf ⊢
        refine ih _ wf.2 (fun z hz => ?_)
        rcases List.mem_cons.mp hz with e | e
        · rw [e]
          split
          · exact ⟨by omega, by omega⟩
          · exact hi _ (by omega)
        · exact h z e
      · rw [if_neg p] at wf ⊢
        by_cases p2 : o = -7
        · rw [if_pos p2] at wf ⊢
          match st, wf, h with
          | a :: t, wf, h =>
            refine ih _ wf.2 (fun z hz => ?_)
            rcases List.mem_cons.mp hz with e | e
            · rw [e]; split <;> exact ⟨by omega, by omega⟩
            · exact h z (by simp [e])
        · rw [if_neg p2] at wf ⊢
          match st, wf, h with
          | b :: a :: t, wf, h =>
            refine ih _ wf.2 (fun z hz => ?_)
            rcases List.mem_cons.mp hz with e | e
            · rw [e]; exact inJoin
            · exact h z (by simp [e])
  have k2 := key (abLaw P law) [] hw (fun a z => absurd z (by simp))
  unfold abGive
  match h : abRun vals (abLaw P law) [] with
  | [] => exact ⟨by decide, by decide⟩
  | a :: t => exact k2 a (by rw [h]; simp)
