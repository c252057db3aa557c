/-! ===== laws: a machine that both readers drive ===== -/
abbrev exS : Type := Nat × Int × List Int × List Int × List Int × Int × Int
def exSt (a : Int) : Int := if a = 5 then 1 else if a = 4 then 2 else if a = 3 then 3 else if a = 6 then 4 else if a = 7 then 4 else if a = 8 then 5 else if a = 9 then 5 else 6
def exOp (a : Int) : Int := if a = 5 then -8 else if a = 4 then -9 else -4 - a
def exDr (l : Int) : List Int → List Int → List Int × List Int
  | [], o => ([], o)
  | a :: W, o => if 14 ≤ a then (a :: W, o) else if l ≤ exSt a then exDr l W (o ++ [exOp a]) else (a :: W, o)
def exFl (k q : Int) : exS := (3, q, [], [], [], k, 0)
noncomputable def exA (X : abX) (p : Int) (W T o : List Int) (b c : Int) : exS :=
  if b ≠ 0 ∧ lxW X p = 13 then (if c = 6 then exFl 2 (lxB X p) else (0, lxE X p, 3 :: W, T, o, b, c + 1))
  else if lxK X p = 40 then (if T.length < 6 then (0, lxE X p, 14 :: W, 0 :: T, o, 1, 0) else exFl (if lxK X (lxE X p) = 3 ∨ lxK X (lxE X p) = 2 ∨ lxK X (lxE X p) = 40 then 2 else 1) (lxB X (lxE X p)))
  else if lxK X p = 3 then (if lxN X p = 10000 then exFl 2 (lxB X p) else (1, lxE X p, W, T, o ++ [lxN X p], 0, 0))
  else if lxK X p = 2 then (if 0 ≤ lxW X p ∧ lxW X p ≤ 5 then (1, lxE X p, W, T, o ++ [-1 - lxW X p], 0, 0) else exFl 3 (lxB X p))
  else exFl 1 (lxB X p)
def exPu (l a : Int) (p : Int) (W T o : List Int) (b : Int) : exS := (0, p, a :: (exDr l W o).1, T, (exDr l W o).2, b, 0)
noncomputable def exB (X : abX) (p : Int) (W T o : List Int) : exS :=
  if lxW X p = 11 then exPu 2 4 (lxE X p) W (0 :: T.tail) o 1
  else if lxW X p = 12 then exPu 1 5 (lxE X p) W (0 :: T.tail) o 1
  else if (lxK X p = 60 ∨ lxK X p = 61) ∧ T.headD 0 = 0 then exPu 4 (if lxK X p = 60 then 6 else 7) (lxE X p) W (1 :: T.tail) o 0
  else if lxK X p = 43 ∨ lxK X p = 45 then exPu 5 (if lxK X p = 43 then 8 else 9) (lxE X p) W T o 0
  else if lxK X p = 42 ∨ lxK X p = 47 then exPu 6 (if lxK X p = 42 then 10 else 11) (lxE X p) W T o 0
  else if lxK X p = 41 ∧ 14 ∈ W then (1, lxE X p, (exDr 0 W o).1.tail, T.tail, (exDr 0 W o).2, 0, 0)
  else if 1 < T.length then exFl 1 (lxB X p)
  else (2, p, [], [], (exDr 0 W o).2, 0, 0)
noncomputable def exStep (X : abX) (s : exS) : exS :=
  if s.1 = 0 then exA X s.2.1 s.2.2.1 s.2.2.2.1 s.2.2.2.2.1 s.2.2.2.2.2.1 s.2.2.2.2.2.2
  else if s.1 = 1 then exB X s.2.1 s.2.2.1 s.2.2.2.1 s.2.2.2.2.1 else s
noncomputable def exIt (X : abX) : Nat → exS → exS
  | 0, s => s
  | n + 1, s => exIt X n (exStep X s)
def exRe (X : abX) (s t : exS) : Prop := ∃ n, exIt X n s = t
theorem exRe.rf {X : abX} {s : exS} : exRe X s s := ⟨0, rfl⟩
theorem exIt_add {X : abX} : ∀ (n m : Nat) (s : exS), exIt X (n + m) s = exIt X m (exIt X n s)
  | 0, m, s => by rw [Nat.zero_add]; rfl
  | n + 1, m, s => by
    rw [show n + 1 + m = (n + m) + 1 by omega]
    exact exIt_add n m (exStep X s)
theorem exRe.tr {X : abX} {s t u : exS} (h : exRe X s t) (g : exRe X t u) : exRe X s u := by
  obtain ⟨n, rfl⟩ := h
  obtain ⟨m, rfl⟩ := g
  exact ⟨n + m, exIt_add n m s⟩
theorem exRe.st {X : abX} {s t u : exS} (h : exRe X s t) (e : exStep X t = u) : exRe X s u := h.tr ⟨1, e⟩
theorem exIt_end {X : abX} {s : exS} (h : 2 ≤ s.1) : ∀ n : Nat, exIt X n s = s
  | 0 => rfl
  | n + 1 => by
    have e : exStep X s = s := by
      unfold exStep
      rw [if_neg (by omega), if_neg (by omega)]
    show exIt X n (exStep X s) = s
    rw [e]
    exact exIt_end h n
theorem exRe.un {X : abX} {s t u : exS} (h : exRe X s t) (g : exRe X s u) (ht : 2 ≤ t.1) (hu : 2 ≤ u.1) : t = u := by
  obtain ⟨n, rfl⟩ := h
  obtain ⟨m, rfl⟩ := g
  by_cases z : n ≤ m
  · rw [show m = n + (m - n) by omega, exIt_add, exIt_end ht]
  · rw [show n = m + (n - m) by omega, exIt_add, exIt_end hu]
/-! dropping -/
def exTop (l : Int) (W : List Int) : Prop := match W with | [] => True | a :: _ => 14 ≤ a ∨ exSt a < l
theorem exDr_top {l : Int} {W o : List Int} (h : exTop l W) : exDr l W o = (W, o) := by
  match W, h with
  | [], _ => rfl
  | a :: W, h =>
    unfold exDr
    rcases h with z | z
    · rw [if_pos z]
    · by_cases y : 14 ≤ a
      · rw [if_pos y]
      · rw [if_neg y, if_neg (by omega)]
theorem exTop.mono {l m : Int} {W : List Int} (h : exTop l W) (le : l ≤ m) : exTop m W := by
  match W, h with
  | [], _ => exact trivial
  | a :: W, h => exact h.imp id (fun z => by omega)
theorem exDr_dr {l m : Int} (le : l ≤ m) : ∀ (W o : List Int), exDr l (exDr m W o).1 (exDr m W o).2 = exDr l W o
  | [], o => rfl
  | a :: W, o => by
    by_cases y : 14 ≤ a
    · have e : exDr m (a :: W) o = (a :: W, o) := if_pos y
      rw [e]
    · by_cases z : m ≤ exSt a
      · have e : exDr m (a :: W) o = exDr m W (o ++ [exOp a]) := by
          show (if 14 ≤ a then _ else if m ≤ exSt a then exDr m W (o ++ [exOp a]) else _) = _
          rw [if_neg y, if_pos z]
        have e2 : exDr l (a :: W) o = exDr l W (o ++ [exOp a]) := by
          show (if 14 ≤ a then _ else if l ≤ exSt a then exDr l W (o ++ [exOp a]) else _) = _
          rw [if_neg y, if_pos (by omega)]
        rw [e, e2]
        exact exDr_dr le W _
      · have e : exDr m (a :: W) o = (a :: W, o) := by
          show (if 14 ≤ a then _ else if m ≤ exSt a then _ else (a :: W, o)) = _
          rw [if_neg y, if_neg z]
        rw [e]
theorem exDr_of {l m : Int} {W o W' o' : List Int} (le : l ≤ m) (h : exDr m W' o' = (W, o)) : exDr l W' o' = exDr l W o := by
  have := exDr_dr le W' o'
  rw [h] at this
  exact this.symm
theorem exSt_r {a : Int} : 1 ≤ exSt a ∧ exSt a ≤ 6 := by
  unfold exSt
  split
  · omega
  · split
    · omega
    · split
      · omega
      · split
        · omega
        · split
          · omega
          · split
            · omega
            · split <;> omega
theorem exDr_7 {W o : List Int} : exDr 7 W o = (W, o) := by
  refine exDr_top ?_
  match W with
  | [] => exact trivial
  | a :: W => exact Or.inr (by have := exSt_r (a := a); omega)
theorem exDr_push {l a : Int} {W o : List Int} (h14 : a < 14) (hl : l ≤ exSt a) (h : exTop l W) : exDr l (a :: W) o = (W, o ++ [exOp a]) := by
  show (if 14 ≤ a then _ else if l ≤ exSt a then exDr l W (o ++ [exOp a]) else _) = _
  rw [if_neg (by omega), if_pos hl]
  exact exDr_top h
/-! running orders -/
def abRn : List Int → Nat → Nat → Prop
  | [], d, e => d = e
  | o :: os, d, e => -15 ≤ o ∧ o < 10000 ∧ if -6 ≤ o then d < 40 ∧ abRn os (d + 1) e else if o = -7 then 1 ≤ d ∧ abRn os d e else 2 ≤ d ∧ abRn os (d - 1) e
theorem abRn_wf : ∀ {os : List Int} {d : Nat}, abRn os d 1 → abWf os d
  | [], d, h => h
  | o :: os, d, h => by
    obtain ⟨h1, h2, h3⟩ := h
    refine ⟨h1, h2, ?_⟩
    split at h3
    · exact (if_pos (by assumption)).mpr ⟨h3.1, abRn_wf h3.2⟩
    · rename_i n6
      rw [if_neg n6]
      split at h3
      · exact (if_pos (by assumption)).mpr ⟨h3.1, abRn_wf h3.2⟩
      · rename_i n7
        rw [if_neg n7]
        exact ⟨h3.1, abRn_wf h3.2⟩
theorem abRn.app : ∀ {a b : List Int} {d e f : Nat}, abRn a d e → abRn b e f → abRn (a ++ b) d f
  | [], b, d, e, f, h, g => by
    have h : d = e := h
    rw [h]
    exact g
  | o :: a, b, d, e, f, h, g => by
    obtain ⟨h1, h2, h3⟩ := h
    refine ⟨h1, h2, ?_⟩
    split at h3
    · exact (if_pos (by assumption)).mpr ⟨h3.1, abRn.app h3.2 g⟩
    · rename_i n6
      rw [if_neg n6]
      split at h3
      · exact (if_pos (by assumption)).mpr ⟨h3.1, abRn.app h3.2 g⟩
      · rename_i n7
        rw [if_neg n7]
        exact ⟨h3.1, abRn.app h3.2 g⟩
theorem abRn_1 {v : Int} {d : Nat} (h : -6 ≤ v ∧ v < 10000) (hd : d < 40) : abRn [v] d (d + 1) := ⟨by omega, h.2, (if_pos h.1).mpr ⟨hd, rfl⟩⟩
theorem abRn_2 {v : Int} {d : Nat} (h : -15 ≤ v ∧ v ≤ -8) (hd : 1 ≤ d) : abRn [v] (d + 1) d := ⟨h.1, by omega, (if_neg (by omega)).mpr ((if_neg (by omega)).mpr ⟨by omega, rfl⟩)⟩
theorem abRn_n {d : Nat} (hd : 1 ≤ d) : ∀ j : Nat, abRn (List.replicate j (-7)) d d
  | 0 => rfl
  | j + 1 => ⟨by decide, by decide, (if_neg (by decide)).mpr ((if_pos rfl).mpr ⟨hd, abRn_n hd j⟩)⟩
/-! ===== the class ===== -/
def isOc (r : Nat) (oc : List Int) (σ : slM) : Prop := σ 4 r 3 = oc.length ∧ ∀ k : Nat, k < oc.length → σ 37 r k = oc.getD k 0
def rdF (r : Nat) (σ τ : slM) : Prop := slFr [(9, 0), (37, r), (4, r), (7, 0)] σ τ ∧ (∀ k, k ≠ 3 → τ 4 r k = σ 4 r k) ∧ ∀ k, k ≠ 5 → k ≠ 6 → τ 7 0 k = σ 7 0 k
theorem rdF.id {r : Nat} {σ : slM} : rdF r σ σ := ⟨slFr.id, fun _ _ => rfl, fun _ _ _ => rfl⟩
theorem rdF.tr {r : Nat} {σ τ υ : slM} (h : rdF r σ τ) (g : rdF r τ υ) : rdF r σ υ := ⟨h.1.tr g.1, fun k a => (g.2.1 k a).trans (h.2.1 k a), fun k a b => (g.2.2 k a b).trans (h.2.2 k a b)⟩
theorem rdF.nx {r : Nat} {σ τ : slM} (h : slFr [(9, 0)] σ τ) : rdF r σ τ := ⟨h.mono (by simp), fun k _ => by rw [h 4 r (by simp)], fun k _ _ => by rw [h 7 0 (by simp)]⟩
/-- the state of a refusal -/
def rdFl (X : abX) (p k : Int) (σ : slM) : slM := slU (slU σ 7 0 5 k) 7 0 6 (lxB X p)
theorem rdFl.f {r : Nat} {X : abX} {p k : Int} {σ : slM} : rdF r σ (rdFl X p k σ) := ⟨(slFr.id.up (by simp)).up (by simp), fun j _ => by unfold rdFl; rw [slU_else (by omega), slU_else (by omega)], fun j a b => by unfold rdFl; rw [slU_ne b, slU_ne a]⟩
theorem rdFl.e {X : abX} {p k : Int} {σ : slM} : rdFl X p k σ 7 0 5 = k ∧ rdFl X p k σ 7 0 6 = lxB X p := ⟨by unfold rdFl; rw [slU_ne (by decide), slU_same], by unfold rdFl; rw [slU_same]⟩
set_option maxHeartbeats 1000000 in
set_option maxRecDepth 4000 in
theorem sp_X7_refuse {G : slG} (hG : slGood G) {d K : Nat} (hd : 0 ≤ d) (hK : 0 ≤ K) {Φ : slPost} {σ : slM} {x1 : Int} {X : abX} {p : Int} (T : isTk X p σ) (h : Φ (0, 0) (rdFl X p x1 σ)) :
    slCall G mX7_refuse d K [sR 7 0, sI x1] σ Φ := by
  refine vc_X7_refuse hG (by omega) hK  ?_
  rw [slU_else (by decide), T.2.1]
  exact h
set_option maxHeartbeats 1000000 in
set_option maxRecDepth 4000 in
theorem sp_X7_canBeginExpr {G : slG} (hG : slGood G) {d K : Nat} (hd : 0 ≤ d) (hK : 0 ≤ K) {Φ : slPost} {σ : slM}  {X : abX} {p : Int} (T : isTk X p σ) (h1 : lxK X p = 3 ∨ lxK X p = 2 ∨ lxK X p = 40 → Φ (0, 1) σ) (h0 : ¬ (lxK X p = 3 ∨ lxK X p = 2 ∨ lxK X p = 40) → Φ (0, 0) σ) :
    slCall G mX7_canBeginExpr d K [sR 7 0] σ Φ := by
  refine vc_X7_canBeginExpr hG (by omega) hK  ?_
  have r := lxK_r (X := X) (p := p)
  have i : InR (lxK X p) := ⟨by omega, by omega⟩
  rw [T.2.2.2.1]
  exact ⟨i, fun q => h1 (Or.inl q), fun q => ⟨i, fun q2 => h1 (Or.inr (Or.inl q2)), fun q2 => ⟨i, fun q3 => h0 (by omega), fun q3 => h1 (Or.inr (Or.inr q3))⟩⟩⟩
set_option maxHeartbeats 1000000 in
set_option maxRecDepth 4000 in
theorem sp_X7_readSign {G : slG} (hG : slGood G) {d K : Nat} (hd : 14 ≤ d) (hK : 0 ≤ K) {Φ : slPost} {σ : slM} {x1 : Int} {X : abX} {p : Int} (hX : gdX X) (hp : 0 ≤ p ∧ p ≤ X.2) (T : isTk X p σ) (i1 : InR x1) (h0 : lxK X p ≠ x1 → Φ (0, 0) (rdFl X p 1 σ)) (h1 : lxK X p = x1 → ∀ τ, slFr [(9, 0)] σ τ → isTk X (lxE X p) τ → Φ (0, 1) τ) :
    slCall G mX7_readSign d K [sR 7 0, sI x1] σ Φ := by
  refine vc_X7_readSign hG (by omega) hK  ?_
  have r := lxK_r (X := X) (p := p)
  have e := lxE_p (X := X) hp.2
  rw [T.2.2.2.1]
  refine ⟨⟨⟨by omega, by omega⟩, i1⟩, fun q => ?_, fun q => ?_⟩
  · refine sp_X9_next hG (by omega) (by omega) hX T.1 ⟨by omega, e.2.1⟩ T.2.2.1 (fun τ f T2 => slKt.ok (h1 q τ f T2))
  · refine sp_X7_refuse hG (by omega) (by omega) T (slKt.ok ⟨Or.inl rfl, h0 q⟩)
