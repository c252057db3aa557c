/-! ===== who goes ahead of whom ===== -/
def abBef (g : Int → Int) (a b : Int) : Prop := g b < g a ∨ (g a = g b ∧ a < b)
def abSort (g : Int → Int) : Nat → List Int
  | 0 => []
  | n + 1 => (abSort g n).filter (fun x => decide (g n ≤ g x)) ++ (n : Int) :: (abSort g n).filter (fun x => decide (g x < g n))
theorem abSort_mem {g : Int → Int} : ∀ {n : Nat} {l : Int}, l ∈ abSort g n ↔ 0 ≤ l ∧ l < n
  | 0, l => by
    show l ∈ [] ↔ _
    simp only [List.not_mem_nil, false_iff]
    omega
  | n + 1, l => by
    show l ∈ (abSort g n).filter _ ++ (n : Int) :: (abSort g n).filter _ ↔ _
    rw [List.mem_append, List.mem_cons, List.mem_filter, List.mem_filter, abSort_mem, decide_eq_true_iff, decide_eq_true_iff]
    omega
theorem abSort_pw {g : Int → Int} : ∀ {n : Nat}, (abSort g n).Pairwise (abBef g)
  | 0 => List.Pairwise.nil
  | n + 1 => by
    have ih := abSort_pw (g := g) (n := n)
    refine List.pairwise_append.mpr ⟨ih.sublist List.filter_sublist, List.pairwise_cons.mpr ⟨fun x hx => ?_, ih.sublist List.filter_sublist⟩, fun x hx y hy => ?_⟩
    · rw [List.mem_filter, decide_eq_true_iff] at hx
      exact Or.inl hx.2
    · rw [List.mem_filter, decide_eq_true_iff, abSort_mem] at hx
      rcases List.mem_cons.mp hy with e | e
      · rw [e]
        rcases Int.lt_or_eq_of_le hx.2 with z | z
        · exact Or.inl z
        · exact Or.inr ⟨z.symm, hx.1.2⟩
      · rw [List.mem_filter, decide_eq_true_iff] at e
        exact Or.inl (by omega)
theorem ab_uniq {g : Int → Int} : ∀ {L M : List Int}, L.Pairwise (abBef g) → M.Pairwise (abBef g) → (∀ x, x ∈ L ↔ x ∈ M) → L = M
  | [], M, _, _, h => by
    match M with
    | [] => rfl
    | b :: M => exact absurd ((h b).mpr (by simp)) (by simp)
  | a :: L, [], _, _, h => absurd ((h a).mp (by simp)) (by simp)
  | a :: L, b :: M, h1, h2, h => by
    have irr : ∀ x, ¬ abBef g x x := fun x z => by rcases z with z | z <;> omega
    have p1 := List.pairwise_cons.mp h1
    have p2 := List.pairwise_cons.mp h2
    have e : a = b := by
      by_cases e : a = b
      · exact e
      · have m1 : a ∈ M := by
          rcases List.mem_cons.mp ((h a).mp (by simp)) with z | z
          · exact absurd z e
          · exact z
        have m2 : b ∈ L := by
          rcases List.mem_cons.mp ((h b).mpr (by simp)) with z | z
          · exact absurd z.symm e
          · exact z
        have q1 := p1.1 b m2
        have q2 := p2.1 a m1
        unfold abBef at q1 q2
        omega
    subst e
    rw [ab_uniq p1.2 p2.2 (fun x => ?_)]
    have n1 : a ∉ L := fun z => irr a (p1.1 a z)
    have n2 : a ∉ M := fun z => irr a (p2.1 a z)
    have hx := h x
    rw [List.mem_cons, List.mem_cons] at hx
    constructor
    · intro z
      rcases hx.mp (Or.inr z) with w | w
      · rw [w] at z; exact absurd z n1
      · exact w
    · intro z
      rcases hx.mpr (Or.inr z) with w | w
      · rw [w] at z; exact absurd z n2
      · exact w
theorem abSort_u {g : Int → Int} {n : Nat} {L : List Int} (h : L.Pairwise (abBef g)) (hm : ∀ x, x ∈ L ↔ 0 ≤ x ∧ x < n) : L = abSort g n :=
  ab_uniq h abSort_pw (fun x => by rw [hm x, abSort_mem])
theorem abSort_c {g k : Int → Int} {n : Nat} (h : ∀ l : Int, 0 ≤ l → l < n → g l = k l) : abSort g n = abSort k n := by
  refine abSort_u ?_ (fun x => abSort_mem)
  refine List.Pairwise.imp_of_mem (fun {a b} ha hb q => ?_) (abSort_pw (g := g) (n := n))
  have a1 := abSort_mem.mp ha
  have b1 := abSort_mem.mp hb
  unfold abBef at q ⊢
  rw [← h a a1.1 a1.2, ← h b b1.1 b1.2]
  exact q
theorem abSort_len {g : Int → Int} : ∀ {n : Nat}, (abSort g n).length = n
  | 0 => rfl
  | n + 1 => by
    have ih := abSort_len (g := g) (n := n)
    have key : ∀ L : List Int, (L.filter (fun x => decide (g n ≤ g x))).length + (L.filter (fun x => decide (g x < g n))).length = L.length := by
      intro L
      induction L with
      | nil => rfl
      | cons a L ih2 =>
        by_cases z : g n ≤ g a
        · have z2 : ¬ g a < g n := by omega
          simp only [List.filter_cons, decide_eq_true z, decide_eq_false z2, if_true, List.length_cons, Bool.false_eq_true, if_false]
          omega
        · have z2 : g a < g n := by omega
          simp only [List.filter_cons, decide_eq_false z, decide_eq_true z2, if_true, List.length_cons, Bool.false_eq_true, if_false]
          omega
    show ((abSort g n).filter _ ++ (n : Int) :: (abSort g n).filter _).length = n + 1
    rw [List.length_append, List.length_cons]
    have := key (abSort g n)
    omega
/-! segments of an array -/
theorem abSeg_len {f : Nat → Int} : ∀ {a n : Nat}, (abSeg f a n).length = n
  | _, 0 => rfl
  | a, n + 1 => by show (abSeg f (a + 1) n).length + 1 = n + 1; rw [abSeg_len]
theorem abSeg_at {f : Nat → Int} : ∀ {n a t : Nat}, t < n → (abSeg f a n).getD t 0 = f (a + t)
  | 0, _, _, h => absurd h (by omega)
  | n + 1, a, 0, _ => rfl
  | n + 1, a, t + 1, h => by
    show (abSeg f (a + 1) n).getD t 0 = _
    rw [abSeg_at (by omega), show a + 1 + t = a + (t + 1) by omega]
theorem ab_getD {L : List Int} {t : Nat} (h : t < L.length) : L.getD t 0 = L[t] := by
  rw [List.getD_eq_getElem?_getD, List.getElem?_eq_getElem h]
  rfl
theorem abSeg_eq {f : Nat → Int} {a : Nat} {L : List Int} (h : ∀ t, t < L.length → f (a + t) = L.getD t 0) : abSeg f a L.length = L := by
  apply List.ext_getElem abSeg_len
  intro t h1 h2
  have q := abSeg_at (f := f) (a := a) (n := L.length) (t := t) (by rw [abSeg_len] at h1; exact h1)
  rw [h t h2] at q
  rw [ab_getD h1, ab_getD h2] at q
  exact q
theorem abSeg_c {f g : Nat → Int} {a n : Nat} (h : ∀ t, t < n → f (a + t) = g (a + t)) : abSeg f a n = abSeg g a n := by
  have q := abSeg_eq (f := f) (a := a) (L := abSeg g a n) (fun t ht => by
    rw [abSeg_len] at ht
    rw [abSeg_at ht]
    exact h t ht)
  rw [abSeg_len] at q
  exact q
theorem ab_insAt {L : List Int} {k : Nat} {x : Int} (hk : k ≤ L.length) (t : Nat) : (L.take k ++ x :: L.drop k).getD t 0 = if t < k then L.getD t 0 else if t = k then x else L.getD (t - 1) 0 := by
  have lk : (L.take k).length = k := by rw [List.length_take]; omega
  simp only [List.getD_eq_getElem?_getD]
  by_cases h1 : t < k
  · rw [if_pos h1, List.getElem?_append_left (by omega), List.getElem?_take, if_pos h1]
  · rw [if_neg h1, List.getElem?_append_right (by omega), lk]
    by_cases h2 : t = k
    · rw [if_pos h2, h2, Nat.sub_self]; rfl
    · rw [if_neg h2, show t - k = (t - 1 - k) + 1 by omega, List.getElem?_cons_succ, List.getElem?_drop, show k + (t - 1 - k) = t - 1 by omega]
/-! what each light gives -/
noncomputable def abVals (P : abP) (o l h : Int) : Nat → Int
  | 0 => P 27 l.toNat
  | 1 => abOil o h
  | 2 => l
  | 3 => h % 24
  | 4 => P 26 l.toNat
  | _ => abIf (abLit o h) 1 0
noncomputable def abG (P : abP) (law o h l : Int) : Int := if law = -1 then P 27 l.toNat else abGive P law (abVals P o l h)
def abTurns (P : abP) (law : Int) (oil : Int → Int) (i : Nat) (σ : slM) : Prop :=
  (∀ h l : Int, 0 ≤ h → h < 240 → 0 ≤ l → l < P 1 3 → σ 55 i (h * 5 + l).toNat = abG P law (oil l) h l)
  ∧ ∀ h : Int, 0 ≤ h → h < 240 → abSeg (σ 56 i) (h * 5).toNat (P 1 3).toNat = abSort (fun l => abG P law (oil l) h l) (P 1 3).toNat
theorem abVals_in {P : abP} {o l h : Int} (hC : gdC P) (ho : 0 ≤ o ∧ o ≤ 200) (hl : 0 ≤ l ∧ l < P 1 3) (hh : 0 ≤ h ∧ h < 240) : ∀ k, k < 6 → InR (abVals P o l h k) := by
  have a := hC.2.2.2.1
  have b := hC.2.2.2.2.2.2.2.2.1 l hl.1 hl.2
  have r := abOil_r ho hh
  intro k hk
  match k, hk with
  | 0, _ => exact ⟨by show _ ≤ P 27 l.toNat; omega, by show P 27 l.toNat < _; omega⟩
  | 1, _ => exact ⟨by show _ ≤ abOil o h; omega, by show abOil o h < _; omega⟩
  | 2, _ => exact ⟨by show _ ≤ l; omega, by show l < _; omega⟩
  | 3, _ => exact ⟨by show _ ≤ h % 24; omega, by show h % 24 < _; omega⟩
  | 4, _ => exact ⟨by show _ ≤ P 26 l.toNat; omega, by show P 26 l.toNat < _; omega⟩
  | 5, _ => exact in01
theorem abG_in {P : abP} {law o l h : Int} (hC : gdC P) (hw : law = -1 ∨ (0 ≤ law ∧ law < P 4 4)) (ho : 0 ≤ o ∧ o ≤ 200) (hl : 0 ≤ l ∧ l < P 1 3) (hh : 0 ≤ h ∧ h < 240) : InR (abG P law o h l) := by
  unfold abG
  have b := hC.2.2.2.2.2.2.2.2.1 l hl.1 hl.2
  rcases hw with e | e
  · rw [if_pos e]; exact ⟨by omega, by omega⟩
  · rw [if_neg (by omega)]
    exact abGive_in (abVals_in hC ho hl hh) (hC.2.2.2.2.2.2.2.2.2.2.2 law e.1 e.2).2
set_option maxHeartbeats 1000000 in
set_option maxRecDepth 4000 in
theorem sp_X10_weigh {G : slG} (hG : slGood G) {d K : Nat} (hd : 3 ≤ d) (hK : 0 ≤ K) {Φ : slPost} {σ : slM} {i0 : Nat} {c : Nat} {x2 : Int} {x3 : Int} {x4 : Int} {P : abP} (hP : isC c P σ) (hC : gdC P) (h2 : 0 ≤ x2 ∧ x2 < P 1 3) (h3 : 0 ≤ x3 ∧ x3 ≤ 200) (h4 : x4 = -1 ∨ (0 ≤ x4 ∧ x4 < P 4 4)) (h : ∀ τ, slFr [(39, c), (55, i0), (57, i0)] σ τ → (∀ h l : Int, 0 ≤ h → h < 240 → 0 ≤ l → l < 5 → τ 55 i0 (h * 5 + l).toNat = if l = x2 then abG P x4 x3 h x2 else σ 55 i0 (h * 5 + l).toNat) → Φ (0, 0) τ) :
    slCall G mX10_weigh d K [sR 10 i0, sR 1 c, sI x2, sI x3, sI x4] σ Φ := by
  refine vc_X10_weigh hG (by omega) hK (fun μ y5 σ' => slFr [(39, c), (55, i0), (57, i0)] σ σ' ∧ μ = ((240 - y5).toNat, 0, 0) ∧ (0 ≤ y5 ∧ y5 ≤ 240) ∧ σ' 57 i0 0 = P 27 x2.toNat ∧ σ' 57 i0 2 = x2 ∧ σ' 57 i0 4 = P 26 x2.toNat ∧ (∀ h l : Int, 0 ≤ h → h < 240 → 0 ≤ l → l < 5 → σ' 55 i0 (h * 5 + l).toNat = if l = x2 ∧ h < y5 then abG P x4 x3 h x2 else σ 55 i0 (h * 5 + l).toNat)) ?_ ?_
  · have a := hC.2.2.2.1
    obtain ⟨p1, p23, p24, p25, p26, p27, -⟩ := hP
    refine ⟨⟨by omega, by omega⟩, ⟨by omega, by omega⟩, _, ((slFr.id.up (by simp)).up (by simp)).up (by simp), rfl, ⟨by omega, by omega⟩, ?_, ?_, ?_, ?_⟩
    · rw [slU_ne (by omega), slU_ne (by omega), slU_same, p27]
    · rw [slU_ne (by omega), slU_same]
    · rw [slU_same, slU_else (by omega), slU_else (by omega), p26]
    · intro h l a1 a2 a3 a4
      rw [if_neg (by omega), slU_else (by omega), slU_else (by omega), slU_else (by omega)]
  · have a := hC.2.2.2.1
    have L4 := hC.2.2.2.2.2.2.2.2.2.2.1
    rintro μ y5 σ' ⟨fr, rfl, hy, v0, v2, v4, ct⟩
    have hP' : isC c P σ' := hP.fr fr (by simp [chR])
    obtain ⟨p1, p23, p24, p25, p26, p27, -⟩ := hP'
    rw [p27]
    have lt : slLt ((240 - (y5 + 1)).toNat, 0, 0) ((240 - y5).toNat, 0, 0) ∨ ¬ y5 < 240 := by
      by_cases z : y5 < 240
      · exact Or.inl (Or.inl (by show (240 - (y5 + 1)).toNat < (240 - y5).toNat; omega))
      · exact Or.inr z
    refine ⟨⟨by omega, by omega⟩, fun q => ?_, fun q => ⟨⟨by omega, by omega⟩, ⟨by omega, by omega⟩, fun q2 => ⟨⟨by omega, by omega⟩, ?_⟩, fun q2 => ?_⟩⟩
    · refine h σ' fr (fun h l a1 a2 a3 a4 => ?_)
      rw [ct h l a1 a2 a3 a4]
      by_cases z : l = x2
      · rw [if_pos ⟨z, by omega⟩, if_pos z]
      · rw [if_neg (fun w => z w.1), if_neg z]
    · have lt := lt.resolve_right (by omega)
      refine ⟨_, lt, fr.up (by simp), rfl, ⟨by omega, by omega⟩, ?_, ?_, ?_, ?_⟩
      · rw [slU_else (by omega)]; exact v0
      · rw [slU_else (by omega)]; exact v2
      · rw [slU_else (by omega)]; exact v4
      · intro h l a1 a2 a3 a4
        by_cases z : l = x2 ∧ h = y5
        · rw [z.1, z.2, slU_same, if_pos ⟨rfl, by omega⟩]
          unfold abG
          rw [if_pos q2]
        · rw [slU_ne (by omega), ct h l a1 a2 a3 a4]
          by_cases w : l = x2 ∧ h < y5
          · rw [if_pos w, if_pos ⟨w.1, by omega⟩]
          · rw [if_neg w, if_neg (by omega)]
    · have lt := lt.resolve_right (by omega)
      have h4' := h4.resolve_left q2
      rw [sRem_eq (by omega) (by omega) (by omega) (by omega)]
      refine sp_X11_oilIn hG (by omega) (by omega) h3 ⟨by omega, by omega⟩ (slKn.ok ?_)
      refine sp_X11_isLit hG (by omega) (by omega) h3 ⟨by omega, by omega⟩ (slKn.ok ⟨in01, ?_⟩)
      have e01 : (if abIf (abLit x3 y5) 1 0 = 0 then (0 : Int) else 1) = abIf (abLit x3 y5) 1 0 := by
        rcases abIf_01 (p := abLit x3 y5) with z | z <;> rw [z] <;> rfl
      rw [e01]
      have fr3 : slFr [(39, c), (55, i0), (57, i0)] σ (slU (slU (slU σ' 57 i0 1 (abOil x3 y5)) 57 i0 3 (y5 % 24)) 57 i0 5 (abIf (abLit x3 y5) 1 0)) := ((fr.up (by simp)).up (by simp)).up (by simp)
      refine sp_X4_give hG (by omega) (by omega) (P := P) (vals := abVals P x3 x2 y5) (hP.fr fr3 (by simp [chR])) hC h4' ?_ (abVals_in hC h3 h2 ⟨by omega, by omega⟩) ?_
      · intro k hk
        match k, hk with
        | 0, _ => rw [slU_ne (by omega), slU_ne (by omega), slU_ne (by omega)]; exact v0
        | 1, _ => rw [slU_ne (by omega), slU_ne (by omega), slU_same]; rfl
        | 2, _ => rw [slU_ne (by omega), slU_ne (by omega), slU_ne (by omega)]; exact v2
        | 3, _ => rw [slU_ne (by omega), slU_same]; rfl
        | 4, _ => rw [slU_ne (by omega), slU_ne (by omega), slU_ne (by omega)]; exact v4
        | 5, _ => rw [slU_same]; rfl
      · intro τ fr4
        have fr5 : slFr [(39, c), (55, i0), (57, i0)] σ τ := fr3.tr (fr4.mono (by simp))
        have e57 : ∀ k, τ 57 i0 k = slU (slU (slU σ' 57 i0 1 (abOil x3 y5)) 57 i0 3 (y5 % 24)) 57 i0 5 (abIf (abLit x3 y5) 1 0) 57 i0 k := fun k => by rw [fr4 57 i0 (by simp)]
        have e55 : τ 55 i0 = σ' 55 i0 := by rw [fr4 55 i0 (by simp), slU_else (by omega), slU_else (by omega), slU_else (by omega)]
        refine slKt.ok ⟨⟨by omega, by omega⟩, _, lt, fr5.up (by simp), rfl, ⟨by omega, by omega⟩, ?_, ?_, ?_, ?_⟩
        · rw [slU_else (by omega), e57, slU_ne (by omega), slU_ne (by omega), slU_ne (by omega)]; exact v0
        · rw [slU_else (by omega), e57, slU_ne (by omega), slU_ne (by omega), slU_ne (by omega)]; exact v2
        · rw [slU_else (by omega), e57, slU_ne (by omega), slU_ne (by omega), slU_ne (by omega)]; exact v4
        · intro h l a1 a2 a3 a4
          by_cases z : l = x2 ∧ h = y5
          · rw [z.1, z.2, slU_same, if_pos ⟨rfl, by omega⟩]
            unfold abG
            rw [if_neg q2]
          · rw [slU_ne (by omega), e55, ct h l a1 a2 a3 a4]
            by_cases w : l = x2 ∧ h < y5
            · rw [if_pos w, if_pos ⟨w.1, by omega⟩]
            · rw [if_neg w, if_neg (by omega)]
set_option maxHeartbeats 1000000 in
set_option maxRecDepth 4000 in
theorem sp_X10_arrange {G : slG} (hG : slGood G) {d K : Nat} (hd : 0 ≤ d) (hK : 0 ≤ K) {Φ : slPost} {σ : slM} {i0 : Nat} {x1 : Int} (h1 : 0 ≤ x1 ∧ x1 ≤ 5) (hi : ∀ h l : Int, 0 ≤ h → h < 240 → 0 ≤ l → l < x1 → InR (σ 55 i0 (h * 5 + l).toNat)) (h : ∀ τ, slFr [(56, i0)] σ τ → (∀ h : Int, 0 ≤ h → h < 240 → abSeg (τ 56 i0) (h * 5).toNat x1.toNat = abSort (fun l => σ 55 i0 (h * 5 + l).toNat) x1.toNat) → Φ (0, 0) τ) :
    slCall G mX10_arrange d K [sR 10 i0, sI x1] σ Φ := by
  refine vc_X10_arrange hG (by omega) hK (fun μ y2 σ' => slFr [(56, i0)] σ σ' ∧ μ = ((240 - y2).toNat, 10, 0) ∧ (0 ≤ y2 ∧ y2 ≤ 240) ∧ ∀ h : Int, 0 ≤ h → h < y2 → abSeg (σ' 56 i0) (h * 5).toNat x1.toNat = abSort (fun l => σ 55 i0 (h * 5 + l).toNat) x1.toNat) (fun μ y2 y3 y4 σ' => slFr [(56, i0)] σ σ' ∧ μ = ((240 - y2).toNat, (x1 - y4).toNat, 10) ∧ (0 ≤ y2 ∧ y2 < 240) ∧ y3 = y2 * 5 ∧ (0 ≤ y4 ∧ y4 ≤ x1) ∧ (∀ h : Int, 0 ≤ h → h < y2 → abSeg (σ' 56 i0) (h * 5).toNat x1.toNat = abSort (fun l => σ 55 i0 (h * 5 + l).toNat) x1.toNat) ∧ ∃ L : List Int, L.length = y4.toNat ∧ L.Pairwise (abBef (fun l => σ 55 i0 (y2 * 5 + l).toNat)) ∧ (∀ x, x ∈ L ↔ 0 ≤ x ∧ x < y4) ∧ ∀ t : Nat, t < y4.toNat → σ' 56 i0 ((y2 * 5).toNat + t) = L.getD t 0) (fun μ y2 y3 y4 y5 σ' => slFr [(56, i0)] σ σ' ∧ μ = ((240 - y2).toNat, (x1 - y4).toNat, y5.toNat) ∧ (0 ≤ y2 ∧ y2 < 240) ∧ y3 = y2 * 5 ∧ (0 ≤ y4 ∧ y4 < x1) ∧ (0 ≤ y5 ∧ y5 ≤ y4) ∧ (∀ h : Int, 0 ≤ h → h < y2 → abSeg (σ' 56 i0) (h * 5).toNat x1.toNat = abSort (fun l => σ 55 i0 (h * 5 + l).toNat) x1.toNat) ∧ ∃ L : List Int, L.length = y4.toNat ∧ L.Pairwise (abBef (fun l => σ 55 i0 (y2 * 5 + l).toNat)) ∧ (∀ x, x ∈ L ↔ 0 ≤ x ∧ x < y4) ∧ (∀ t : Nat, t < y5.toNat → σ' 56 i0 ((y2 * 5).toNat + t) = L.getD t 0) ∧ (∀ t : Nat, y5.toNat ≤ t → t < y4.toNat → σ' 56 i0 ((y2 * 5).toNat + t + 1) = L.getD t 0) ∧ ∀ x ∈ L.drop y5.toNat, σ 55 i0 (y2 * 5 + x).toNat < σ 55 i0 (y2 * 5 + y4).toNat) ?_ ?_ ?_ ?_
  · exact ⟨_, slFr.id, rfl, ⟨by omega, by omega⟩, fun h a b => by omega⟩
  · rintro μ y2 σ' ⟨fr, rfl, hy, dn⟩
    refine ⟨⟨by omega, by omega⟩, fun q => h σ' fr (fun h a b => dn h a (by omega)), fun q => ⟨((240 - y2).toNat, (x1 - 0).toNat, 10), Or.inr ⟨rfl, Or.inl (by show (x1 - 0).toNat < 10; omega)⟩, fr, rfl, ⟨by omega, by omega⟩, rfl, ⟨by omega, by omega⟩, dn, [], rfl, List.Pairwise.nil, fun x => by simp only [List.not_mem_nil, false_iff]; omega, fun t ht => absurd ht (by simp)⟩⟩
  · rintro μ y2 y3 y4 σ' ⟨fr, rfl, hy, rfl, hy4, dn, L, l1, l2, l3, l4⟩
    refine ⟨⟨⟨by omega, by omega⟩, by omega, by omega⟩, fun q => ?_, fun q => ?_⟩
    · refine ⟨((240 - (y2 + 1)).toNat, 10, 0), Or.inl (by show (240 - (y2 + 1)).toNat < (240 - y2).toNat; omega), fr, rfl, ⟨by omega, by omega⟩, fun h a b => ?_⟩
      by_cases z : h = y2
      · rw [z, show x1.toNat = L.length by rw [l1]; omega, abSeg_eq (fun t ht => l4 t (by omega)), l1, ← show x1.toNat = y4.toNat by omega]
        exact abSort_u l2 (fun x => by rw [l3 x]; omega)
      · exact dn h a (by omega)
    · exact ⟨((240 - y2).toNat, (x1 - y4).toNat, y4.toNat), Or.inr ⟨rfl, Or.inr ⟨rfl, by show y4.toNat < 10; omega⟩⟩, fr, rfl, hy, rfl, ⟨by omega, by omega⟩, ⟨by omega, by omega⟩, dn, L, l1, l2, l3, l4, fun t a b => by omega, fun x hx => by rw [← l1, List.drop_length] at hx; exact absurd hx (by simp)⟩
  · rintro μ y2 y3 y4 y5 σ' ⟨fr, rfl, hy, rfl, hy4, hy5, dn, L, l1, l2, l3, l4, l5, l6⟩
    have dn2 : ∀ v, ∀ h : Int, 0 ≤ h → h < y2 → abSeg (slU σ' 56 i0 (y2 * 5 + y5).toNat v 56 i0) (h * 5).toNat x1.toNat = abSort (fun l => σ 55 i0 (h * 5 + l).toNat) x1.toNat := fun v h a b => by
      rw [← dn h a b]
      exact abSeg_c (fun t ht => slU_ne (by omega))
    have fin : (y5 ≤ 0 ∨ ∃ k : Nat, y5.toNat = k + 1 ∧ σ 55 i0 (y2 * 5 + y4).toNat ≤ σ 55 i0 (y2 * 5 + L.getD k 0).toNat) → ∃ μ2, slLt μ2 ((240 - y2).toNat, (x1 - y4).toNat, y5.toNat) ∧ (slFr [(56, i0)] σ (slU σ' 56 i0 (y2 * 5 + y5).toNat y4) ∧ μ2 = ((240 - y2).toNat, (x1 - (y4 + 1)).toNat, 10) ∧ (0 ≤ y2 ∧ y2 < 240) ∧ y2 * 5 = y2 * 5 ∧ (0 ≤ y4 + 1 ∧ y4 + 1 ≤ x1) ∧ (∀ h : Int, 0 ≤ h → h < y2 → abSeg (slU σ' 56 i0 (y2 * 5 + y5).toNat y4 56 i0) (h * 5).toNat x1.toNat = abSort (fun l => σ 55 i0 (h * 5 + l).toNat) x1.toNat) ∧ ∃ L : List Int, L.length = (y4 + 1).toNat ∧ L.Pairwise (abBef (fun l => σ 55 i0 (y2 * 5 + l).toNat)) ∧ (∀ x, x ∈ L ↔ 0 ≤ x ∧ x < y4 + 1) ∧ ∀ t : Nat, t < (y4 + 1).toNat → slU σ' 56 i0 (y2 * 5 + y5).toNat y4 56 i0 ((y2 * 5).toNat + t) = L.getD t 0) := by
      intro hb
      have le : y5.toNat ≤ L.length := by omega
      refine ⟨((240 - y2).toNat, (x1 - (y4 + 1)).toNat, 10), Or.inr ⟨rfl, Or.inl (by show (x1 - (y4 + 1)).toNat < (x1 - y4).toNat; omega)⟩, fr.up (by simp), rfl, hy, rfl, ⟨by omega, by omega⟩, dn2 y4, L.take y5.toNat ++ y4 :: L.drop y5.toNat, ?_, ?_, ?_, ?_⟩
      · clear hb
        rw [List.length_append, List.length_cons, List.length_take, List.length_drop]
        omega
      · refine List.pairwise_append.mpr ⟨l2.sublist (List.take_sublist _ _), List.pairwise_cons.mpr ⟨fun x hx => Or.inl (l6 x hx), l2.sublist (List.drop_sublist _ _)⟩, fun x hx y hy' => ?_⟩
        have ge : σ 55 i0 (y2 * 5 + y4).toNat ≤ σ 55 i0 (y2 * 5 + x).toNat := by
          rcases hb with e | ⟨k, e1, e2⟩
          · rw [show y5.toNat = 0 by omega, List.take_zero] at hx
            exact absurd hx (by simp)
          · rw [e1] at hx le
            have kl : k < L.length := by omega
            rw [ab_getD kl] at e2
            rw [List.take_succ_eq_append_getElem kl] at hx
            rcases List.mem_append.mp hx with w | w
            · have e3 : L = L.take k ++ L.drop k := (List.take_append_drop k L).symm
              have l2' := l2
              rw [e3] at l2'
              have b := (List.pairwise_append.mp l2').2.2 x w L[k] (by rw [List.drop_eq_getElem_cons kl]; exact List.mem_cons_self)
              simp only [abBef] at b
              omega
            · rw [List.mem_singleton.mp w]; exact e2
        have xr := (l3 x).mp (List.mem_of_mem_take hx)
        have b1 : abBef (fun l => σ 55 i0 (y2 * 5 + l).toNat) x y4 := by
          unfold abBef
          show σ 55 i0 (y2 * 5 + y4).toNat < σ 55 i0 (y2 * 5 + x).toNat ∨ (σ 55 i0 (y2 * 5 + x).toNat = σ 55 i0 (y2 * 5 + y4).toNat ∧ x < y4)
          omega
        rcases List.mem_cons.mp hy' with e | e
        · rw [e]; exact b1
        · have := l6 y e
          exact Or.inl (by show σ 55 i0 (y2 * 5 + y).toNat < σ 55 i0 (y2 * 5 + x).toNat; omega)
      · intro x
        have e3 : x ∈ L ↔ x ∈ L.take y5.toNat ∨ x ∈ L.drop y5.toNat := by rw [← List.mem_append, List.take_append_drop]
        rw [List.mem_append, List.mem_cons]
        have := l3 x
        rw [e3] at this
        constructor
        · rintro (z | z | z)
          · have := this.mp (Or.inl z); omega
          · omega
          · have := this.mp (Or.inr z); omega
        · intro z
          by_cases w : x = y4
          · exact Or.inr (Or.inl w)
          · rcases this.mpr (by omega) with k | k
            · exact Or.inl k
            · exact Or.inr (Or.inr k)
      · clear hb
        intro t ht
        rw [ab_insAt le]
        by_cases w1 : t < y5.toNat
        · rw [if_pos w1, slU_ne (by omega)]; exact l4 t w1
        · rw [if_neg w1]
          by_cases w2 : t = y5.toNat
          · rw [if_pos w2, show (y2 * 5).toNat + t = (y2 * 5 + y5).toNat by omega, slU_same]
          · rw [if_neg w2, slU_ne (by omega)]
            have := l5 (t - 1) (by omega) (by omega)
            rw [show (y2 * 5).toNat + (t - 1) + 1 = (y2 * 5).toNat + t by omega] at this
            exact this
    refine ⟨⟨by omega, by omega⟩, fun q => ⟨⟨by omega, by omega⟩, fin (Or.inl q)⟩, fun q => ?_⟩
    obtain ⟨k, hk⟩ : ∃ k : Nat, y5.toNat = k + 1 := ⟨y5.toNat - 1, by omega⟩
    have kl : k < L.length := by omega
    have e1 : σ' 56 i0 (y2 * 5 + y5 - 1).toNat = L.getD k 0 := by
      rw [← l4 k (by omega), show (y2 * 5 + y5 - 1).toNat = (y2 * 5).toNat + k by omega]
    have lr := (l3 (L.getD k 0)).mp (by rw [ab_getD kl]; exact List.getElem_mem kl)
    have e55 : σ' 55 i0 = σ 55 i0 := fr 55 i0 (by simp)
    rw [e1, e55]
    refine ⟨⟨by omega, by omega⟩, ⟨by omega, by omega⟩, ⟨by omega, by omega⟩, ⟨hi y2 _ (by omega) (by omega) lr.1 (by omega), hi y2 y4 (by omega) (by omega) (by omega) (by omega)⟩, fun q2 => ⟨⟨by omega, by omega⟩, fin (Or.inr ⟨k, hk, q2⟩)⟩, fun q2 => ⟨⟨by omega, by omega⟩, ⟨by omega, by omega⟩, ((240 - y2).toNat, (x1 - y4).toNat, (y5 + -1).toNat), Or.inr ⟨rfl, Or.inr ⟨rfl, by show (y5 + -1).toNat < y5.toNat; omega⟩⟩, fr.up (by simp), rfl, hy, rfl, hy4, ⟨by omega, by omega⟩, dn2 _, L, l1, l2, l3, ?_, ?_, ?_⟩⟩
    · intro t ht
      rw [slU_ne (by omega)]
      exact l4 t (by omega)
    · intro t a b
      by_cases w : t = k
      · rw [w, show (y2 * 5).toNat + k + 1 = (y2 * 5 + y5).toNat by omega, slU_same]
      · rw [slU_ne (by omega)]
        exact l5 t (by omega) b
    · rw [show (y5 + -1).toNat = k by omega, List.drop_eq_getElem_cons kl]
      intro x hx
      rcases List.mem_cons.mp hx with e | e
      · rw [e, ← ab_getD kl]; omega
      · exact l6 x (by rw [hk]; exact e)
set_option maxHeartbeats 1000000 in
set_option maxRecDepth 4000 in
theorem sp_X10_plan {G : slG} (hG : slGood G) {d K : Nat} (hd : 4 ≤ d) (hK : 0 ≤ K) {Φ : slPost} {σ : slM} {i0 : Nat} {c : Nat} {s : Nat} {x3 : Int} {P : abP} (hP : isC c P σ) (hC : gdC P) (hO : ∀ l : Int, 0 ≤ l → l < P 1 3 → 0 ≤ σ 52 s l.toNat ∧ σ 52 s l.toNat ≤ 200) (h3 : x3 = -1 ∨ (0 ≤ x3 ∧ x3 < P 4 4)) (h : ∀ τ, slFr [(39, c), (55, i0), (56, i0), (57, i0)] σ τ → abTurns P x3 (fun l => σ 52 s l.toNat) i0 τ → Φ (0, 0) τ) :
    slCall G mX10_plan d K [sR 10 i0, sR 1 c, sR 8 s, sI x3] σ Φ := by
  refine vc_X10_plan hG (by omega) hK (fun μ y4 σ' => slFr [(39, c), (55, i0), (56, i0), (57, i0)] σ σ' ∧ μ = ((P 1 3 - y4).toNat, 0, 0) ∧ (0 ≤ y4 ∧ y4 ≤ P 1 3) ∧ ∀ h l : Int, 0 ≤ h → h < 240 → 0 ≤ l → l < y4 → σ' 55 i0 (h * 5 + l).toNat = abG P x3 (σ 52 s l.toNat) h l) ?_ ?_
  · have a := hC.2.2.2.1
    exact ⟨_, slFr.id, rfl, ⟨by omega, by omega⟩, fun h l a b c d => by omega⟩
  · have a := hC.2.2.2.1
    rintro μ y4 σ' ⟨fr, rfl, hy, ct⟩
    have hP' : isC c P σ' := hP.fr fr (by simp [chR])
    rw [hP'.1]
    refine ⟨⟨⟨by omega, by omega⟩, by omega, by omega⟩, fun q => ?_, fun q => ⟨⟨by omega, by omega⟩, ?_⟩⟩
    · refine sp_X10_arrange hG (by omega) (by omega) ⟨by omega, by omega⟩ ?_ ?_
      · intro h l a1 a2 a3 a4
        rw [ct h l a1 a2 a3 (by omega)]
        exact abG_in hC h3 (hO l a3 a4) ⟨a3, a4⟩ ⟨a1, a2⟩
      · intro τ fr2 sg
        have e55 : τ 55 i0 = σ' 55 i0 := fr2 55 i0 (by simp)
        refine slKt.ok (h τ (fr.tr (fr2.mono (by simp))) ⟨fun h l a1 a2 a3 a4 => by rw [e55]; exact ct h l a1 a2 a3 (by omega), fun h a1 a2 => ?_⟩)
        rw [sg h a1 a2]
        exact abSort_c (fun l b1 b2 => ct h l a1 a2 b1 (by omega))
    · rw [fr 52 s (by simp)]
      refine sp_X10_weigh hG (by omega) (by omega) hP' hC ⟨by omega, by omega⟩ (hO y4 (by omega) (by omega)) h3 (fun τ fr2 ct2 => slKt.ok ⟨_, Or.inl (by show (P 1 3 - (y4 + 1)).toNat < (P 1 3 - y4).toNat; omega), fr.tr (fr2.mono (by simp)), rfl, ⟨by omega, by omega⟩, fun h l a1 a2 a3 a4 => ?_⟩)
      rw [ct2 h l a1 a2 a3 (by omega)]
      by_cases z : l = y4
      · rw [if_pos z, z]
      · rw [if_neg z]; exact ct h l a1 a2 a3 (by omega)
