/-! ===== acts, the log, images ===== -/
def stR : List Nat := [51, 52, 53, 54, 8, 0, 20, 21, 22, 5, 40, 41, 42, 43]
theorem isX.st {c s : Nat} {Z : abZ} {σ τ : slM} {D : abD} (h : isX c s Z σ) (q : ∀ r i, r ≠ 11 → ¬ (r ∈ stR ∧ i = s) → τ r i = σ r i) (q11 : ∀ k, k ≠ 12 → τ 11 0 k = σ 11 0 k) (hS : isS s Z.1 D τ) (hs : τ 11 0 12 = 0 ∨ (τ 11 0 12 = 1 ∧ isStl Z.1 D.1 τ)) : isX c s (Z.1, D, Z.2.2) τ := by
  obtain ⟨h1, h2, h3, h4, h5, h6, h7, h8, h9, h10, h11, h12, h13, h14⟩ := h
  have n : ∀ r i, r ≠ 11 → r ∉ stR → τ r i = σ r i := fun r i a b => q r i a (fun z => b z.1)
  exact ⟨h1, by rw [q11 4 (by decide)]; exact h2, by rw [q11 5 (by decide)]; exact h3, by rw [n 7 0 (by decide) (by decide)]; exact h4, by rw [n 7 0 (by decide) (by decide)]; exact h5, h6.c (fun r hr => n r c ((by decide : ∀ r ∈ chR, r ≠ 11) r hr) ((by decide : ∀ r ∈ chR, r ∉ stR) r hr)), hS, h8.c (q11 8 (by decide)) (fun r hr => q r 2 (by omega) (fun z => by have := h1.2; omega)), hs, fun i hi k hk => by rw [n 36 i (by decide) (by decide)]; exact h10 i hi k hk, by rw [q11 1 (by decide)]; exact h11, by rw [n 58 0 (by decide) (by decide)]; exact h12, by rw [q11 2 (by decide)]; exact h13, by rw [n 59 0 (by decide) (by decide)]; exact h14⟩
theorem isY.st {Z : abZ} {σ τ : slM} {D : abD} (h : isY Z σ) (q : mFr [88, 89, 102] [0, 58, 72] σ τ) (hN : isN 88 89 102 58 72 Z.1 D τ) : isY (Z.1, D, Z.2.2) τ := by
  obtain ⟨h1, h2, h3, h4, h5, h6, h7⟩ := h
  exact ⟨h1.fr q (by decide) (by decide), hN, h3.c (q.1 104 0 (by decide) (by decide)) (q.1 105 0 (by decide) (by decide)) (q.1 106 0 (by decide) (by decide)) (fun k a b => q.2 k (by simp; omega)), by rw [q.2 20 (by decide)]; exact h4, by rw [q.1 72 0 (by decide) (by decide)]; exact h5, by rw [q.2 22 (by decide)]; exact h6, by rw [q.1 73 0 (by decide) (by decide)]; exact h7⟩
theorem abUnd_eq {T : Int → Int → Int} {k w v : Int} : abUnd T k w v k w = v := if_pos ⟨rfl, rfl⟩
theorem abUnd_ne {T : Int → Int → Int} {k w v k' w' : Int} (h : ¬ (k' = k ∧ w' = w)) : abUnd T k w v k' w' = T k' w' := if_neg h
theorem abUnd_back {T : Int → Int → Int} {k w v : Int} : abUnd (abUnd T k w v) k w (T k w) = T := by
  funext a b
  unfold abUnd
  by_cases z : a = k ∧ b = w
  · rw [if_pos z, z.1, z.2]
  · rw [if_neg z, if_neg z]
theorem slTl {s : Nat} {D : abD} {σ τ : slM} (q : ∀ r, r ∈ [0, 20, 21, 22, 5, 40, 41, 42, 43] → τ r s = σ r s) (h : σ 0 s 3 = D.2.1.length ∧ abAc (σ 20 s) (σ 21 s) (σ 22 s) D.2.1 ∧ σ 5 s 4 = D.2.2.length ∧ abLc (σ 40 s) (σ 41 s) (σ 42 s) (σ 43 s) D.2.2) :
    τ 0 s 3 = D.2.1.length ∧ abAc (τ 20 s) (τ 21 s) (τ 22 s) D.2.1 ∧ τ 5 s 4 = D.2.2.length ∧ abLc (τ 40 s) (τ 41 s) (τ 42 s) (τ 43 s) D.2.2 := by
  rw [q 0 (by decide), q 20 (by decide), q 21 (by decide), q 22 (by decide), q 5 (by decide), q 40 (by decide), q 41 (by decide), q 42 (by decide), q 43 (by decide)]
  exact h
theorem slUt {s r k : Nat} {v : Int} {σ : slM} (h : r ∉ [0, 20, 21, 22, 5, 40, 41, 42, 43]) : ∀ r', r' ∈ [0, 20, 21, 22, 5, 40, 41, 42, 43] → slU σ r s k v r' s = σ r' s := fun r' h' => slU_else (fun z => h (by rw [← z.1]; exact h'))
set_option maxHeartbeats 1000000 in
set_option maxRecDepth 4000 in
theorem sp_X8_change {G : slG} (hG : slGood G) {d K : Nat} (hd : 0 ≤ d) (hK : 0 ≤ K) {Φ : slPost} {σ : slM} {i0 : Nat} {x1 : Int} {x2 : Int} {x3 : Int} {P : abP} {D : abD} (hS : isS i0 P D σ) (hC : gdC P) (hk : 0 ≤ x1 ∧ x1 ≤ 4) (hw : 0 ≤ x2 ∧ x2 < abMany P x1) (h : ∀ τ, slFr [(51, i0), (52, i0), (53, i0), (54, i0), (8, i0)] σ τ → isS i0 P (abUnd D.1 x1 x2 x3, D.2) τ → Φ (0, D.1 x1 x2) τ) :
    slCall G mX8_change d K [sR 8 i0, sI x1, sI x2, sI x3] σ Φ := by
  refine vc_X8_change hG (by omega) hK  ?_
  have a3 := hC.2.2.2.1
  have a4 := hC.2.2.2.2.1
  obtain ⟨s0, s1, s2, s3, s4, s5⟩ := hS
  unfold abMany at hw
  refine ⟨⟨by omega, by omega⟩, fun e => ?_, fun e => ?_, fun e => ?_, fun e => ?_, fun e => ?_, fun e => by omega⟩
  · subst e
    have hw : 0 ≤ x2 ∧ x2 < P 1 3 := by omega
    rw [s0 x2 hw.1 hw.2]
    refine ⟨⟨by omega, by omega⟩, ⟨by omega, by omega⟩, h _ (slFr.id.up (by simp)) ⟨fun l a b => ?_, fun l a b => ?_, fun l a b => ?_, ?_, fun l a b => ?_, slTl (slUt (by decide)) s5⟩⟩
    all_goals try dsimp only
    · by_cases z : l = x2
      · rw [z, slU_same, abUnd_eq]
      · rw [slU_ne (by omega), abUnd_ne (fun w => z w.2)]; exact s0 l a b
    · rw [slU_else (by omega), abUnd_ne (fun w => absurd w.1 (by decide))]; exact s1 l a b
    · rw [slU_else (by omega), abUnd_ne (fun w => absurd w.1 (by decide))]; exact s2 l a b
    · rw [slU_else (by omega), abUnd_ne (fun w => absurd w.1 (by decide))]; exact s3
    · rw [slU_else (by omega), abUnd_ne (fun w => absurd w.1 (by decide))]; exact s4 l a b
  · subst e
    have hw : 0 ≤ x2 ∧ x2 < P 1 4 := by omega
    rw [s1 x2 hw.1 hw.2]
    refine ⟨⟨by omega, by omega⟩, ⟨by omega, by omega⟩, h _ (slFr.id.up (by simp)) ⟨fun l a b => ?_, fun l a b => ?_, fun l a b => ?_, ?_, fun l a b => ?_, slTl (slUt (by decide)) s5⟩⟩
    all_goals try dsimp only
    · rw [slU_else (by omega), abUnd_ne (fun w => absurd w.1 (by decide))]; exact s0 l a b
    · by_cases z : l = x2
      · rw [z, slU_same, abUnd_eq]
      · rw [slU_ne (by omega), abUnd_ne (fun w => z w.2)]; exact s1 l a b
    · rw [slU_else (by omega), abUnd_ne (fun w => absurd w.1 (by decide))]; exact s2 l a b
    · rw [slU_else (by omega), abUnd_ne (fun w => absurd w.1 (by decide))]; exact s3
    · rw [slU_else (by omega), abUnd_ne (fun w => absurd w.1 (by decide))]; exact s4 l a b
  · subst e
    have hw : 0 ≤ x2 ∧ x2 < P 1 3 := by omega
    rw [s2 x2 hw.1 hw.2]
    refine ⟨⟨by omega, by omega⟩, ⟨by omega, by omega⟩, h _ (slFr.id.up (by simp)) ⟨fun l a b => ?_, fun l a b => ?_, fun l a b => ?_, ?_, fun l a b => ?_, slTl (slUt (by decide)) s5⟩⟩
    all_goals try dsimp only
    · rw [slU_else (by omega), abUnd_ne (fun w => absurd w.1 (by decide))]; exact s0 l a b
    · rw [slU_else (by omega), abUnd_ne (fun w => absurd w.1 (by decide))]; exact s1 l a b
    · by_cases z : l = x2
      · rw [z, slU_same, abUnd_eq]
      · rw [slU_ne (by omega), abUnd_ne (fun w => z w.2)]; exact s2 l a b
    · rw [slU_else (by omega), abUnd_ne (fun w => absurd w.1 (by decide))]; exact s3
    · rw [slU_else (by omega), abUnd_ne (fun w => absurd w.1 (by decide))]; exact s4 l a b
  · subst e
    have hw : x2 = 0 := by omega
    subst hw
    rw [s3]
    refine h _ (slFr.id.up (by simp)) ⟨fun l a b => ?_, fun l a b => ?_, fun l a b => ?_, ?_, fun l a b => ?_, slTl (slUt (by decide)) s5⟩
    all_goals try dsimp only
    · rw [slU_else (by omega), abUnd_ne (fun w => absurd w.1 (by decide))]; exact s0 l a b
    · rw [slU_else (by omega), abUnd_ne (fun w => absurd w.1 (by decide))]; exact s1 l a b
    · rw [slU_else (by omega), abUnd_ne (fun w => absurd w.1 (by decide))]; exact s2 l a b
    · rw [slU_same, abUnd_eq]
    · rw [slU_else (by omega), abUnd_ne (fun w => absurd w.1 (by decide))]; exact s4 l a b
  · subst e
    have hw : 0 ≤ x2 ∧ x2 < P 1 4 := by omega
    rw [s4 x2 hw.1 hw.2]
    refine ⟨⟨by omega, by omega⟩, ⟨by omega, by omega⟩, h _ (slFr.id.up (by simp)) ⟨fun l a b => ?_, fun l a b => ?_, fun l a b => ?_, ?_, fun l a b => ?_, slTl (slUt (by decide)) s5⟩⟩
    all_goals try dsimp only
    · rw [slU_else (by omega), abUnd_ne (fun w => absurd w.1 (by decide))]; exact s0 l a b
    · rw [slU_else (by omega), abUnd_ne (fun w => absurd w.1 (by decide))]; exact s1 l a b
    · rw [slU_else (by omega), abUnd_ne (fun w => absurd w.1 (by decide))]; exact s2 l a b
    · rw [slU_else (by omega), abUnd_ne (fun w => absurd w.1 (by decide))]; exact s3
    · by_cases z : l = x2
      · rw [z, slU_same, abUnd_eq]
      · rw [slU_ne (by omega), abUnd_ne (fun w => z w.2)]; exact s4 l a b
/-- at most forty are kept, and this is one more -/
def abKp (A : List (Int × Int × Int)) : List (Int × Int × Int) := if A.length < 40 then A else A.dropLast
theorem abKp_len {A : List (Int × Int × Int)} (h : A.length ≤ 40) : (abKp A).length = if A.length < 40 then A.length else 39 := by
  unfold abKp
  by_cases z : A.length < 40
  · rw [if_pos z, if_pos z]
  · rw [if_neg z, if_neg z, List.length_dropLast]; omega
theorem abAc_c {a b c a' b' c' : Nat → Int} : ∀ {A : List (Int × Int × Int)}, (∀ k, k < A.length → a' k = a k ∧ b' k = b k ∧ c' k = c k) → abAc a b c A → abAc a' b' c' A
  | [], _, _ => trivial
  | e :: t, q, h => by
    have k := q t.length (Nat.lt_succ_self _)
    exact ⟨k.1.trans h.1, k.2.1.trans h.2.1, k.2.2.trans h.2.2.1, abAc_c (fun j hj => q j (Nat.lt_succ_of_lt hj)) h.2.2.2⟩
theorem abAc_dl {a b c a' b' c' : Nat → Int} : ∀ {A : List (Int × Int × Int)}, (∀ k, k + 1 < A.length → a' k = a (k + 1) ∧ b' k = b (k + 1) ∧ c' k = c (k + 1)) → abAc a b c A → abAc a' b' c' A.dropLast
  | [], _, _ => trivial
  | [e], _, _ => trivial
  | e :: f :: t, q, h => by
    have k := q t.length (by show t.length + 1 < t.length + 2; omega)
    have ln : (f :: t).dropLast.length = t.length := by rw [List.length_dropLast]; rfl
    show abAc a' b' c' (e :: (f :: t).dropLast)
    refine ⟨?_, ?_, ?_, abAc_dl (A := f :: t) (fun j hj => q j (by have : j + 1 < t.length + 1 := hj; show j + 1 < t.length + 2; omega)) h.2.2.2⟩
    · rw [ln]; exact k.1.trans h.1
    · rw [ln]; exact k.2.1.trans h.2.1
    · rw [ln]; exact k.2.2.trans h.2.2.1
theorem abAm_c {a a' : Nat → Int} : ∀ {A : List (Int × Int × Int)}, (∀ k, k < 2 * A.length → a' k = a k) → abAm a A → abAm a' A
  | [], _, _ => trivial
  | e :: t, q, h => by
    have ln : (e :: t).length = t.length + 1 := rfl
    rw [ln] at q
    exact ⟨(q _ (by omega)).trans h.1, (q _ (by omega)).trans h.2.1, abAm_c (fun j hj => q j (by omega)) h.2.2⟩
theorem abAm_dl {a a' : Nat → Int} : ∀ {A : List (Int × Int × Int)}, (∀ k, k + 2 < 2 * A.length → a' k = a (k + 2)) → abAm a A → abAm a' A.dropLast
  | [], _, _ => trivial
  | [e], _, _ => trivial
  | e :: f :: t, q, h => by
    have l2 : (e :: f :: t).length = t.length + 2 := rfl
    have l1 : (f :: t).length = t.length + 1 := rfl
    rw [l2] at q
    have ln : (f :: t).dropLast.length = t.length := by rw [List.length_dropLast]; rfl
    show abAm a' (e :: (f :: t).dropLast)
    have h1 := h.1
    have h2 := h.2.1
    rw [l1] at h1 h2
    refine ⟨?_, ?_, abAm_dl (A := f :: t) (fun j hj => q j (by rw [l1] at hj; omega)) h.2.2⟩
    · rw [ln, q _ (by omega)]; exact h1
    · rw [ln, q _ (by omega)]; exact h2
theorem slCpy_else {σ : slM} {r0 i0 sp r1 i1 dp n r i : Nat} (h : ¬ (r = r1 ∧ i = i1)) : slCpy σ r0 i0 sp r1 i1 dp n r i = σ r i := by
  funext k
  unfold slCpy
  rw [if_neg (fun z => h z.1)]
theorem slCpy_in {σ : slM} {r0 i0 sp r1 i1 dp n k : Nat} (h1 : dp ≤ k) (h2 : k < dp + n) : slCpy σ r0 i0 sp r1 i1 dp n r1 i1 k = σ r0 i0 (sp + (k - dp)) := by
  unfold slCpy
  rw [if_pos ⟨⟨rfl, rfl⟩, h1, h2⟩]
theorem slFr_cpy {L : List (Nat × Nat)} {σ τ : slM} {r0 i0 sp r1 i1 dp n : Nat} (h : slFr L σ τ) (hm : (r1, i1) ∈ L) : slFr L σ (slCpy τ r0 i0 sp r1 i1 dp n) := fun r i q => by
  rw [slCpy_else (fun z => q (by rw [z.1, z.2]; exact hm))]
  exact h r i q
theorem slCpy_0 {σ : slM} {r0 i0 r1 i1 n k : Nat} (h : k < n) : slCpy σ r0 i0 0 r1 i1 0 n r1 i1 k = σ r0 i0 k := by
  rw [slCpy_in (by omega) (by omega)]
  congr 1; omega
set_option maxHeartbeats 1000000 in
set_option maxRecDepth 4000 in
theorem sp_X0_keep {G : slG} (hG : slGood G) {d K : Nat} (hd : 2 ≤ d) (hK : 0 ≤ K) {Φ : slPost} {σ : slM} {i0 : Nat} {x1 : Int} {x2 : Int} {x3 : Int} {A : List (Int × Int × Int)} (hA : σ 0 i0 3 = A.length) (hl : A.length ≤ 40) (hc : abAc (σ 20 i0) (σ 21 i0) (σ 22 i0) A) (h : ∀ τ, slFr [(0, i0), (20, i0), (21, i0), (22, i0)] σ τ → τ 0 i0 3 = ((x1, x2, x3) :: abKp A).length → abAc (τ 20 i0) (τ 21 i0) (τ 22 i0) ((x1, x2, x3) :: abKp A) → Φ (0, 0) τ) :
    slCall G mX0_keep d K [sR 0 i0, sI x1, sI x2, sI x3] σ Φ := by
  refine vc_X0_keep hG (by omega) hK  ?_
  have u : ∀ (τ : slM) (r k : Nat) (v : Int), r ≠ 0 → slU τ r i0 k v 0 i0 3 = τ 0 i0 3 := fun τ r k v hr => by rw [slU_else (fun z => hr z.1.symm)]
  have kl := abKp_len hl
  simp only [u _ 20 _ _ (by decide), u _ 21 _ _ (by decide), u _ 22 _ _ (by decide), slU_same]
  refine ⟨by rw [hA]; exact ⟨by omega, by omega⟩, fun q => ?_, fun q => ⟨⟨by decide, by decide⟩, ⟨by decide, by decide⟩, ⟨by decide, by decide⟩, ?_⟩⟩
  · have e : abKp A = A := if_pos (by omega)
    rw [e] at h
    rw [hA, Int.toNat_natCast]
    refine ⟨⟨by omega, by omega⟩, ⟨by omega, by omega⟩, ⟨by omega, by omega⟩, h _ ((((slFr.id.up (by simp)).up (by simp)).up (by simp)).up (by simp)) ?_ ⟨?_, ?_, ?_, ?_⟩⟩
    · rw [slU_same]; rfl
    · rw [slU_else (by omega), slU_else (by omega), slU_else (by omega), slU_same]
    · rw [slU_else (by omega), slU_else (by omega), slU_same]
    · rw [slU_else (by omega), slU_same]
    · refine abAc_c (fun k hk => ⟨?_, ?_, ?_⟩) hc
      · rw [slU_else (by omega), slU_else (by omega), slU_else (by omega), slU_ne (by omega)]
      · rw [slU_else (by omega), slU_else (by omega), slU_ne (by omega), slU_else (by omega)]
      · rw [slU_else (by omega), slU_ne (by omega), slU_else (by omega), slU_else (by omega)]
  · have e : abKp A = A.dropLast := if_neg (by omega)
    rw [if_neg (by omega)] at kl
    rw [e] at h kl
    have t39 : Int.toNat 39 = 39 := rfl
    rw [t39]
    refine h _ ((((((slFr_cpy (slFr_cpy (slFr_cpy slFr.id (by simp)) (by simp)) (by simp)).up (by simp)).up (by simp)).up (by simp)).up (by simp)).up (by simp)) ?_ ⟨?_, ?_, ?_, ?_⟩
    · rw [slU_same]
      show (39 : Int) + 1 = ((A.dropLast.length + 1 : Nat) : Int)
      rw [kl]; rfl
    · rw [kl, slU_else (by omega), slU_else (by omega), slU_else (by omega), slU_same]
    · rw [kl, slU_else (by omega), slU_else (by omega), slU_same]
    · rw [kl, slU_else (by omega), slU_same]
    · refine abAc_dl (fun k hk => ⟨?_, ?_, ?_⟩) hc
      · rw [slU_else (by omega), slU_else (by omega), slU_else (by omega), slU_ne (by omega), slU_else (by omega), slCpy_else (by omega), slCpy_else (by omega), slCpy_in (by omega) (by omega)]
        congr 1; omega
      · rw [slU_else (by omega), slU_else (by omega), slU_ne (by omega), slU_else (by omega), slU_else (by omega), slCpy_else (by omega), slCpy_in (by omega) (by omega), slCpy_else (by omega)]
        congr 1; omega
      · rw [slU_else (by omega), slU_ne (by omega), slU_else (by omega), slU_else (by omega), slU_else (by omega), slCpy_in (by omega) (by omega), slCpy_else (by omega), slCpy_else (by omega)]
        congr 1; omega
/-! what an act makes of the stand -/
def doA (D : abD) (k w v : Int) : abD := (abUnd D.1 k w v, (k, w, D.1 k w) :: abKp D.2.1, D.2.2)
def nxAct (Z : abZ) (k w v : Int) : abZ := (Z.1, doA Z.2.1 k w v, Z.2.2)
def nxRef (Z : abZ) (i : Nat) : abZ := (Z.1, Z.2.1, Z.2.2.1, Z.2.2.2.1, Z.2.2.2.2.1, Z.2.2.2.2.2.1, fun k => if k = i then Z.2.2.2.2.2.2 k + 1 else Z.2.2.2.2.2.2 k)
theorem gdZ.ref {N : Nat} {Z : abZ} {i : Nat} (h : gdZ N Z) : gdZ (N + 1) (nxRef Z i) := ⟨h.1, h.2.1, h.2.2.1, h.2.2.2.1, h.2.2.2.2.1, h.2.2.2.2.2.1, fun k => by
  have := h.2.2.2.2.2.2 k
  show 0 ≤ (if k = i then Z.2.2.2.2.2.2 k + 1 else Z.2.2.2.2.2.2 k) ∧ (if k = i then Z.2.2.2.2.2.2 k + 1 else Z.2.2.2.2.2.2 k) ≤ ((N + 1 : Nat) : Int)
  omega⟩
theorem gdU.dl {P : abP} : ∀ {A : List (Int × Int × Int)} {T : Int → Int → Int}, gdU P A T → gdU P A.dropLast T
  | [], _, h => h
  | [e], _, h => h.1
  | e :: f :: t, T, h => by
    show gdU P (e :: (f :: t).dropLast) T
    exact ⟨h.1, h.2.1, h.2.2.1, gdU.dl (A := f :: t) h.2.2.2⟩
theorem gdU.kp {P : abP} {A : List (Int × Int × Int)} {T : Int → Int → Int} (h : gdU P A T) : gdU P (abKp A) T := by
  unfold abKp
  by_cases z : A.length < 40
  · rw [if_pos z]; exact h
  · rw [if_neg z]; exact h.dl
theorem gdD.act {P : abP} {D : abD} {k w v : Int} (h : gdD P D) (hk : 0 ≤ k ∧ k ≤ 4) (hw : 0 ≤ w ∧ w < abMany P k) (hv : gdV P (abUnd D.1 k w v)) : gdD P (doA D k w v) := by
  refine ⟨⟨hv, hk, hw, ?_⟩, h.2.1, ?_, h.2.2.2⟩
  · show gdU P (abKp D.2.1) (abUnd (abUnd D.1 k w v) k w (D.1 k w))
    rw [abUnd_back]
    exact h.1.kp
  · have := abKp_len h.2.2.1
    show (abKp D.2.1).length + 1 ≤ 40
    rw [this]
    split <;> omega
theorem gdZ.act {N : Nat} {Z : abZ} {k w v : Int} (h : gdZ N Z) (hk : 0 ≤ k ∧ k ≤ 4) (hw : 0 ≤ w ∧ w < abMany Z.1 k) (hv : gdV Z.1 (abUnd Z.2.1.1 k w v)) : gdZ (N + 1) (nxAct Z k w v) := ⟨h.1, h.2.1.act hk hw hv, h.2.2.1, h.2.2.2.1, h.2.2.2.2.1, h.2.2.2.2.2.1, h.s.2.2.2.2.2.2⟩
theorem stR_fr {L : List (Nat × Nat)} {s : Nat} {σ τ : slM} (h : slFr L σ τ) (hL : ∀ p ∈ L, p.1 ∈ stR ∧ p.2 = s) : ∀ r i, ¬ (r ∈ stR ∧ i = s) → τ r i = σ r i := fun r i n => h r i (fun z => n (hL _ z))
set_option maxHeartbeats 1000000 in
set_option maxRecDepth 4000 in
theorem sp_X11_act {G : slG} (hG : slGood G) {d K : Nat} (hd : 3 ≤ d) (hK : 0 ≤ K) {Φ : slPost} {σ : slM} {x1 : Int} {x2 : Int} {x3 : Int} {c s N : Nat} {Z : abZ} (hX : isX c s Z σ) (hZ : gdZ N Z) (hk : 0 ≤ x1 ∧ x1 ≤ 4) (hw : 0 ≤ x2 ∧ x2 < abMany Z.1 x1) (h : ∀ τ, clF σ τ → isX c s (nxAct Z x1 x2 x3) τ → Φ (0, Z.2.1.1 x1 x2) τ) :
    slCall G mX11_act d K [sR 11 0, sI x1, sI x2, sI x3] σ Φ := by
  refine vc_X11_act hG (by omega) hK  ?_
  rw [hX.e5]
  refine sp_X8_change hG (by omega) (by omega) hX.ss hZ.c hk hw (fun τ1 f1 s1 => slKt.ok ?_)
  have g1 := stR_fr (s := s) f1 (by simp [stR])
  have e11 : τ1 11 0 = σ 11 0 := f1 11 0 (by simp)
  rw [e11, hX.e5]
  refine sp_X0_keep hG (by omega) (by omega) s1.2.2.2.2.2.1 hZ.2.1.2.2.1 s1.2.2.2.2.2.2.1 (fun τ2 f2 a2 b2 => slKt.ok ?_)
  have g2 := stR_fr (s := s) f2 (by simp [stR])
  have e11' : τ2 11 0 = σ 11 0 := (f2 11 0 (by simp)).trans e11
  have q : ∀ r i, r ≠ 11 → ¬ (r ∈ stR ∧ i = s) → slU τ2 11 0 12 0 r i = σ r i := fun r i a b => by rw [slU_else (fun z => a z.1), g2 r i b, g1 r i b]
  refine h _ (fun r hr => ?_) (hX.st q (fun k hk => by rw [slU_ne hk, e11']) ?_ (Or.inl (slU_same _ _ _ _ _)))
  · funext i
    exact q r i (by omega) (fun z => by have := (by decide : ∀ r ∈ stR, ¬ (r = 12 ∨ 61 ≤ r)) r z.1; exact this hr)
  · have s2 : isS s Z.1 (abUnd Z.2.1.1 x1 x2 x3, Z.2.1.2) σ → True := fun _ => trivial
    obtain ⟨t0, t1, t2, t3, t4, t5, t6, t7, t8⟩ := s1
    refine ⟨fun l a b => ?_, fun l a b => ?_, fun l a b => ?_, ?_, fun l a b => ?_, ?_, ?_, ?_, ?_⟩
    · rw [slU_else (by omega), f2 52 s (by simp)]; exact t0 l a b
    · rw [slU_else (by omega), f2 53 s (by simp)]; exact t1 l a b
    · rw [slU_else (by omega), f2 51 s (by simp)]; exact t2 l a b
    · rw [slU_else (by omega), f2 8 s (by simp)]; exact t3
    · rw [slU_else (by omega), f2 54 s (by simp)]; exact t4 l a b
    · rw [slU_else (by omega)]; exact a2
    · rw [slU_else (by omega), slU_else (by omega), slU_else (by omega)]; exact b2
    · rw [slU_else (by omega), f2 5 s (by simp)]; exact t7
    · rw [slU_else (by omega), slU_else (by omega), slU_else (by omega), slU_else (by omega), f2 40 s (by simp), f2 41 s (by simp), f2 42 s (by simp), f2 43 s (by simp)]; exact t8
set_option maxHeartbeats 1000000 in
set_option maxRecDepth 4000 in
theorem sp_X11_refuseAct {G : slG} (hG : slGood G) {d K : Nat} (hd : 0 ≤ d) (hK : 0 ≤ K) {Φ : slPost} {σ : slM}  {c s N : Nat} {Z : abZ} (hX : isX c s Z σ) (h : ∀ τ, clF σ τ → isX c s (nxRef Z 1) τ → Φ (0, -1) τ) :
    slCall G mX11_refuseAct d K [sR 11 0] σ Φ := by
  refine vc_X11_refuseAct hG (by omega) hK  ?_
  have h0 := hX
  obtain ⟨h1, h2, h3, h4, h5, h6, h7, h8, h9, h10, h11, h12, h13, h14⟩ := hX
  refine h _ (clF.id.up (by decide)) (h0.tp (cFr.id.up (by decide) (by decide)) (by rw [slU_else (by decide)]; exact h11) (fun k hk => by rw [slU_else (by decide)]; exact h12 k hk) (by rw [slU_else (by decide)]; exact h13) (fun k hk => ?_))
  rw [slU_at, h14 1 (by decide)]
  by_cases z : k = 1
  · rw [if_pos z, if_pos z, z]
  · rw [if_neg z, if_neg z]; exact h14 k hk
/-! the model's -/
theorem isN.at {P : abP} {D : abD} {σ : slM} {rN rA rL sA sL : Nat} {k w : Int} (h : isN rN rA rL sA sL P D σ) (hk : 0 ≤ k ∧ k ≤ 4) (hw : 0 ≤ w ∧ w < abMany P k) : σ rN 0 (abPl k w).toNat = D.1 k w := by
  obtain ⟨t0, t1, t2, t3, t4, -⟩ := h
  unfold abMany at hw
  have hs : k = 0 ∨ k = 1 ∨ k = 2 ∨ k = 3 ∨ k = 4 := by omega
  unfold abPl
  rcases hs with rfl | rfl | rfl | rfl | rfl
  · have := t0 w hw.1 (by omega)
    rw [Int.zero_add] at this
    exact this
  · exact t1 w hw.1 (by omega)
  · exact t2 w hw.1 (by omega)
  · rw [show w = 0 by omega]; exact t3
  · exact t4 w hw.1 (by omega)
theorem abPl_r {P : abP} {k w : Int} (hC : gdC P) (hk : 0 ≤ k ∧ k ≤ 4) (hw : 0 ≤ w ∧ w < abMany P k) : 0 ≤ abPl k w ∧ abPl k w < 27 := by
  have a3 := hC.2.2.2.1
  have a4 := hC.2.2.2.2.1
  unfold abMany at hw
  unfold abPl
  omega
theorem isN.und {P : abP} {D : abD} {σ τ : slM} {k w v : Int} {A : List (Int × Int × Int)} (h : isN 88 89 102 58 72 P D σ) (hC : gdC P) (hk : 0 ≤ k ∧ k ≤ 4) (hw : 0 ≤ w ∧ w < abMany P k) (e88 : ∀ i, τ 88 0 i = if i = (abPl k w).toNat then v else σ 88 0 i) (e58 : τ 12 0 58 = A.length) (eA : abAm (τ 89 0) A) (e102 : τ 102 0 = σ 102 0) (e72 : τ 12 0 72 = σ 12 0 72) : isN 88 89 102 58 72 P (abUnd D.1 k w v, A, D.2.2) τ := by
  have a3 := hC.2.2.2.1
  have a4 := hC.2.2.2.2.1
  obtain ⟨t0, t1, t2, t3, t4, t5, t6, t7, t8⟩ := h
  unfold abMany at hw
  refine ⟨fun l a b => ?_, fun l a b => ?_, fun l a b => ?_, ?_, fun l a b => ?_, e58, eA, by rw [e72]; exact t7, by rw [e102]; exact t8⟩
  all_goals try dsimp only
  · rw [e88]
    by_cases z : (0 : Int) = k ∧ l = w
    · rw [if_pos (by unfold abPl; omega), ← z.1, z.2, abUnd_eq]
    · rw [if_neg (by unfold abPl; omega), abUnd_ne z]; exact t0 l a b
  · rw [e88]
    by_cases z : (1 : Int) = k ∧ l = w
    · rw [if_pos (by unfold abPl; omega), ← z.1, z.2, abUnd_eq]
    · rw [if_neg (by unfold abPl; omega), abUnd_ne z]; exact t1 l a b
  · rw [e88]
    by_cases z : (2 : Int) = k ∧ l = w
    · rw [if_pos (by unfold abPl; omega), ← z.1, z.2, abUnd_eq]
    · rw [if_neg (by unfold abPl; omega), abUnd_ne z]; exact t2 l a b
  · rw [e88]
    by_cases z : (3 : Int) = k ∧ (0 : Int) = w
    · rw [if_pos (by unfold abPl; omega), ← z.1, ← z.2, abUnd_eq]
    · rw [if_neg (by unfold abPl; omega), abUnd_ne z]; exact t3
  · rw [e88]
    by_cases z : (4 : Int) = k ∧ l = w
    · rw [if_pos (by unfold abPl; omega), ← z.1, z.2, abUnd_eq]
    · rw [if_neg (by unfold abPl; omega), abUnd_ne z]; exact t4 l a b
set_option maxHeartbeats 1000000 in
set_option maxRecDepth 4000 in
theorem sp_X12_becomes {G : slG} (hG : slGood G) {d K : Nat} (hd : 0 ≤ d) (hK : 0 ≤ K) {Φ : slPost} {σ : slM} {x1 : Int} {x2 : Int} {P : abP} {D : abD} {k w : Int} (hN : isN 88 89 102 58 72 P D σ) (hC : gdC P) (hk : 0 ≤ k ∧ k ≤ 4) (hw : 0 ≤ w ∧ w < abMany P k) (hl : D.2.1.length ≤ 40) (e : x1 = abPl k w) (h : ∀ τ, mFr [88, 89] [58] σ τ → isN 88 89 102 58 72 P (doA D k w x2) τ → Φ (0, D.1 k w) τ) :
    slCall G mX12_becomes d K [sR 12 0, sI x1, sI x2] σ Φ := by
  refine vc_X12_becomes hG (by omega) hK (fun μ y3 σ' => D.2.1.length = 40 ∧ mFr [88, 89] [58] σ σ' ∧ σ' 12 0 58 = 40 ∧ σ' 88 0 = σ 88 0 ∧ μ = ((80 - y3).toNat, 0, 0) ∧ (2 ≤ y3 ∧ y3 ≤ 80) ∧ (∀ j : Nat, (j : Int) + 2 < y3 → σ' 89 0 j = σ 89 0 (j + 2)) ∧ ∀ j : Nat, y3 ≤ (j : Int) + 2 → σ' 89 0 j = σ 89 0 j) ?_ ?_
  · have r := abPl_r hC hk hw
    have at' := hN.at hk hw
    have e58 := hN.2.2.2.2.2.1
    have am := hN.2.2.2.2.2.2.1
    subst e
    have u1 : ∀ (τ : slM) (k : Nat) (v : Int), slU τ 89 0 k v 12 0 58 = τ 12 0 58 := fun τ k v => by rw [slU_else (by decide)]
    simp only [u1]
    rw [at', e58]
    refine ⟨⟨by omega, by omega⟩, fun q => ?_, fun q => ⟨_, by omega, mFr.id, by first | omega | (rw [e58]; omega), by first | trivial | rfl, rfl, ⟨by decide, by decide⟩, fun j hj => by omega, fun j hj => by first | trivial | rfl⟩⟩
    have ek : abKp D.2.1 = D.2.1 := if_pos (by omega)
    refine ⟨r, ⟨by omega, by omega⟩, ⟨by omega, by omega⟩, r, h _ ((((mFr.id.up (by decide) (by decide)).up (by decide) (by decide)).up12 (by decide)).up (by decide) (by decide)) ?_⟩
    unfold doA
    rw [ek]
    refine hN.und hC hk hw (fun i => ?_) ?_ ⟨?_, ?_, ?_⟩ ?_ ?_
    · rw [slU_at, slU_else (by decide), slU_else (by decide), slU_else (by decide)]
    · rw [slU_else (by decide), slU_same]; rfl
    · rw [slU_else (by decide), slU_else (by decide), slU_ne (by omega), show (2 * ((D.2.1.length : Nat) : Int)).toNat = 2 * D.2.1.length by omega, slU_same]
    · rw [slU_else (by decide), slU_else (by decide), show (2 * ((D.2.1.length : Nat) : Int) + 1).toNat = 2 * D.2.1.length + 1 by omega, slU_same]
    · refine abAm_c (fun j hj => ?_) am
      rw [slU_else (by decide), slU_else (by decide), slU_ne (by omega), slU_ne (by omega)]
    · rw [slU_else (by decide), slU_else (by decide), slU_else (by decide), slU_else (by decide)]
    · rw [slU_else (by decide), slU_ne (by decide), slU_else (by decide), slU_else (by decide)]
  · have r := abPl_r hC hk hw
    have at' := hN.at hk hw
    have am := hN.2.2.2.2.2.2.1
    subst e
    rintro μ y3 σ' ⟨h40, fr, e58, e88, rfl, hy, s1, s2⟩
    have u1 : ∀ (τ : slM) (k : Nat) (v : Int), slU τ 89 0 k v 12 0 58 = τ 12 0 58 := fun τ k v => by rw [slU_else (by decide)]
    have u2 : ∀ (τ : slM) (k : Nat) (v : Int), slU τ 12 0 k v 88 0 = τ 88 0 := fun τ k v => by rw [slU_else (by decide)]
    simp only [u1, slU_same, u2, e58, e88, at']
    refine ⟨⟨by omega, by omega⟩, fun q => ?_, fun q => ⟨⟨by omega, by omega⟩, ⟨by omega, by omega⟩, _, Or.inl (by show (80 - (y3 + 1)).toNat < (80 - y3).toNat; omega), h40, fr.up (by decide) (by decide), by first | trivial | (rw [slU_else (by decide)]; exact e58), by first | trivial | (rw [slU_else (by decide)]; exact e88), rfl, ⟨by omega, by omega⟩, fun j hj => ?_, fun j hj => ?_⟩⟩
    · have ek : abKp D.2.1 = D.2.1.dropLast := if_neg (by omega)
      have kl : D.2.1.dropLast.length = 39 := by rw [List.length_dropLast]; omega
      refine ⟨r, ⟨by decide, by decide⟩, ⟨by decide, by decide⟩, r, h _ (((((fr.up12 (by decide)).up (by decide) (by decide)).up (by decide) (by decide)).up12 (by decide)).up (by decide) (by decide)) ?_⟩
      unfold doA
      rw [ek]
      refine hN.und hC hk hw (fun i => ?_) ?_ ⟨?_, ?_, ?_⟩ ?_ ?_
      · rw [slU_at, slU_else (by decide), slU_else (by decide), slU_else (by decide), slU_else (by decide), e88]
      · rw [slU_else (by decide), slU_same]
        show (40 : Int) - 1 + 1 = ((D.2.1.dropLast.length + 1 : Nat) : Int)
        rw [kl]; rfl
      · rw [slU_else (by decide), slU_else (by decide), kl, slU_ne (by decide), show (2 * ((40 : Int) - 1)).toNat = 2 * 39 by decide, slU_same]
      · rw [slU_else (by decide), slU_else (by decide), kl, show (2 * ((40 : Int) - 1) + 1).toNat = 2 * 39 + 1 by decide, slU_same]
      · refine abAm_dl (fun j hj => ?_) am
        rw [slU_else (by decide), slU_else (by decide), slU_ne (by omega), slU_ne (by omega), slU_else (by decide)]
        exact s1 j (by omega)
      · rw [slU_else (by decide), slU_else (by decide), slU_else (by decide), slU_else (by decide), slU_else (by decide), fr.1 102 0 (by decide) (by decide)]
      · rw [slU_else (by decide), slU_ne (by decide), slU_else (by decide), slU_else (by decide), slU_ne (by decide), fr.2 72 (by decide)]
    · by_cases z : (j : Int) + 2 = y3
      · rw [show j = (y3 - 2).toNat by omega, slU_same, s2 _ (by omega)]
        congr 1; omega
      · rw [slU_ne (by omega)]; exact s1 j (by omega)
    · rw [slU_ne (by omega)]; exact s2 j (by omega)
set_option maxHeartbeats 1000000 in
set_option maxRecDepth 4000 in
theorem sp_X12_refuses {G : slG} (hG : slGood G) {d K : Nat} (hd : 0 ≤ d) (hK : 0 ≤ K) {Φ : slPost} {σ : slM} {x1 : Int} {Z : abZ} (hY : isY Z σ) (hx : 0 ≤ x1 ∧ x1 < 3) (h : ∀ τ, mdF σ τ → isY (nxRef Z x1.toNat) τ → τ 12 0 0 = σ 12 0 0 → Φ (0, -1) τ) :
    slCall G mX12_refuses d K [sR 12 0, sI x1] σ Φ := by
  refine vc_X12_refuses hG (by omega) hK  ?_
  have h0 := hY
  obtain ⟨h1, h2, h3, h4, h5, h6, h7⟩ := hY
  refine ⟨⟨by omega, by omega⟩, ⟨by omega, by omega⟩, h _ (mdF.id.up (Or.inr (by decide))) (h0.tp (mFr.id.up (by decide) (by decide)) (by rw [slU_else (by decide)]; exact h4) (fun k hk => by rw [slU_else (by decide)]; exact h5 k hk) (by rw [slU_else (by decide)]; exact h6) (fun k hk => ?_)) (by rw [slU_else (by decide)])⟩
  rw [slU_at, h7 _ (by omega)]
  by_cases z : k = x1.toNat
  · rw [if_pos z, if_pos z, z]
  · rw [if_neg z, if_neg z]; exact h7 k hk
