/-! ===== tokens of a text: bytes X.1, how many X.2 ===== -/
abbrev abX : Type := (Nat → Int) × Int
def gdX (X : abX) : Prop := (0 ≤ X.2 ∧ X.2 ≤ 700) ∧ ∀ k, 0 ≤ X.1 k ∧ X.1 k < 256
def lxRun (f : Int → Bool) (X : abX) : Nat → Int → Int
  | 0, p => p
  | k + 1, p => if p < X.2 ∧ f (X.1 p.toNat) = true then lxRun f X k (p + 1) else p
def lxR (f : Int → Bool) (X : abX) (p : Int) : Int := lxRun f X (X.2 - p).toNat p
theorem lxR_s {f : Int → Bool} {X : abX} {p : Int} : lxR f X p = if p < X.2 ∧ f (X.1 p.toNat) = true then lxR f X (p + 1) else p := by
  unfold lxR
  by_cases z : p < X.2
  · rw [show (X.2 - p).toNat = (X.2 - (p + 1)).toNat + 1 by omega]
    rfl
  · rw [show (X.2 - p).toNat = 0 by omega, if_neg (fun w => z w.1)]
    rfl
theorem lxR_y {f : Int → Bool} {X : abX} {p : Int} (h : p < X.2) (hf : f (X.1 p.toNat) = true) : lxR f X p = lxR f X (p + 1) := by rw [lxR_s, if_pos ⟨h, hf⟩]
theorem lxR_n {f : Int → Bool} {X : abX} {p : Int} (h : ¬ (p < X.2 ∧ f (X.1 p.toNat) = true)) : lxR f X p = p := by rw [lxR_s, if_neg h]
theorem lxRun_r {f : Int → Bool} {X : abX} : ∀ (k : Nat) (p : Int), p ≤ lxRun f X k p ∧ (p ≤ X.2 → lxRun f X k p ≤ X.2) ∧ ∀ q : Int, p ≤ q → q < lxRun f X k p → f (X.1 q.toNat) = true
  | 0, p => ⟨Int.le_refl _, fun h => h, fun q a b => by have : q < p := b; omega⟩
  | k + 1, p => by
    unfold lxRun
    by_cases z : p < X.2 ∧ f (X.1 p.toNat) = true
    · rw [if_pos z]
      have ih := lxRun_r (f := f) (X := X) k (p + 1)
      refine ⟨by have := ih.1; omega, fun _ => ih.2.1 (by omega), fun q a b => ?_⟩
      by_cases e : q = p
      · rw [e]; exact z.2
      · exact ih.2.2 q (by omega) b
    · rw [if_neg z]
      exact ⟨Int.le_refl _, fun h => h, fun q a b => by omega⟩
theorem lxR_r {f : Int → Bool} {X : abX} {p : Int} : p ≤ lxR f X p ∧ (p ≤ X.2 → lxR f X p ≤ X.2) ∧ ∀ q : Int, p ≤ q → q < lxR f X p → f (X.1 q.toNat) = true := lxRun_r _ p
def isBl (c : Int) : Bool := decide (c = 32) || decide (c = 10)
def isLe (c : Int) : Bool := decide (97 ≤ c) && decide (c ≤ 122)
def isDg (c : Int) : Bool := decide (48 ≤ c) && decide (c ≤ 57)
def isSg (c : Int) : Bool := decide (c = 59) || decide (c = 40) || decide (c = 41) || decide (c = 43) || decide (c = 45) || decide (c = 42) || decide (c = 47) || decide (c = 60) || decide (c = 61)
theorem isBl_i {c : Int} : isBl c = true ↔ c = 32 ∨ c = 10 := by unfold isBl; rw [Bool.or_eq_true, decide_eq_true_eq, decide_eq_true_eq]
theorem isLe_i {c : Int} : isLe c = true ↔ 97 ≤ c ∧ c ≤ 122 := by unfold isLe; rw [Bool.and_eq_true, decide_eq_true_eq, decide_eq_true_eq]
theorem isDg_i {c : Int} : isDg c = true ↔ 48 ≤ c ∧ c ≤ 57 := by unfold isDg; rw [Bool.and_eq_true, decide_eq_true_eq, decide_eq_true_eq]
theorem isSg_i {c : Int} : isSg c = true ↔ c = 59 ∨ c = 40 ∨ c = 41 ∨ c = 43 ∨ c = 45 ∨ c = 42 ∨ c = 47 ∨ c = 60 ∨ c = 61 := by
  unfold isSg
  simp only [Bool.or_eq_true, decide_eq_true_eq, or_assoc]
/-- the place of the token behind p, its first byte, its kind, where it ends, its number -/
def lxB (X : abX) (p : Int) : Int := lxR isBl X p
def lxC (X : abX) (p : Int) : Int := X.1 (lxB X p).toNat
def lxK (X : abX) (p : Int) : Int := if X.2 ≤ lxB X p then 0 else if isLe (lxC X p) = true then 2 else if isDg (lxC X p) = true then 3 else if isSg (lxC X p) = true then lxC X p else 1
def lxE (X : abX) (p : Int) : Int := if X.2 ≤ lxB X p then lxB X p else if isLe (lxC X p) = true then lxR isLe X (lxB X p) else if isDg (lxC X p) = true then lxR isDg X (lxB X p) else lxB X p + 1
def lxV (X : abX) (q : Int) : Nat → Int
  | 0 => 0
  | j + 1 => 10 * lxV X q j + X.1 (q + j).toNat - 48
def lxN (X : abX) (p : Int) : Int := if lxE X p - lxB X p ≤ 4 then lxV X (lxB X p) (lxE X p - lxB X p).toNat else 10000
theorem lxB_r {X : abX} {p : Int} (h : p ≤ X.2) : p ≤ lxB X p ∧ lxB X p ≤ X.2 := ⟨lxR_r.1, lxR_r.2.1 h⟩
theorem lxE_r {X : abX} {p : Int} (h : p ≤ X.2) : lxB X p ≤ lxE X p ∧ lxE X p ≤ X.2 ∧ (lxK X p ≠ 0 → lxB X p < lxE X p) := by
  have b := lxB_r h
  unfold lxE lxK
  by_cases z : X.2 ≤ lxB X p
  · rw [if_pos z, if_pos z]
    exact ⟨Int.le_refl _, b.2, fun w => absurd rfl w⟩
  · rw [if_neg z, if_neg z]
    by_cases l : isLe (lxC X p) = true
    · rw [if_pos l]
      have y := lxR_y (f := isLe) (X := X) (p := lxB X p) (by omega) l
      have r := lxR_r (f := isLe) (X := X) (p := lxB X p + 1)
      have r2 := r.2.1 (by omega)
      exact ⟨by omega, by omega, fun _ => by omega⟩
    · rw [if_neg l]
      by_cases d : isDg (lxC X p) = true
      · rw [if_pos d]
        have y := lxR_y (f := isDg) (X := X) (p := lxB X p) (by omega) d
        have r := lxR_r (f := isDg) (X := X) (p := lxB X p + 1)
        have r2 := r.2.1 (by omega)
        exact ⟨by omega, by omega, fun _ => by omega⟩
      · rw [if_neg d]
        exact ⟨by omega, by omega, fun _ => by omega⟩
theorem lxE_p {X : abX} {p : Int} (h : p ≤ X.2) : p ≤ lxE X p ∧ lxE X p ≤ X.2 ∧ (lxK X p ≠ 0 → p < lxE X p) := by
  have b := lxB_r h
  have e := lxE_r h
  exact ⟨by omega, e.2.1, fun k => by have := e.2.2 k; omega⟩
theorem lxV_r {X : abX} {q : Int} : ∀ {j : Nat}, j ≤ 4 → (∀ k : Nat, k < j → 48 ≤ X.1 (q + k).toNat ∧ X.1 (q + k).toNat ≤ 57) → 0 ≤ lxV X q j ∧ lxV X q j < 10 ^ j
  | 0, _, _ => ⟨Int.le_refl _, by show (0 : Int) < 10 ^ 0; decide⟩
  | j + 1, h, hd => by
    have ih := lxV_r (X := X) (q := q) (j := j) (by omega) (fun k hk => hd k (by omega))
    have d := hd j (by omega)
    show 0 ≤ 10 * lxV X q j + X.1 (q + j).toNat - 48 ∧ 10 * lxV X q j + X.1 (q + j).toNat - 48 < 10 ^ (j + 1)
    rw [Int.pow_succ]
    omega
theorem lxK_3 {X : abX} {p : Int} (k : lxK X p = 3) : lxB X p < X.2 ∧ isDg (lxC X p) = true ∧ lxE X p = lxR isDg X (lxB X p) ∧ ¬ isLe (lxC X p) = true := by
  unfold lxK at k
  by_cases z : X.2 ≤ lxB X p
  · rw [if_pos z] at k; omega
  · rw [if_neg z] at k
    by_cases l : isLe (lxC X p) = true
    · rw [if_pos l] at k; omega
    · rw [if_neg l] at k
      by_cases d : isDg (lxC X p) = true
      · refine ⟨by omega, d, ?_, l⟩
        unfold lxE
        rw [if_neg z, if_neg l, if_pos d]
      · rw [if_neg d] at k
        by_cases s : isSg (lxC X p) = true
        · rw [if_pos s] at k
          have := isSg_i.mp s
          omega
        · rw [if_neg s] at k; omega
theorem lxK_2 {X : abX} {p : Int} (k : lxK X p = 2) : lxB X p < X.2 ∧ isLe (lxC X p) = true ∧ lxE X p = lxR isLe X (lxB X p) := by
  unfold lxK at k
  by_cases z : X.2 ≤ lxB X p
  · rw [if_pos z] at k; omega
  · rw [if_neg z] at k
    by_cases l : isLe (lxC X p) = true
    · refine ⟨by omega, l, ?_⟩
      unfold lxE
      rw [if_neg z, if_pos l]
    · rw [if_neg l] at k
      by_cases d : isDg (lxC X p) = true
      · rw [if_pos d] at k; omega
      · rw [if_neg d] at k
        by_cases s : isSg (lxC X p) = true
        · rw [if_pos s] at k
          have := isSg_i.mp s
          omega
        · rw [if_neg s] at k; omega
theorem lxK_s {X : abX} {p c : Int} (hc : 40 ≤ c) (k : lxK X p = c) : lxB X p < X.2 ∧ lxC X p = c ∧ isSg c = true ∧ lxE X p = lxB X p + 1 := by
  unfold lxK at k
  by_cases z : X.2 ≤ lxB X p
  · rw [if_pos z] at k; omega
  · rw [if_neg z] at k
    by_cases l : isLe (lxC X p) = true
    · rw [if_pos l] at k; omega
    · rw [if_neg l] at k
      by_cases d : isDg (lxC X p) = true
      · rw [if_pos d] at k; omega
      · rw [if_neg d] at k
        by_cases s : isSg (lxC X p) = true
        · rw [if_pos s] at k
          refine ⟨by omega, k, by rw [← k]; exact s, ?_⟩
          unfold lxE
          rw [if_neg z, if_neg l, if_neg d]
        · rw [if_neg s] at k; omega
theorem lxK_r {X : abX} {p : Int} : 0 ≤ lxK X p ∧ lxK X p ≤ 61 := by
  unfold lxK
  split
  · omega
  · split
    · omega
    · split
      · omega
      · split
        · rename_i s
          have := isSg_i.mp s
          omega
        · omega
theorem lxN_r {X : abX} {p : Int} (k : lxK X p = 3) : 0 ≤ lxN X p ∧ lxN X p ≤ 10000 ∧ (4 < lxE X p - lxB X p → lxN X p = 10000) ∧ (lxE X p - lxB X p ≤ 4 → lxN X p = lxV X (lxB X p) (lxE X p - lxB X p).toNat ∧ lxN X p < 10000) := by
  obtain ⟨b, d, e, -⟩ := lxK_3 k
  unfold lxN
  by_cases z : lxE X p - lxB X p ≤ 4
  · rw [if_pos z]
    have r := lxV_r (X := X) (q := lxB X p) (j := (lxE X p - lxB X p).toNat) (by omega) (fun k hk => by
      have := (lxR_r (f := isDg) (X := X) (p := lxB X p)).2.2 (lxB X p + k) (by omega) (by omega)
      exact isDg_i.mp this)
    have p4 : (10 : Int) ^ (lxE X p - lxB X p).toNat ≤ 10000 := (by decide : ∀ j, j ≤ 4 → (10 : Int) ^ j ≤ 10000) _ (by omega)
    exact ⟨r.1, by omega, fun w => by omega, fun _ => ⟨rfl, by omega⟩⟩
  · rw [if_neg z]
    exact ⟨by decide, by decide, fun _ => rfl, fun w => absurd w z⟩
/-- the word w stands there -/
def lxIs (X : abX) (p : Int) (w : List Int) : Prop := lxK X p = 2 ∧ lxE X p - lxB X p = w.length ∧ ∀ i : Nat, i < w.length → X.1 (lxB X p + i).toNat = w.getD i 0
/-! ===== the class's tokens ===== -/
def isTe (X : abX) (σ : slM) : Prop := σ 9 0 0 = 58 ∧ σ 9 0 1 = X.2 ∧ ∀ k : Nat, (k : Int) < X.2 → σ 58 0 k = X.1 k
def isTk (X : abX) (p : Int) (σ : slM) : Prop := isTe X σ ∧ σ 9 0 2 = lxB X p ∧ σ 9 0 3 = lxE X p ∧ σ 9 0 4 = lxK X p ∧ (lxK X p = 3 → σ 9 0 5 = lxN X p)
theorem isTe.up {X : abX} {σ : slM} {k : Nat} {v : Int} (h : isTe X σ) (hk : 2 ≤ k) : isTe X (slU σ 9 0 k v) := ⟨by rw [slU_ne (by omega)]; exact h.1, by rw [slU_ne (by omega)]; exact h.2.1, fun j hj => by rw [slU_else (by decide)]; exact h.2.2 j hj⟩
theorem isTk.c {X : abX} {p : Int} {σ τ : slM} (h : isTk X p σ) (e9 : τ 9 0 = σ 9 0) (e58 : τ 58 0 = σ 58 0) : isTk X p τ := by
  unfold isTk isTe
  rw [e9, e58]
  exact h
theorem slR58 : (slR (Int.toNat 58)).1 = 1 ∧ ((slR (Int.toNat 58)).2.1 : Int) = 700 := by decide
set_option maxHeartbeats 1000000 in
set_option maxRecDepth 4000 in
theorem sp_X9_isLetter {G : slG} (hG : slGood G) {d K : Nat} (hd : 0 ≤ d) (hK : 0 ≤ K) {Φ : slPost} {σ : slM} {x0 : Int} (hx : InR x0) (h1 : isLe x0 = true → Φ (0, 1) σ) (h0 : ¬ isLe x0 = true → Φ (0, 0) σ) :
    slCall G mX9_isLetter d K [sI x0] σ Φ := by
  refine vc_X9_isLetter hG (by omega) hK  ?_
  exact ⟨hx, fun q => h0 (fun z => by have := isLe_i.mp z; omega), fun q => ⟨hx, fun q2 => h0 (fun z => by have := isLe_i.mp z; omega), fun q2 => h1 (isLe_i.mpr ⟨by omega, by omega⟩)⟩⟩
set_option maxHeartbeats 1000000 in
set_option maxRecDepth 4000 in
theorem sp_X9_isDigit {G : slG} (hG : slGood G) {d K : Nat} (hd : 0 ≤ d) (hK : 0 ≤ K) {Φ : slPost} {σ : slM} {x0 : Int} (hx : InR x0) (h1 : isDg x0 = true → Φ (0, 1) σ) (h0 : ¬ isDg x0 = true → Φ (0, 0) σ) :
    slCall G mX9_isDigit d K [sI x0] σ Φ := by
  refine vc_X9_isDigit hG (by omega) hK  ?_
  exact ⟨hx, fun q => h0 (fun z => by have := isDg_i.mp z; omega), fun q => ⟨hx, fun q2 => h0 (fun z => by have := isDg_i.mp z; omega), fun q2 => h1 (isDg_i.mpr ⟨by omega, by omega⟩)⟩⟩
set_option maxHeartbeats 8000000 in
set_option maxRecDepth 4000 in
theorem sp_X9_next {G : slG} (hG : slGood G) {d K : Nat} (hd : 12 ≤ d) (hK : 0 ≤ K) {Φ : slPost} {σ : slM}  {X : abX} {p : Int} (hX : gdX X) (hT : isTe X σ) (hp : 0 ≤ p ∧ p ≤ X.2) (e3 : σ 9 0 3 = p) (h : ∀ τ, slFr [(9, 0)] σ τ → isTk X p τ → Φ (0, 0) τ) :
    slCall G mX9_next d K [sR 9 0] σ Φ := by
  refine vc_X9_next hG (by omega) hK (fun μ σ' => slFr [(9, 0)] σ σ' ∧ isTe X σ' ∧ (p ≤ σ' 9 0 2 ∧ σ' 9 0 2 ≤ X.2) ∧ lxR isBl X (σ' 9 0 2) = lxB X p ∧ μ = (1, (X.2 - σ' 9 0 2).toNat, 0)) (fun μ σ' => slFr [(9, 0)] σ σ' ∧ isTe X σ' ∧ lxK X p = 2 ∧ σ' 9 0 2 = lxB X p ∧ σ' 9 0 4 = 2 ∧ (lxB X p ≤ σ' 9 0 3 ∧ σ' 9 0 3 ≤ X.2) ∧ lxR isLe X (σ' 9 0 3) = lxE X p ∧ μ = (0, (X.2 - σ' 9 0 3).toNat, 0)) (fun μ σ' => slFr [(9, 0)] σ σ' ∧ isTe X σ' ∧ lxK X p = 3 ∧ σ' 9 0 2 = lxB X p ∧ σ' 9 0 4 = 3 ∧ (lxB X p ≤ σ' 9 0 3 ∧ σ' 9 0 3 ≤ X.2) ∧ lxR isDg X (σ' 9 0 3) = lxE X p ∧ (∀ k : Int, lxB X p ≤ k → k < σ' 9 0 3 → isDg (X.1 k.toNat) = true) ∧ μ = (0, (X.2 - σ' 9 0 3).toNat, 0) ∧ σ' 9 0 5 = (if σ' 9 0 3 - lxB X p ≤ 4 then lxV X (lxB X p) (σ' 9 0 3 - lxB X p).toNat else 10000)) ?_ ?_ ?_ ?_
  · refine ⟨_, slFr.id.up (by simp), hT.up (by decide), ?_, ?_, rfl⟩
    · rw [slU_same, e3]; exact ⟨Int.le_refl _, hp.2⟩
    · rw [slU_same, e3]; rfl
  · rintro μ σ' ⟨fr, T, r2, e, rfl⟩
    have hx := hX.1
    have E2 : ∀ v, slU σ' 9 0 3 v 9 0 2 = σ' 9 0 2 := fun v => slU_ne (by decide)
    have E1 : ∀ v, slU σ' 9 0 3 v 9 0 1 = X.2 := fun v => by rw [slU_ne (by decide)]; exact T.2.1
    have E0 : ∀ v, slU σ' 9 0 3 v 9 0 0 = 58 := fun v => by rw [slU_ne (by decide)]; exact T.1
    have E58 : ∀ v k, slU σ' 9 0 3 v (Int.toNat 58) 0 k = σ' 58 0 k := fun v k => by
      rw [show (Int.toNat 58 : Nat) = 58 from rfl, slU_else (by decide)]
    suffices blk : lxB X p = σ' 9 0 2 → _ from ⟨⟨⟨by omega, by omega⟩, by rw [T.2.1]; exact ⟨by omega, by omega⟩⟩, fun z => blk (by rw [← e]; exact lxR_n (fun w => by rw [T.2.1] at z; omega)), fun z => by
      rw [T.2.1] at z
      have et := T.2.2 (σ' 9 0 2).toNat (by omega)
      have b := hX.2 (σ' 9 0 2).toNat
      have ee : σ' (Int.toNat (σ' 9 0 0)) 0 (Int.toNat (σ' 9 0 2)) = X.1 (σ' 9 0 2).toNat := by rw [T.1]; exact et
      have up : isBl (X.1 (σ' 9 0 2).toNat) = true → ∃ μ53, slLt μ53 (1, (X.2 - σ' 9 0 2).toNat, 0) ∧ slFr [(9, 0)] σ (slU σ' 9 0 2 (σ' 9 0 2 + 1)) ∧ isTe X (slU σ' 9 0 2 (σ' 9 0 2 + 1)) ∧ (p ≤ slU σ' 9 0 2 (σ' 9 0 2 + 1) 9 0 2 ∧ slU σ' 9 0 2 (σ' 9 0 2 + 1) 9 0 2 ≤ X.2) ∧ lxR isBl X (slU σ' 9 0 2 (σ' 9 0 2 + 1) 9 0 2) = lxB X p ∧ μ53 = (1, (X.2 - slU σ' 9 0 2 (σ' 9 0 2 + 1) 9 0 2).toNat, 0) := fun w => by
        rw [slU_same]
        exact ⟨(1, (X.2 - (σ' 9 0 2 + 1)).toNat, 0), Or.inr ⟨rfl, Or.inl (by show (X.2 - (σ' 9 0 2 + 1)).toNat < (X.2 - σ' 9 0 2).toNat; omega)⟩, fr.up (by simp), T.up (by decide), ⟨by omega, by omega⟩, by rw [← lxR_y (by omega) w]; exact e, rfl⟩
      have rg : ((slR (Int.toNat (σ' 9 0 0))).1 = 1) ∧ (0 ≤ σ' 9 0 2) ∧ (σ' 9 0 2 < ((slR (Int.toNat (σ' 9 0 0))).2.1 : Int)) := by rw [T.1, slR58.1, slR58.2]; exact ⟨rfl, by omega, by omega⟩
      rw [ee]
      exact ⟨rg, ⟨by omega, by omega⟩, fun w => up (isBl_i.mpr (Or.inl w)), fun w => ⟨rg, ⟨by omega, by omega⟩, fun w2 => blk (by rw [← e]; exact lxR_n (fun u => (isBl_i.mp u.2).elim w w2)), fun w2 => up (isBl_i.mpr (Or.inr w2))⟩⟩⟩
    intro eB
    have bR := lxB_r (X := X) hp.2
    rw [E2, E1, E0, slR58.1, slR58.2, E58]
    refine ⟨⟨⟨by omega, by omega⟩, by omega, by omega⟩, fun z => ⟨⟨rfl, by omega, by omega⟩, ?_⟩, fun z => ?_⟩
    · have et := T.2.2 (σ' 9 0 2).toNat (by omega)
      have b := hX.2 (σ' 9 0 2).toNat
      have ec : lxC X p = X.1 (σ' 9 0 2).toNat := by unfold lxC; rw [eB]
      have T3 : isTe X (slU σ' 9 0 3 (σ' 9 0 2)) := T.up (by decide)
      have f3 : slFr [(9, 0)] σ (slU σ' 9 0 3 (σ' 9 0 2)) := fr.up (by simp)
      have q2 : slU σ' 9 0 3 (σ' 9 0 2) 9 0 2 = σ' 9 0 2 := slU_ne (by decide)
      have q3 : slU σ' 9 0 3 (σ' 9 0 2) 9 0 3 = σ' 9 0 2 := slU_same _ _ _ _ _
      rw [et]
      generalize slU σ' 9 0 3 (σ' 9 0 2) = σ3 at T3 f3 q2 q3 ⊢
      have rg3 : ((slR (Int.toNat (σ3 9 0 0))).1 = 1) ∧ (0 ≤ σ3 9 0 2) ∧ (σ3 9 0 2 < ((slR (Int.toNat (σ3 9 0 0))).2.1 : Int)) := by rw [T3.1, slR58.1, slR58.2, q2]; exact ⟨rfl, by omega, by omega⟩
      have e3' : σ3 (Int.toNat (σ3 9 0 0)) 0 (Int.toNat (σ3 9 0 2)) = X.1 (σ' 9 0 2).toNat := by rw [T3.1, q2]; exact T3.2.2 _ (by omega)
      have nz : ¬ X.2 ≤ lxB X p := by omega
      refine sp_X9_isLetter hG (by omega) (by omega) ⟨by omega, by omega⟩ (fun l => slKt.ok ⟨⟨by decide, by decide⟩, fun w => absurd w (by decide), fun _ => ?_⟩) (fun l => slKt.ok ⟨⟨by decide, by decide⟩, fun _ => ⟨rg3, ?_⟩, fun w => absurd rfl w⟩)
      · rw [← ec] at l
        have k2 : lxK X p = 2 := by unfold lxK; rw [if_neg nz, if_pos l]
        have ke : lxE X p = lxR isLe X (lxB X p) := by unfold lxE; rw [if_neg nz, if_pos l]
        refine ⟨_, Or.inl (by show 0 < 1; decide), f3.up (by simp), T3.up (by decide), k2, ?_, slU_same _ _ _ _ _, ?_, ?_, rfl⟩
        · rw [slU_ne (by decide), q2, eB]
        · rw [slU_ne (by decide), q3]; omega
        · rw [slU_ne (by decide), q3, ke, eB]
      · rw [e3']
        refine sp_X9_isDigit hG (by omega) (by omega) ⟨by omega, by omega⟩ (fun d => slKt.ok ⟨⟨by decide, by decide⟩, fun w => absurd w (by decide), fun _ => ?_⟩) (fun d => slKt.ok ⟨⟨by decide, by decide⟩, fun _ => ⟨rg3, ?_⟩, fun w => absurd rfl w⟩)
        · rw [← ec] at l d
          have k3 : lxK X p = 3 := by unfold lxK; rw [if_neg nz, if_neg l, if_pos d]
          have ke : lxE X p = lxR isDg X (lxB X p) := by unfold lxE; rw [if_neg nz, if_neg l, if_pos d]
          refine ⟨_, Or.inl (by show 0 < 1; decide), (f3.up (by simp)).up (by simp), (T3.up (by decide)).up (by decide), k3, ?_, ?_, ?_, ?_, ?_, rfl, ?_⟩
          · rw [slU_ne (by decide), slU_ne (by decide), q2, eB]
          · rw [slU_ne (by decide), slU_same]
          · rw [slU_ne (by decide), slU_ne (by decide), q3]; omega
          · rw [slU_ne (by decide), slU_ne (by decide), q3, ke, eB]
          · rw [slU_ne (by decide), slU_ne (by decide), q3]; exact fun k a b => by omega
          · rw [slU_same, slU_ne (by decide), slU_ne (by decide), q3, if_pos (by omega), show σ' 9 0 2 - lxB X p = 0 by omega]; rfl
        · rw [e3']
          obtain ⟨n, en⟩ := Int.eq_ofNat_of_zero_le b.1
          have sc : sI2c (X.1 (σ' 9 0 2).toNat) = X.1 (σ' 9 0 2).toNat := by rw [en]; exact (sI2c_b n (by omega)).2
          rw [sc]
          rw [← ec] at l d
          have ke : lxE X p = lxB X p + 1 := by unfold lxE; rw [if_neg nz, if_neg l, if_neg d]
          have by8 : slBy (108 + 29) = [59, 40, 41, 43, 45, 42, 47, 60, 61] := by decide
          refine sp_J0_indexOf_0f7a4 hG (by omega) (by omega) (w := 108) (by decide) b (by rw [by8]; decide) (fun no => slKt.ok ⟨⟨by decide, by decide⟩, fun _ => h _ ((f3.up (by simp)).up (by simp)) ⟨(T3.up (by decide)).up (by decide), ?_, ?_, ?_, ?_⟩, fun w => absurd (by decide) w⟩) (fun j hj ej _ => slKt.ok ⟨⟨by omega, by rw [by8] at hj; have : j < 9 := hj; omega⟩, fun w => by omega, fun _ => ⟨rg3, ?_⟩⟩)
          · rw [slU_ne (by decide), slU_ne (by decide), q2, eB]
          · rw [slU_same, slU_ne (by decide), q2, ke, eB]
          · rw [slU_ne (by decide), slU_same]
            have ns : ¬ isSg (lxC X p) = true := fun w => by
              rw [by8] at no
              have w := isSg_i.mp w
              rw [ec] at w
              have n0 := no 0 (by decide)
              have n1 := no 1 (by decide)
              have n2 := no 2 (by decide)
              have n3 := no 3 (by decide)
              have n4 := no 4 (by decide)
              have n5 := no 5 (by decide)
              have n6 := no 6 (by decide)
              have n7 := no 7 (by decide)
              have n8 := no 8 (by decide)
              simp only [List.getD_cons_zero, List.getD_cons_succ] at n0 n1 n2 n3 n4 n5 n6 n7 n8
              omega
            unfold lxK
            rw [if_neg nz, if_neg l, if_neg d, if_neg ns]
          · intro k3
            obtain ⟨-, dd, -⟩ := lxK_3 k3
            exact absurd dd d
          · rw [e3']
            have ys : isSg (lxC X p) = true := by
              rw [by8] at hj ej
              rw [ec, ← ej]
              have key : ∀ j, j < 9 → isSg (([59, 40, 41, 43, 45, 42, 47, 60, 61] : List Int).getD j 0) = true := by decide
              exact key j hj
            refine h _ ((f3.up (by simp)).up (by simp)) ⟨(T3.up (by decide)).up (by decide), ?_, ?_, ?_, ?_⟩
            · rw [slU_ne (by decide), slU_ne (by decide), q2, eB]
            · rw [slU_same, slU_ne (by decide), q2, ke, eB]
            · rw [slU_ne (by decide), slU_same]
              unfold lxK
              rw [if_neg nz, if_neg l, if_neg d, if_pos ys, ec]
            · intro k3
              obtain ⟨-, dd, -⟩ := lxK_3 k3
              exact absurd dd d
    · have k0 : lxK X p = 0 := by unfold lxK; rw [if_pos (by omega)]
      have ke : lxE X p = lxB X p := by unfold lxE; rw [if_pos (by omega)]
      refine h _ ((fr.up (by simp)).up (by simp)) ⟨(T.up (by decide)).up (by decide), ?_, ?_, ?_, ?_⟩
      · rw [slU_ne (by decide), slU_ne (by decide), eB]
      · rw [slU_ne (by decide), slU_same, ke, eB]
      · rw [slU_same, k0]
      · intro k3
        omega
  · rintro μ σ' ⟨fr, T, k2, g2, g4, r3, e, rfl⟩
    have hx := hX.1
    have bR := lxB_r (X := X) hp.2
    rw [T.2.1]
    have fin : lxR isLe X (σ' 9 0 3) = σ' 9 0 3 → Φ (0, 0) σ' := fun en => h σ' fr ⟨T, g2, by rw [← e, en], by rw [g4, k2], fun k3 => by omega⟩
    refine ⟨⟨⟨by omega, by omega⟩, by omega, by omega⟩, fun z => fin (lxR_n (fun w => by omega)), fun z => ?_⟩
    have et := T.2.2 (σ' 9 0 3).toNat (by omega)
    have b := hX.2 (σ' 9 0 3).toNat
    have ee : σ' (Int.toNat (σ' 9 0 0)) 0 (Int.toNat (σ' 9 0 3)) = X.1 (σ' 9 0 3).toNat := by rw [T.1]; exact et
    rw [ee, T.1, slR58.1, slR58.2]
    refine ⟨⟨rfl, by omega, by omega⟩, ?_⟩
    refine sp_X9_isLetter hG (by omega) (by omega) ⟨by omega, by omega⟩ (fun l => slKt.ok ⟨⟨by decide, by decide⟩, fun w => absurd w (by decide), fun _ => ?_⟩) (fun l => slKt.ok ⟨⟨by decide, by decide⟩, fun _ => fin (lxR_n (fun w => l w.2)), fun w => absurd rfl w⟩)
    refine ⟨((0, (X.2 - (σ' 9 0 3 + 1)).toNat, 0)), Or.inr ⟨rfl, Or.inl (by show (X.2 - (σ' 9 0 3 + 1)).toNat < (X.2 - σ' 9 0 3).toNat; omega)⟩, fr.up (by simp), T.up (by decide), k2, ?_, ?_, ?_, ?_, ?_⟩
    · rw [slU_ne (by decide)]; exact g2
    · rw [slU_ne (by decide)]; exact g4
    · rw [slU_same]; omega
    · rw [slU_same, ← lxR_y (by omega) l]; exact e
    · rw [slU_same]
  · rintro μ σ' ⟨fr, T, k3, g2, g4, r3, e, al, rfl, g5⟩
    have hx := hX.1
    have bR := lxB_r (X := X) hp.2
    rw [T.2.1]
    have fin : lxR isDg X (σ' 9 0 3) = σ' 9 0 3 → Φ (0, 0) σ' := fun en => h σ' fr ⟨T, g2, by rw [← e, en], by rw [g4, k3], fun _ => by
      have ee : lxE X p = σ' 9 0 3 := by rw [← e, en]
      unfold lxN
      rw [ee]
      exact g5⟩
    refine ⟨⟨⟨by omega, by omega⟩, by omega, by omega⟩, fun z => fin (lxR_n (fun w => by omega)), fun z => ?_⟩
    have b := hX.2 (σ' 9 0 3).toNat
    have et := T.2.2 (σ' 9 0 3).toNat (by omega)
    rw [T.1, slR58.1, slR58.2, show (Int.toNat 58 : Nat) = 58 from rfl, et]
    refine ⟨⟨rfl, by omega, by omega⟩, ?_⟩
    refine sp_X9_isDigit hG (by omega) (by omega) ⟨by omega, by omega⟩ (fun d => slKt.ok ⟨⟨by decide, by decide⟩, fun w => absurd w (by decide), fun _ => ⟨⟨by rw [g2]; omega, by rw [g2]; omega⟩, fun w => ?_, fun w => ⟨?_, ?_⟩⟩⟩) (fun d => slKt.ok ⟨⟨by decide, by decide⟩, fun _ => fin (lxR_n (fun w => d w.2)), fun w => absurd rfl w⟩)
    · rw [g2] at w
      rw [slU_ne (by decide)]
      refine ⟨(0, (X.2 - (σ' 9 0 3 + 1)).toNat, 0), Or.inr ⟨rfl, Or.inl (by show (X.2 - (σ' 9 0 3 + 1)).toNat < (X.2 - σ' 9 0 3).toNat; omega)⟩, (fr.up (by simp)).up (by simp), (T.up (by decide)).up (by decide), k3, ?_, ?_, ?_, ?_, ?_, ?_, ?_⟩
      · rw [slU_ne (by decide), slU_ne (by decide)]; exact g2
      · rw [slU_ne (by decide), slU_ne (by decide)]; exact g4
      · rw [slU_same]; omega
      · rw [slU_same, ← lxR_y (by omega) d]; exact e
      · rw [slU_same]
        intro k a c
        by_cases u : k = σ' 9 0 3
        · rw [u]; exact d
        · exact al k a (by omega)
      · rw [slU_same]
      · rw [slU_same, slU_ne (by decide), slU_same, if_neg (by omega)]
    · rw [T.1, slR58.1, slR58.2]
      exact ⟨rfl, by omega, by omega⟩
    · rw [g2] at w
      rw [T.1, show (Int.toNat 58 : Nat) = 58 from rfl, et, slU_ne (by decide)]
      refine ⟨(0, (X.2 - (σ' 9 0 3 + 1)).toNat, 0), Or.inr ⟨rfl, Or.inl (by show (X.2 - (σ' 9 0 3 + 1)).toNat < (X.2 - σ' 9 0 3).toNat; omega)⟩, (fr.up (by simp)).up (by simp), (T.up (by decide)).up (by decide), k3, ?_, ?_, ?_, ?_, ?_, ?_, ?_⟩
      · rw [slU_ne (by decide), slU_ne (by decide)]; exact g2
      · rw [slU_ne (by decide), slU_ne (by decide)]; exact g4
      · rw [slU_same]; omega
      · rw [slU_same, ← lxR_y (by omega) d]; exact e
      · rw [slU_same]
        intro k a c
        by_cases u : k = σ' 9 0 3
        · rw [u]; exact d
        · exact al k a (by omega)
      · rw [slU_same]
      · rw [slU_same, slU_ne (by decide), slU_same, if_pos (by omega), g5, if_pos (by omega), show (σ' 9 0 3 + 1 - lxB X p).toNat = (σ' 9 0 3 - lxB X p).toNat + 1 by omega]
        show lxV X (lxB X p) (σ' 9 0 3 - lxB X p).toNat * 10 + X.1 (σ' 9 0 3).toNat - 48 = 10 * lxV X (lxB X p) (σ' 9 0 3 - lxB X p).toNat + X.1 (lxB X p + ((σ' 9 0 3 - lxB X p).toNat : Nat)).toNat - 48
        rw [show lxB X p + (((σ' 9 0 3 - lxB X p).toNat : Nat) : Int) = σ' 9 0 3 by omega]
        omega
set_option maxHeartbeats 1000000 in
set_option maxRecDepth 4000 in
theorem sp_X9_begin {G : slG} (hG : slGood G) {d K : Nat} (hd : 14 ≤ d) (hK : 0 ≤ K) {Φ : slPost} {σ : slM} {x2 : Int} {X : abX} (hX : gdX X) (e2 : x2 = X.2) (ht : ∀ k : Nat, (k : Int) < X.2 → σ 58 0 k = X.1 k) (h : ∀ τ, slFr [(9, 0)] σ τ → isTk X 0 τ → Φ (0, 0) τ) :
    slCall G mX9_begin d K [sR 9 0, sR 58 0, sI x2] σ Φ := by
  refine vc_X9_begin hG (by omega) hK  ?_
  have hx := hX.1
  refine ⟨⟨by omega, by omega⟩, ?_⟩
  rw [if_neg (show ¬ 700 < x2 by omega)]
  refine sp_X9_next hG (by omega) (by omega) (X := X) (p := 0) hX ⟨?_, ?_, fun k hk => ?_⟩ ⟨by omega, hx.1⟩ (slU_same _ _ _ _ _) (fun τ f T => slKt.ok (h τ ((((slFr.id.up (by simp)).up (by simp)).up (by simp)).tr f) T))
  · rw [slU_ne (by decide), slU_ne (by decide), slU_same]; rfl
  · rw [slU_ne (by decide), slU_same]; exact e2
  · rw [slU_else (by decide), slU_else (by decide), slU_else (by decide)]; exact ht k hk
set_option maxHeartbeats 1000000 in
set_option maxRecDepth 4000 in
theorem sp_X9_letters {G : slG} (hG : slGood G) {d K : Nat} (hd : 0 ≤ d) (hK : 0 ≤ K) {Φ : slPost} {σ : slM}  (h : Φ (0, σ 9 0 3 - σ 9 0 2) σ) :
    slCall G mX9_letters d K [sR 9 0] σ Φ := by
  refine vc_X9_letters hG (by omega) hK  ?_
  exact h
set_option maxHeartbeats 1000000 in
set_option maxRecDepth 4000 in
theorem sp_X9_letterAt {G : slG} (hG : slGood G) {d K : Nat} (hd : 0 ≤ d) (hK : 0 ≤ K) {Φ : slPost} {σ : slM} {x1 : Int} {X : abX} {p : Int} (hX : gdX X) (hp : 0 ≤ p ∧ p ≤ X.2) (T : isTk X p σ) (h1 : 0 ≤ x1 ∧ x1 < lxE X p - lxB X p) (h : Φ (0, X.1 (lxB X p + x1).toNat) σ) :
    slCall G mX9_letterAt d K [sR 9 0, sI x1] σ Φ := by
  refine vc_X9_letterAt hG (by omega) hK  ?_
  have hx := hX.1
  have e := lxE_r (X := X) hp.2
  have b := lxB_r (X := X) hp.2
  have bt := hX.2 (lxB X p + x1).toNat
  obtain ⟨n, en⟩ := Int.eq_ofNat_of_zero_le bt.1
  rw [T.2.1, T.2.2.1, T.1.1, slR58.1, slR58.2, show (Int.toNat 58 : Nat) = 58 from rfl, T.1.2.2 (lxB X p + x1).toNat (by omega)]
  rw [en] at h bt ⊢
  rw [(sI2c_b n (by omega)).2]
  exact ⟨⟨by omega, by omega⟩, fun q => by omega, fun _ => ⟨⟨⟨by omega, by omega⟩, by omega, by omega⟩, fun q => by omega, fun _ => ⟨⟨rfl, by omega, by omega⟩, ⟨by omega, by omega⟩, h⟩⟩⟩
set_option maxHeartbeats 1000000 in
set_option maxRecDepth 4000 in
theorem sp_X9_isWord {G : slG} (hG : slGood G) {d K : Nat} (hd : 12 ≤ d) (hK : 0 ≤ K) {Φ : slPost} {σ : slM} {w : Nat} (hw : 107 ≤ w ∧ w < 136) {X : abX} {p : Int} (hX : gdX X) (hp : 0 ≤ p ∧ p ≤ X.2) (T : isTk X p σ) (h : Φ (0, abIf (lxIs X p (slBy (w + 29))) 1 0) σ) :
    slCall G mX9_isWord d K [sR 9 0, sR w 0] σ Φ := by
  refine vc_X9_isWord hG (by omega) hK hw (fun μ y2 σ' => σ' = σ ∧ lxK X p = 2 ∧ lxE X p - lxB X p = (slBy (w + 29)).length ∧ μ = ((((slBy (w + 29)).length : Int) - y2).toNat, 0, 0) ∧ (0 ≤ y2 ∧ y2 ≤ (slBy (w + 29)).length) ∧ ∀ i : Nat, (i : Int) < y2 → X.1 (lxB X p + i).toNat = (slBy (w + 29)).getD i 0) ?_ ?_
  · have l := slBy_len (b := w + 29) ⟨by omega, by omega⟩
    have hx := hX.1
    have e := lxE_r (X := X) hp.2
    have b := lxB_r (X := X) hp.2
    have kr := lxK_r (X := X) (p := p)
    rw [T.2.2.2.1]
    refine ⟨⟨by omega, by omega⟩, fun q => ?_, fun q => ?_⟩
    · rwa [abIf_f (fun z => q z.1)] at h
    · rw [T.2.1, T.2.2.1]
      refine sp_J0_length_8abf5 hG (by omega) (by omega) hw (slKt.ok ⟨⟨⟨by omega, by omega⟩, by omega, by omega⟩, fun z => ⟨_, rfl, q, z, rfl, ⟨by omega, by omega⟩, fun i hi => by omega⟩, fun z => ?_⟩)
      rwa [abIf_f (fun u => z u.2.1)] at h
  · have l := slBy_len (b := w + 29) ⟨by omega, by omega⟩
    rintro μ y2 σ' ⟨rfl, k2, el, rfl, hy, al⟩
    refine sp_J0_length_8abf5 hG (by omega) (by omega) hw (slKt.ok ⟨⟨⟨by omega, by omega⟩, by omega, by omega⟩, fun z => ?_, fun z => ?_⟩)
    · rwa [abIf_t (show lxIs X p (slBy (w + 29)) from ⟨k2, el, fun i hi => al i (by omega)⟩)] at h
    · have r := slBy_r (b := w + 29) ⟨by omega, by omega⟩ y2.toNat (by omega)
      have bt := hX.2 (lxB X p + y2).toNat
      have hx := hX.1
      have e := lxE_r (X := X) hp.2
      have b := lxB_r (X := X) hp.2
      rw [T.2.1, T.1.2.1, T.1.1, slR58.1, slR58.2, show (Int.toNat 58 : Nat) = 58 from rfl, T.1.2.2 (lxB X p + y2).toNat (by omega)]
      refine ⟨⟨⟨by omega, by omega⟩, by omega, by omega⟩, fun z2 => by omega, fun z2 => ⟨⟨rfl, by omega, by omega⟩, ?_⟩⟩
      refine sp_J0_charAt_5068e hG (by omega) (by omega) hw ⟨hy.1, by omega⟩ (slKt.ok ⟨⟨⟨by omega, by omega⟩, by omega, by omega⟩, fun u => ⟨_, Or.inl (by show (((slBy (w + 29)).length : Int) - (y2 + 1)).toNat < (((slBy (w + 29)).length : Int) - y2).toNat; omega), rfl, k2, el, rfl, ⟨by omega, by omega⟩, fun i hi => ?_⟩, fun u => ?_⟩)
      · by_cases e : (i : Int) = y2
        · rw [e, show i = y2.toNat by omega]; exact u
        · exact al i (by omega)
      · rw [abIf_f (fun v => u (by
          have := v.2.2 y2.toNat (by omega)
          rw [show ((y2.toNat : Nat) : Int) = y2 by omega] at this
          exact this))] at h
        exact h
