/-! ===== memory: region, instance, place; values; the world ===== -/
abbrev slM : Type := Nat → Nat → Nat → Int
abbrev slV : Type := Int ⊕ Int ⊕ (Nat × Nat)
abbrev sI (x : Int) : slV := Sum.inl x
abbrev sL (x : Int) : slV := Sum.inr (Sum.inl x)
abbrev sR (r i : Nat) : slV := Sum.inr (Sum.inr (r, i))
/-- the launch, the law's start, its script's cell, the addresses, class numbers and slots, array classes (0 int, 1 boolean, 2 long) -/
abbrev slG : Type := Launch × State × Nat × (Nat → Nat → Nat) × va_G × (Nat → ClassId)
abbrev slL (G : slG) : Launch := G.1
abbrev slS0 (G : slG) : State := G.2.1
abbrev slB (G : slG) : Nat := G.2.2.1
abbrev slAd (G : slG) : Nat → Nat → Nat := G.2.2.2.1
abbrev slDm (G : slG) : va_G := G.2.2.2.2.1
abbrev slCA (G : slG) : Nat → ClassId := G.2.2.2.2.2
abbrev slBase (G : slG) : Nat := (slS0 G).heap.size
/-- what lies at or above the start's heap -/
abbrev slA (G : slG) : Nat → Prop := fun q => slBase G ≤ q
def slD (G : slG) : slV → Value
  | .inl x => .int (Int32.ofInt x)
  | .inr (.inl x) => .long (Int64.ofInt x)
  | .inr (.inr q) => .ref (slAd G q.1 q.2)
def slVal : slV → Prop
  | .inl _ => True
  | .inr (.inl _) => True
  | .inr (.inr q) => q.2 < (slR q.1).2.2
def slAll : List slV → Prop
  | [] => True
  | v :: t => slVal v ∧ slAll t
/-- what a field holds -/
def slGet (σ : slM) (r i k : Nat) : slV := match (slF r k).1 with
  | 0 => sI (σ r i k)
  | 1 => sI (σ r i k)
  | 2 => sL (σ r i k)
  | 3 => sR (slF r k).2.1 (i + (slF r k).2.2)
  | 4 => sR (slF r k).2.1 (σ r i k).toNat
  | _ => sR (σ r i k).toNat 0
def slAt (G : slG) (σ : slM) (r i : Nat) (H : Heap) : Prop := match (slR r).1 with
  | 0 => t_OB (slAd G r i) ((slDm G).1 r) (slR r).2.1 ((slDm G).2 r) H (fun k => slD G (slGet σ r i k)) ∧ ∀ k, k < (slR r).2.1 → slVal (slGet σ r i k)
  | 1 => H[slAd G r i]? = some (arrV (slCA G 0) (slR r).2.1 (fun j => .int (Int32.ofInt (σ r i j))))
  | 2 => H[slAd G r i]? = some (arrV (slCA G 1) (slR r).2.1 (fun j => .int (Int32.ofInt (σ r i j))))
  | 3 => H[slAd G r i]? = some (arrV (slCA G 2) (slR r).2.1 (fun j => .long (Int64.ofInt (σ r i j))))
  | _ => True
def slRep (G : slG) (σ : slM) (H : Heap) : Prop := ∀ r i, i < (slR r).2.2 → slAt G σ r i H
/-- one place changed -/
def slU (σ : slM) (r i k : Nat) (x : Int) : slM := fun r' i' k' => if r' = r ∧ i' = i ∧ k' = k then x else σ r' i' k'
theorem slU_same (σ : slM) (r i k : Nat) (x : Int) : slU σ r i k x r i k = x := by simp [slU]
theorem slU_r {σ : slM} {r i k : Nat} {x : Int} {r' i' k' : Nat} (h : r' ≠ r) : slU σ r i k x r' i' k' = σ r' i' k' := by simp [slU, h]
theorem slU_i {σ : slM} {r i k : Nat} {x : Int} {r' i' k' : Nat} (h : i' ≠ i) : slU σ r i k x r' i' k' = σ r' i' k' := by simp [slU, h]
theorem slU_k {σ : slM} {r i k : Nat} {x : Int} {r' i' k' : Nat} (h : k' ≠ k) : slU σ r i k x r' i' k' = σ r' i' k' := by simp [slU, h]
/-! locals by their places -/
def slAtL : List (Option slV) → Nat → Option slV
  | [], _ => none
  | o :: _, 0 => o
  | _ :: t, n + 1 => slAtL t n
def slClr : Option slV → Option slV
  | some (.inr (.inl _)) => none
  | o => o
/-- a value of one slot laid at a place; a long that it cuts goes -/
def slSet : List (Option slV) → Nat → slV → List (Option slV)
  | [], _, _ => []
  | _ :: t, 0, v => some v :: t
  | o :: t, 1, v => slClr o :: slSet t 0 v
  | o :: t, n + 2, v => o :: slSet t (n + 1) v
def slNo : List (Option slV) → List (Option slV)
  | [] => []
  | _ :: t => none :: t
def slSet2 : List (Option slV) → Nat → slV → List (Option slV)
  | [], _, _ => []
  | _ :: t, 0, v => some v :: slNo t
  | o :: t, 1, v => slClr o :: slSet2 t 0 v
  | o :: t, n + 2, v => o :: slSet2 t (n + 1) v
theorem slSet_at : ∀ (ls : List (Option slV)) (i : Nat) (v : slV) (k : Nat) (w : slV), slAtL (slSet ls i v) k = some w → (k = i ∧ w = v) ∨ (k ≠ i ∧ slAtL ls k = some w ∧ ¬ (k + 1 = i ∧ ∃ x, w = sL x))
  | [], i, v, k, w, h => by simp [slSet, slAtL] at h
  | o :: t, 0, v, 0, w, h => by simp [slSet, slAtL] at h; exact Or.inl ⟨rfl, h.symm⟩
  | o :: t, 0, v, k + 1, w, h => by simp [slSet, slAtL] at h; exact Or.inr ⟨by omega, h, by omega⟩
  | o :: t, 1, v, 0, w, h => by
    refine Or.inr ⟨by omega, ?_, ?_⟩
    · rcases o with _ | x | x | x <;> simp [slSet, slAtL, slClr] at h ⊢ <;> exact h
    · rintro ⟨-, x, rfl⟩
      rcases o with _ | x | x | x <;> simp [slSet, slAtL, slClr] at h
  | o :: t, 1, v, k + 1, w, h => by
    have h1 : slAtL (slSet t 0 v) k = some w := h
    rcases slSet_at t 0 v k w h1 with ⟨h2, h3⟩ | ⟨h2, h3, h4⟩
    · exact Or.inl ⟨by omega, h3⟩
    · exact Or.inr ⟨by omega, h3, fun q => absurd q.1 (by omega)⟩
  | o :: t, n + 2, v, 0, w, h => by
    have h1 : o = some w := h
    exact Or.inr ⟨by omega, h1, fun q => absurd q.1 (by omega)⟩
  | o :: t, n + 2, v, k + 1, w, h => by
    have h1 : slAtL (slSet t (n + 1) v) k = some w := h
    rcases slSet_at t (n + 1) v k w h1 with ⟨h2, h3⟩ | ⟨h2, h3, h4⟩
    · exact Or.inl ⟨by omega, h3⟩
    · exact Or.inr ⟨by omega, h3, fun q => h4 ⟨by omega, q.2⟩⟩
theorem slNo_at {ls : List (Option slV)} {k : Nat} {w : slV} (h : slAtL (slNo ls) k = some w) : k ≠ 0 ∧ slAtL ls k = some w := by
  cases ls with
  | nil => simp [slNo, slAtL] at h
  | cons o t =>
    cases k with
    | zero => simp [slNo, slAtL] at h
    | succ k => exact ⟨by omega, h⟩
theorem slSet2_at : ∀ (ls : List (Option slV)) (i : Nat) (v : slV) (k : Nat) (w : slV), slAtL (slSet2 ls i v) k = some w → (k = i ∧ w = v) ∨ (k ≠ i ∧ k ≠ i + 1 ∧ slAtL ls k = some w ∧ ¬ (k + 1 = i ∧ ∃ x, w = sL x))
  | [], i, v, k, w, h => by simp [slSet2, slAtL] at h
  | o :: t, 0, v, 0, w, h => by simp [slSet2, slAtL] at h; exact Or.inl ⟨rfl, h.symm⟩
  | o :: t, 0, v, k + 1, w, h => by
    have h1 : slAtL (slNo t) k = some w := h
    obtain ⟨h2, h3⟩ := slNo_at h1
    exact Or.inr ⟨by omega, by omega, h3, by omega⟩
  | o :: t, 1, v, 0, w, h => by
    refine Or.inr ⟨by omega, by omega, ?_, ?_⟩
    · rcases o with _ | x | x | x <;> simp [slSet2, slAtL, slClr] at h ⊢ <;> exact h
    · rintro ⟨-, x, rfl⟩
      rcases o with _ | x | x | x <;> simp [slSet2, slAtL, slClr] at h
  | o :: t, 1, v, k + 1, w, h => by
    have h1 : slAtL (slSet2 t 0 v) k = some w := h
    rcases slSet2_at t 0 v k w h1 with ⟨h2, h3⟩ | ⟨h2, h3, h4, h5⟩
    · exact Or.inl ⟨by omega, h3⟩
    · exact Or.inr ⟨by omega, by omega, h4, fun q => absurd q.1 (by omega)⟩
  | o :: t, n + 2, v, 0, w, h => by
    have h1 : o = some w := h
    exact Or.inr ⟨by omega, by omega, h1, fun q => absurd q.1 (by omega)⟩
  | o :: t, n + 2, v, k + 1, w, h => by
    have h1 : slAtL (slSet2 t (n + 1) v) k = some w := h
    rcases slSet2_at t (n + 1) v k w h1 with ⟨h2, h3⟩ | ⟨h2, h3, h4, h5⟩
    · exact Or.inl ⟨by omega, h3⟩
    · exact Or.inr ⟨by omega, by omega, h4, fun q => h5 ⟨by omega, q.2⟩⟩
def slLoc (G : slG) (n : Nat) (ls : List (Option slV)) (lsA : Array Slot) : Prop := lsA.size = n ∧ lv_wf lsA ∧ ∀ k v, slAtL ls k = some v → slVal v ∧ lsA[k]? = some (.val (slD G v))
/-- the pairs that are held -/
def slPr (G : slG) : Nat → List (Option slV) → List (Nat × Value)
  | _, [] => []
  | n, none :: t => slPr G (n + 1) t
  | n, some v :: t => (n, slD G v) :: slPr G (n + 1) t
theorem slPr_mem (G : slG) : ∀ (ls : List (Option slV)) (n : Nat) (q : Nat × Value), q ∈ slPr G n ls ↔ ∃ k v, slAtL ls k = some v ∧ q = (n + k, slD G v)
  | [], n, q => by simp [slPr, slAtL]
  | none :: t, n, q => by
    rw [slPr, slPr_mem G t (n + 1) q]
    constructor
    · rintro ⟨k, v, h1, h2⟩
      exact ⟨k + 1, v, h1, by rw [h2]; congr 1; omega⟩
    · rintro ⟨k, v, h1, h2⟩
      cases k with
      | zero => simp [slAtL] at h1
      | succ k => exact ⟨k, v, h1, by rw [h2]; congr 1; omega⟩
  | some w :: t, n, q => by
    rw [slPr, List.mem_cons, slPr_mem G t (n + 1) q]
    constructor
    · rintro (h | ⟨k, v, h1, h2⟩)
      · exact ⟨0, w, rfl, by rw [h]; rfl⟩
      · exact ⟨k + 1, v, h1, by rw [h2]; congr 1; omega⟩
    · rintro ⟨k, v, h1, h2⟩
      cases k with
      | zero => exact Or.inl (by rw [h2]; simp [slAtL] at h1; rw [h1]; rfl)
      | succ k => exact Or.inr ⟨k, v, h1, by rw [h2]; congr 1; omega⟩
theorem slLoc.has {G : slG} {n : Nat} {ls : List (Option slV)} {lsA : Array Slot} (h : slLoc G n ls lsA) : lv_has lsA n (slPr G 0 ls) := by
  refine ⟨h.1, h.2.1, fun q hq => ?_⟩
  obtain ⟨k, v, h1, rfl⟩ := (slPr_mem G ls 0 q).mp hq
  rw [Nat.zero_add]
  exact (h.2.2 k v h1).2
theorem slCat (G : slG) (v : slV) : (slD G v).category = 2 ↔ ∃ x, v = sL x := by
  rcases v with x | x | x
  · simp [slD, Value.category, sL]
  · simp [slD, Value.category, sL]
  · simp [slD, Value.category, sL]
theorem slLoc.set {G : slG} {n i : Nat} {ls : List (Option slV)} {lsA lsB : Array Slot} {v : slV} (h : slLoc G n ls lsA) (hv : slVal v)
    (hB : lv_has lsB n ((i, slD G v) :: (slPr G 0 ls).filter (fun q => !(q.1 == i) && !(q.1 + 1 == i && q.2.category == 2)))) : slLoc G n (slSet ls i v) lsB := by
  refine ⟨hB.1, hB.2.1, fun k w hk => ?_⟩
  rcases slSet_at ls i v k w hk with ⟨rfl, rfl⟩ | ⟨h1, h2, h3⟩
  · exact ⟨hv, hB.2.2 (k, slD G w) List.mem_cons_self⟩
  · refine ⟨(h.2.2 k w h2).1, hB.2.2 (k, slD G w) (List.mem_cons_of_mem _ (List.mem_filter.mpr ⟨(slPr_mem G ls 0 _).mpr ⟨k, w, h2, by rw [Nat.zero_add]⟩, ?_⟩))⟩
    have hc := slCat G w
    by_cases hk1 : k + 1 = i
    · have : ¬ (slD G w).category = 2 := fun q => h3 ⟨hk1, hc.mp q⟩
      simp [h1, this]
    · simp [h1, hk1]
theorem slLoc.set2 {G : slG} {n i : Nat} {ls : List (Option slV)} {lsA lsB : Array Slot} {v : slV} (h : slLoc G n ls lsA) (hv : slVal v)
    (hB : lv_has lsB n ((i, slD G v) :: (slPr G 0 ls).filter (fun q => !(q.1 == i) && !(q.1 == i + 1) && !(q.1 + 1 == i && q.2.category == 2)))) : slLoc G n (slSet2 ls i v) lsB := by
  refine ⟨hB.1, hB.2.1, fun k w hk => ?_⟩
  rcases slSet2_at ls i v k w hk with ⟨rfl, rfl⟩ | ⟨h1, h0, h2, h3⟩
  · exact ⟨hv, hB.2.2 (k, slD G w) List.mem_cons_self⟩
  · refine ⟨(h.2.2 k w h2).1, hB.2.2 (k, slD G w) (List.mem_cons_of_mem _ (List.mem_filter.mpr ⟨(slPr_mem G ls 0 _).mpr ⟨k, w, h2, by rw [Nat.zero_add]⟩, ?_⟩))⟩
    have hc := slCat G w
    by_cases hk1 : k + 1 = i
    · have : ¬ (slD G w).category = 2 := fun q => h3 ⟨hk1, hc.mp q⟩
      simp [h1, h0, this]
    · simp [h1, h0, hk1]
