
/-! ===== the judgement: at pc, with these locals, this stack, this memory, the machine comes to Q ===== -/
/-- world; program, environment, room; the invocation: start, method, arguments, frames below, record, code; cells and slots that were made ahead -/
abbrev slX : Type := slG × Program × Env × Room × State × MethodId × Array Value × List Frame × Method × Code × (Nat × Nat)
abbrev xG (X : slX) : slG := X.1
abbrev xp (X : slX) : Program := X.2.1
abbrev xe (X : slX) : Env := X.2.2.1
abbrev xR (X : slX) : Room := X.2.2.2.1
abbrev xs (X : slX) : State := X.2.2.2.2.1
abbrev xm (X : slX) : MethodId := X.2.2.2.2.2.1
abbrev xa (X : slX) : Array Value := X.2.2.2.2.2.2.1
abbrev xb (X : slX) : List Frame := X.2.2.2.2.2.2.2.1
abbrev xh (X : slX) : Method := X.2.2.2.2.2.2.2.2.1
abbrev xc (X : slX) : Code := X.2.2.2.2.2.2.2.2.2.1
abbrev xn (X : slX) : Nat := X.2.2.2.2.2.2.2.2.2.2.1
abbrev xz (X : slX) : Nat := X.2.2.2.2.2.2.2.2.2.2.2
def slOK (X : slX) (Q : State → Prop) (u pc : Nat) (ls : List (Option slV)) (st : List slV) (σ : slM) : Prop :=
  ∀ (H : Heap) (locs : List Loc) (lsA : Array Slot), slRep (xG X) σ H → va_S (slA (xG X)) (xs X).heap H locs → slLoc (xG X) (xc X).maxLocals ls lsA → slAll st →
    W (xp X) (slL (xG X)) (xe X) (xR X) (xs X) (xm X) (xa X) (xb X) (xh X) (xc X) H locs (xn X + u) (xz X + 6 * u) Q (F0 (xm X) pc lsA (st.map (slD (xG X))))
/-- what the world's start gives -/
def slGood (G : slG) : Prop :=
  (∀ w ∈ lw_tbl, w.before #[Value.ref (slB G)] (slS0 G) = true) ∧ va_K (slDm G) vwCl [(slCA G 0, .int), (slCA G 1, .boolean), (slCA G 2, .long)] (slS0 G) ∧
  (∀ r i, i < (slR r).2.2 → (slR r).1 < 4 → slBase G ≤ slAd G r i) ∧
  (∀ r i r' i', i < (slR r).2.2 → (slR r).1 < 4 → i' < (slR r').2.2 → (slR r').1 < 4 → slAd G r i = slAd G r' i' → r = r' ∧ i = i') ∧
  (slL G).stackTraces = false ∧ vx_Zq Bundle.tN "UNASSIGNED_STACK" Bundle.steD (slA G) (slS0 G) (slS0 G).heap ∧ vx_Zq Bundle.tN "SUPPRESSED_SENTINEL" Bundle.listD (slA G) (slS0 G) (slS0 G).heap ∧
  (∀ q ∈ slStrL, vk_R q.1 q.2.1 q.2.2.1 (slAd G q.2.2.2 0) (slS0 G)) ∧
  (∀ k, k < 29 → va_O "java/lang/String" (slAd G (107 + k) 0) (slA G) (slS0 G) (slS0 G).heap ∧ va_OF "java/lang/String" "coder" "B" (.int 0) (slAd G (107 + k) 0) (slA G) (slS0 G) (slS0 G).heap ∧ va_OF "java/lang/String" "value" "[B" (.ref (slAd G (136 + k) 0)) (slAd G (107 + k) 0) (slA G) (slS0 G) (slS0 G).heap ∧
    va_T .byte (slAd G (136 + k) 0) (slTxt.getD k []).length (fun j => .int (Int32.ofInt ((slTxt.getD k []).getD j 0))) (slA G) (slS0 G) (slS0 G).heap) ∧
  va_Z "java/lang/String" "COMPACT_STRINGS" "Z" (.int 1) (slA G) (slS0 G) (slS0 G).heap ∧ vx_Zq "jdk/internal/util/Preconditions" "SIOOBE_FORMATTER" "Ljava/util/function/BiFunction;" (slA G) (slS0 G) (slS0 G).heap ∧ va_Nc "java/lang/IllegalArgumentException" "java/util/NoSuchElementException" (slS0 G)
/-- what a walk knows of its invocation -/
def slCx (X : slX) (own : String) (cc : ByteArray) : Prop :=
  (xp X).tables.exec = Jvm.exec ∧ (xc X).code = cc ∧ (xs X).vm.findClass own = some (xm X).cls ∧ slGood (xG X) ∧ (slS0 (xG X)).WarmedH (xs X).vm ∧
  slBase (xG X) ≤ (xs X).heap.size ∧ ∀ q, q < slBase (xG X) → (xs X).heap[q]? = (slS0 (xG X)).heap[q]?
abbrev InR (x : Int) : Prop := -2147483648 ≤ x ∧ x < 2147483648
abbrev InL (x : Int) : Prop := -9223372036854775808 ≤ x ∧ x < 9223372036854775808
theorem i32_to {x : Int} (h : InR x) : (Int32.ofInt x).toInt = x := by
  rw [Int32.toInt_ofInt]
  exact Int.bmod_eq_of_le (by have := h.1; simp [Int32.size]; omega) (by have := h.2; simp [Int32.size]; omega)
theorem i32_lt {x y : Int} (hx : InR x) (hy : InR y) : Int32.ofInt x < Int32.ofInt y ↔ x < y := by rw [Int32.lt_iff_toInt_lt, i32_to hx, i32_to hy]
theorem i32_le {x y : Int} (hx : InR x) (hy : InR y) : Int32.ofInt x ≤ Int32.ofInt y ↔ x ≤ y := by rw [Int32.le_iff_toInt_le, i32_to hx, i32_to hy]
theorem i32_eq {x y : Int} (hx : InR x) (hy : InR y) : Int32.ofInt x = Int32.ofInt y ↔ x = y := by rw [← Int32.toInt_inj, i32_to hx, i32_to hy]
theorem i32_0 : (0 : Int32) = Int32.ofInt 0 := rfl
theorem i64_to {x : Int} (h : InL x) : (Int64.ofInt x).toInt = x := by
  rw [Int64.toInt_ofInt]
  exact Int.bmod_eq_of_le (by have := h.1; simp [Int64.size]; omega) (by have := h.2; simp [Int64.size]; omega)
def sAnd (a b : Int) : Int := (Int32.ofInt a &&& Int32.ofInt b).toInt
def sOr (a b : Int) : Int := (Int32.ofInt a ||| Int32.ofInt b).toInt
def sXor (a b : Int) : Int := (Int32.ofInt a ^^^ Int32.ofInt b).toInt
def sShl (a b : Int) : Int := (Int32.ofInt a <<< (Int32.ofInt b &&& 31)).toInt
def sShr (a b : Int) : Int := (Int32.ofInt a >>> (Int32.ofInt b &&& 31)).toInt
def sUshr (a b : Int) : Int := ((Int32.ofInt a).toUInt32 >>> ((Int32.ofInt b).toUInt32 &&& Int32.toUInt32 31)).toInt32.toInt
def sDiv (a b : Int) : Int := (Int32.ofInt a / Int32.ofInt b).toInt
def sRem (a b : Int) : Int := (Int32.ofInt a - Int32.ofInt a / Int32.ofInt b * Int32.ofInt b).toInt
def sI2c (a : Int) : Int := ((Int32.ofInt a).toUInt32 % 65536).toInt32.toInt
def sLor (a b : Int) : Int := (Int64.ofInt a ||| Int64.ofInt b).toInt
def sLshl (a b : Int) : Int := (Int64.ofInt a <<< ((Int32.ofInt b).toInt64 &&& 63)).toInt
def sCmp (a b : Int) : Int := (lg_cmp (Int64.ofInt a) (Int64.ofInt b)).toInt
/-- the int that is kept of any -/
def wr (x : Int) : Int := (Int32.ofInt x).toInt
theorem wr_of (x : Int) : Int32.ofInt (wr x) = Int32.ofInt x := Int32.ofInt_toInt _
section Steps1
variable {X : slX} {Q : State → Prop} {u pc : Nat} {ls ls' : List (Option slV)} {st : List slV} {σ : slM} {own : String} {cc : ByteArray}
theorem st_iconst (hX : slCx X own cc) {n : Int} (hd : decode cc pc = .ok (.iconst n, 1)) (kk : slOK X Q u (pc + 1) ls (sI n :: st) σ) : slOK X Q u pc ls (st) σ := by
  intro H locs lsA h1 h2 h3 h4
  exact lv_iconst hX.1 hX.2.1 hd rfl (kk H locs lsA h1 h2 h3 ⟨trivial, h4⟩)
theorem st_bipush (hX : slCx X own cc) {n : Int} (hd : decode cc pc = .ok (.bipush n, 2)) (hn : -128 ≤ n ∧ n < 128) (kk : slOK X Q u (pc + 2) ls (sI n :: st) σ) : slOK X Q u pc ls (st) σ := by
  intro H locs lsA h1 h2 h3 h4
  refine lv_bipush hX.1 hX.2.1 hd (v := Int32.ofInt n) ?_ (kk H locs lsA h1 h2 h3 ⟨trivial, h4⟩)
  rw [← Int32.toInt_inj, Int8.toInt_toInt32, i32_to ⟨by omega, by omega⟩, Int8.toInt_ofInt]
  exact Int.bmod_eq_of_le (by simp [Int8.size]; omega) (by simp [Int8.size]; omega)
theorem st_sipush (hX : slCx X own cc) {n : Int} (hd : decode cc pc = .ok (.sipush n, 3)) (hn : -32768 ≤ n ∧ n < 32768) (kk : slOK X Q u (pc + 3) ls (sI n :: st) σ) : slOK X Q u pc ls (st) σ := by
  intro H locs lsA h1 h2 h3 h4
  refine lv_sipush hX.1 hX.2.1 hd (v := Int32.ofInt n) ?_ (kk H locs lsA h1 h2 h3 ⟨trivial, h4⟩)
  rw [← Int32.toInt_inj, Int16.toInt_toInt32, i32_to ⟨by omega, by omega⟩, Int16.toInt_ofInt]
  exact Int.bmod_eq_of_le (by simp [Int16.size]; omega) (by simp [Int16.size]; omega)
theorem st_lconst0 (hX : slCx X own cc) (hd : decode cc pc = .ok (.lconst 0, 1)) (kk : slOK X Q u (pc + 1) ls (sL 0 :: st) σ) : slOK X Q u pc ls (st) σ := by
  intro H locs lsA h1 h2 h3 h4
  exact lv_lconst hX.1 hX.2.1 hd rfl (kk H locs lsA h1 h2 h3 ⟨trivial, h4⟩)
theorem st_iload_n (hX : slCx X own cc) {k : Fin 4} {x : Int} (hd : decode cc pc = .ok (.iload_n k, 1)) (hl : slAtL ls (k : Nat) = some (sI x)) (kk : slOK X Q u (pc + 1) ls (sI x :: st) σ) : slOK X Q u pc ls (st) σ := by
  intro H locs lsA h1 h2 h3 h4
  exact lv_iload_n hX.1 hX.2.1 hd rfl (h3.2.2 _ _ hl).2 (kk H locs lsA h1 h2 h3 ⟨(h3.2.2 _ _ hl).1, h4⟩)
theorem st_aload_n (hX : slCx X own cc) {k : Fin 4} {r i : Nat} (hd : decode cc pc = .ok (.aload_n k, 1)) (hl : slAtL ls (k : Nat) = some (sR r i)) (kk : slOK X Q u (pc + 1) ls (sR r i :: st) σ) : slOK X Q u pc ls (st) σ := by
  intro H locs lsA h1 h2 h3 h4
  exact lv_aload_n hX.1 hX.2.1 hd rfl (h3.2.2 _ _ hl).2 (kk H locs lsA h1 h2 h3 ⟨(h3.2.2 _ _ hl).1, h4⟩)
theorem st_iload (hX : slCx X own cc) {k : Nat} {x : Int} (hd : decode cc pc = .ok (.iload k, 2)) (hl : slAtL ls k = some (sI x)) (kk : slOK X Q u (pc + 2) ls (sI x :: st) σ) : slOK X Q u pc ls (st) σ := by
  intro H locs lsA h1 h2 h3 h4
  exact lv_iload hX.1 hX.2.1 hd (h3.2.2 _ _ hl).2 (kk H locs lsA h1 h2 h3 ⟨(h3.2.2 _ _ hl).1, h4⟩)
theorem st_aload (hX : slCx X own cc) {k : Nat} {r i : Nat} (hd : decode cc pc = .ok (.aload k, 2)) (hl : slAtL ls k = some (sR r i)) (kk : slOK X Q u (pc + 2) ls (sR r i :: st) σ) : slOK X Q u pc ls (st) σ := by
  intro H locs lsA h1 h2 h3 h4
  exact lv_aload hX.1 hX.2.1 hd (h3.2.2 _ _ hl).2 (kk H locs lsA h1 h2 h3 ⟨(h3.2.2 _ _ hl).1, h4⟩)
theorem st_lload (hX : slCx X own cc) {k : Nat} {x : Int} (hd : decode cc pc = .ok (.lload k, 2)) (hl : slAtL ls k = some (sL x)) (kk : slOK X Q u (pc + 2) ls (sL x :: st) σ) : slOK X Q u pc ls (st) σ := by
  intro H locs lsA h1 h2 h3 h4
  exact lv_lload hX.1 hX.2.1 hd (h3.2.2 _ _ hl).2 (kk H locs lsA h1 h2 h3 ⟨(h3.2.2 _ _ hl).1, h4⟩)
theorem st_istore_n (hX : slCx X own cc) {k : Fin 4} {x : Int} (hd : decode cc pc = .ok (.istore_n k, 1)) (hn : (k : Nat) < (xc X).maxLocals) (hl : slSet ls (k : Nat) (sI x) = ls') (kk : slOK X Q u (pc + 1) ls' st σ) : slOK X Q u pc ls (sI x :: st) σ := by
  intro H locs lsA h1 h2 h3 h4
  subst hl
  exact lv_istore_n hX.1 hX.2.1 hd rfl h3.has hn rfl (fun lsB hB => kk H locs lsB h1 h2 (h3.set (v := sI x) h4.1 hB) h4.2)
theorem st_astore_n (hX : slCx X own cc) {k : Fin 4} {r i : Nat} (hd : decode cc pc = .ok (.astore_n k, 1)) (hn : (k : Nat) < (xc X).maxLocals) (hl : slSet ls (k : Nat) (sR r i) = ls') (kk : slOK X Q u (pc + 1) ls' st σ) : slOK X Q u pc ls (sR r i :: st) σ := by
  intro H locs lsA h1 h2 h3 h4
  subst hl
  exact lv_astore_n hX.1 hX.2.1 hd rfl h3.has hn rfl (fun lsB hB => kk H locs lsB h1 h2 (h3.set (v := sR r i) h4.1 hB) h4.2)
theorem st_istore (hX : slCx X own cc) {k : Nat} {x : Int} (hd : decode cc pc = .ok (.istore k, 2)) (hn : k < (xc X).maxLocals) (hl : slSet ls k (sI x) = ls') (kk : slOK X Q u (pc + 2) ls' st σ) : slOK X Q u pc ls (sI x :: st) σ := by
  intro H locs lsA h1 h2 h3 h4
  subst hl
  exact lv_istore hX.1 hX.2.1 hd h3.has hn rfl (fun lsB hB => kk H locs lsB h1 h2 (h3.set (v := sI x) h4.1 hB) h4.2)
theorem st_astore (hX : slCx X own cc) {k : Nat} {r i : Nat} (hd : decode cc pc = .ok (.astore k, 2)) (hn : k < (xc X).maxLocals) (hl : slSet ls k (sR r i) = ls') (kk : slOK X Q u (pc + 2) ls' st σ) : slOK X Q u pc ls (sR r i :: st) σ := by
  intro H locs lsA h1 h2 h3 h4
  subst hl
  exact lv_astore hX.1 hX.2.1 hd h3.has hn rfl (fun lsB hB => kk H locs lsB h1 h2 (h3.set (v := sR r i) h4.1 hB) h4.2)
theorem st_lstore (hX : slCx X own cc) {k : Nat} {x : Int} (hd : decode cc pc = .ok (.lstore k, 2)) (hn : k + 1 < (xc X).maxLocals) (hl : slSet2 ls k (sL x) = ls') (kk : slOK X Q u (pc + 2) ls' st σ) : slOK X Q u pc ls (sL x :: st) σ := by
  intro H locs lsA h1 h2 h3 h4
  subst hl
  exact lv_lstore hX.1 hX.2.1 hd h3.has hn rfl (fun lsB hB => kk H locs lsB h1 h2 (h3.set2 (v := sL x) h4.1 (by simp only [Bool.and_assoc]; exact hB)) h4.2)
theorem st_iinc (hX : slCx X own cc) {k : Nat} {n x : Int} (hd : decode cc pc = .ok (.iinc k n, 3)) (hx : slAtL ls k = some (sI x)) (hn : k < (xc X).maxLocals) (hl : slSet ls k (sI (x + n)) = ls') (kk : slOK X Q u (pc + 3) ls' st σ) : slOK X Q u pc ls (st) σ := by
  intro H locs lsA h1 h2 h3 h4
  subst hl
  obtain ⟨j, hj⟩ := List.getElem?_of_mem ((slPr_mem (xG X) ls 0 (k, slD (xG X) (sI x))).mpr ⟨k, sI x, hx, by rw [Nat.zero_add]⟩)
  exact lv_iinc hX.1 hX.2.1 hd h3.has hj (v := Int32.ofInt (x + n)) (Int32.ofInt_add x n).symm hn rfl (fun lsB hB => kk H locs lsB h1 h2 (h3.set (v := sI (x + n)) trivial hB) h4)
theorem st_iadd (hX : slCx X own cc) {a b : Int} (hd : decode cc pc = .ok (.iadd, 1)) (kk : slOK X Q u (pc + 1) ls (sI (a + b) :: st) σ) : slOK X Q u pc ls (sI b :: sI a :: st) σ := by
  intro H locs lsA h1 h2 h3 h4
  refine lv_iadd hX.1 hX.2.1 hd ?_
  have k := kk H locs lsA h1 h2 h3 ⟨trivial, h4.2.2⟩
  rw [List.map_cons, show slD (xG X) (sI (a + b)) = .int (Int32.ofInt (a + b)) from rfl, Int32.ofInt_add] at k
  exact k
theorem st_iaddw (hX : slCx X own cc) {a b : Int} (hd : decode cc pc = .ok (.iadd, 1)) (kk : slOK X Q u (pc + 1) ls (sI (wr (a + b)) :: st) σ) : slOK X Q u pc ls (sI b :: sI a :: st) σ := by
  intro H locs lsA h1 h2 h3 h4
  refine lv_iadd hX.1 hX.2.1 hd ?_
  have k := kk H locs lsA h1 h2 h3 ⟨trivial, h4.2.2⟩
  rw [List.map_cons, show slD (xG X) (sI (wr (a + b))) = .int (Int32.ofInt (wr (a + b))) from rfl, wr_of, Int32.ofInt_add] at k
  exact k
theorem st_isub (hX : slCx X own cc) {a b : Int} (hd : decode cc pc = .ok (.isub, 1)) (kk : slOK X Q u (pc + 1) ls (sI (a - b) :: st) σ) : slOK X Q u pc ls (sI b :: sI a :: st) σ := by
  intro H locs lsA h1 h2 h3 h4
  refine lv_isub hX.1 hX.2.1 hd ?_
  have k := kk H locs lsA h1 h2 h3 ⟨trivial, h4.2.2⟩
  rw [List.map_cons, show slD (xG X) (sI (a - b)) = .int (Int32.ofInt (a - b)) from rfl, Int32.ofInt_sub] at k
  exact k
theorem st_isubw (hX : slCx X own cc) {a b : Int} (hd : decode cc pc = .ok (.isub, 1)) (kk : slOK X Q u (pc + 1) ls (sI (wr (a - b)) :: st) σ) : slOK X Q u pc ls (sI b :: sI a :: st) σ := by
  intro H locs lsA h1 h2 h3 h4
  refine lv_isub hX.1 hX.2.1 hd ?_
  have k := kk H locs lsA h1 h2 h3 ⟨trivial, h4.2.2⟩
  rw [List.map_cons, show slD (xG X) (sI (wr (a - b))) = .int (Int32.ofInt (wr (a - b))) from rfl, wr_of, Int32.ofInt_sub] at k
  exact k
theorem st_imul (hX : slCx X own cc) {a b : Int} (hd : decode cc pc = .ok (.imul, 1)) (kk : slOK X Q u (pc + 1) ls (sI (a * b) :: st) σ) : slOK X Q u pc ls (sI b :: sI a :: st) σ := by
  intro H locs lsA h1 h2 h3 h4
  refine lv_imul hX.1 hX.2.1 hd ?_
  have k := kk H locs lsA h1 h2 h3 ⟨trivial, h4.2.2⟩
  rw [List.map_cons, show slD (xG X) (sI (a * b)) = .int (Int32.ofInt (a * b)) from rfl, Int32.ofInt_mul] at k
  exact k
theorem st_imulw (hX : slCx X own cc) {a b : Int} (hd : decode cc pc = .ok (.imul, 1)) (kk : slOK X Q u (pc + 1) ls (sI (wr (a * b)) :: st) σ) : slOK X Q u pc ls (sI b :: sI a :: st) σ := by
  intro H locs lsA h1 h2 h3 h4
  refine lv_imul hX.1 hX.2.1 hd ?_
  have k := kk H locs lsA h1 h2 h3 ⟨trivial, h4.2.2⟩
  rw [List.map_cons, show slD (xG X) (sI (wr (a * b))) = .int (Int32.ofInt (wr (a * b))) from rfl, wr_of, Int32.ofInt_mul] at k
  exact k
theorem st_iand (hX : slCx X own cc) {a b : Int} (hd : decode cc pc = .ok (.iand, 1)) (kk : slOK X Q u (pc + 1) ls (sI (sAnd a b) :: st) σ) : slOK X Q u pc ls (sI b :: sI a :: st) σ := by
  intro H locs lsA h1 h2 h3 h4
  refine lv_iand hX.1 hX.2.1 hd ?_
  have k := kk H locs lsA h1 h2 h3 ⟨trivial, h4.2.2⟩
  rw [List.map_cons, show slD (xG X) (sI (sAnd a b)) = .int (Int32.ofInt (sAnd a b)) from rfl, sAnd, Int32.ofInt_toInt] at k
  exact k
theorem st_ior (hX : slCx X own cc) {a b : Int} (hd : decode cc pc = .ok (.ior, 1)) (kk : slOK X Q u (pc + 1) ls (sI (sOr a b) :: st) σ) : slOK X Q u pc ls (sI b :: sI a :: st) σ := by
  intro H locs lsA h1 h2 h3 h4
  refine lv_ior hX.1 hX.2.1 hd ?_
  have k := kk H locs lsA h1 h2 h3 ⟨trivial, h4.2.2⟩
  rw [List.map_cons, show slD (xG X) (sI (sOr a b)) = .int (Int32.ofInt (sOr a b)) from rfl, sOr, Int32.ofInt_toInt] at k
  exact k
theorem st_ixor (hX : slCx X own cc) {a b : Int} (hd : decode cc pc = .ok (.ixor, 1)) (kk : slOK X Q u (pc + 1) ls (sI (sXor a b) :: st) σ) : slOK X Q u pc ls (sI b :: sI a :: st) σ := by
  intro H locs lsA h1 h2 h3 h4
  refine lv_ixor hX.1 hX.2.1 hd ?_
  have k := kk H locs lsA h1 h2 h3 ⟨trivial, h4.2.2⟩
  rw [List.map_cons, show slD (xG X) (sI (sXor a b)) = .int (Int32.ofInt (sXor a b)) from rfl, sXor, Int32.ofInt_toInt] at k
  exact k
theorem st_ishl (hX : slCx X own cc) {a b : Int} (hd : decode cc pc = .ok (.ishl, 1)) (kk : slOK X Q u (pc + 1) ls (sI (sShl a b) :: st) σ) : slOK X Q u pc ls (sI b :: sI a :: st) σ := by
  intro H locs lsA h1 h2 h3 h4
  refine lv_ishl hX.1 hX.2.1 hd ?_
  have k := kk H locs lsA h1 h2 h3 ⟨trivial, h4.2.2⟩
  rw [List.map_cons, show slD (xG X) (sI (sShl a b)) = .int (Int32.ofInt (sShl a b)) from rfl, sShl, Int32.ofInt_toInt] at k
  exact k
theorem st_ishr (hX : slCx X own cc) {a b : Int} (hd : decode cc pc = .ok (.ishr, 1)) (kk : slOK X Q u (pc + 1) ls (sI (sShr a b) :: st) σ) : slOK X Q u pc ls (sI b :: sI a :: st) σ := by
  intro H locs lsA h1 h2 h3 h4
  refine lv_ishr hX.1 hX.2.1 hd ?_
  have k := kk H locs lsA h1 h2 h3 ⟨trivial, h4.2.2⟩
  rw [List.map_cons, show slD (xG X) (sI (sShr a b)) = .int (Int32.ofInt (sShr a b)) from rfl, sShr, Int32.ofInt_toInt] at k
  exact k
theorem st_iushr (hX : slCx X own cc) {a b : Int} (hd : decode cc pc = .ok (.iushr, 1)) (kk : slOK X Q u (pc + 1) ls (sI (sUshr a b) :: st) σ) : slOK X Q u pc ls (sI b :: sI a :: st) σ := by
  intro H locs lsA h1 h2 h3 h4
  refine lv_iushr hX.1 hX.2.1 hd rfl ?_
  have k := kk H locs lsA h1 h2 h3 ⟨trivial, h4.2.2⟩
  rw [List.map_cons, show slD (xG X) (sI (sUshr a b)) = .int (Int32.ofInt (sUshr a b)) from rfl, sUshr, Int32.ofInt_toInt] at k
  exact k
theorem st_i2c (hX : slCx X own cc) {a : Int} (hd : decode cc pc = .ok (.i2c, 1)) (kk : slOK X Q u (pc + 1) ls (sI (sI2c a) :: st) σ) : slOK X Q u pc ls (sI a :: st) σ := by
  intro H locs lsA h1 h2 h3 h4
  refine lv_i2c hX.1 hX.2.1 hd rfl ?_
  have k := kk H locs lsA h1 h2 h3 ⟨trivial, h4.2⟩
  rw [List.map_cons, show slD (xG X) (sI (sI2c a)) = .int (Int32.ofInt (sI2c a)) from rfl, sI2c, Int32.ofInt_toInt] at k
  exact k
theorem st_idiv (hX : slCx X own cc) {a b : Int} (hd : decode cc pc = .ok (.idiv, 1)) (hb : InR b) (h0 : b ≠ 0) (kk : slOK X Q u (pc + 1) ls (sI (sDiv a b) :: st) σ) : slOK X Q u pc ls (sI b :: sI a :: st) σ := by
  intro H locs lsA h1 h2 h3 h4
  refine lv_idiv hX.1 hX.2.1 hd (fun q => h0 ((i32_eq hb ⟨by omega, by omega⟩).mp q)) ?_
  have k := kk H locs lsA h1 h2 h3 ⟨trivial, h4.2.2⟩
  rw [List.map_cons, show slD (xG X) (sI (sDiv a b)) = .int (Int32.ofInt (sDiv a b)) from rfl, sDiv, Int32.ofInt_toInt] at k
  exact k
theorem st_irem (hX : slCx X own cc) {a b : Int} (hd : decode cc pc = .ok (.irem, 1)) (hb : InR b) (h0 : b ≠ 0) (kk : slOK X Q u (pc + 1) ls (sI (sRem a b) :: st) σ) : slOK X Q u pc ls (sI b :: sI a :: st) σ := by
  intro H locs lsA h1 h2 h3 h4
  refine lv_irem hX.1 hX.2.1 hd (fun q => h0 ((i32_eq hb ⟨by omega, by omega⟩).mp q)) ?_
  have k := kk H locs lsA h1 h2 h3 ⟨trivial, h4.2.2⟩
  rw [List.map_cons, show slD (xG X) (sI (sRem a b)) = .int (Int32.ofInt (sRem a b)) from rfl, sRem, Int32.ofInt_toInt] at k
  exact k
theorem st_i2l (hX : slCx X own cc) {a : Int} (hd : decode cc pc = .ok (.i2l, 1)) (ha : InR a) (kk : slOK X Q u (pc + 1) ls (sL a :: st) σ) : slOK X Q u pc ls (sI a :: st) σ := by
  intro H locs lsA h1 h2 h3 h4
  refine lv_i2l hX.1 hX.2.1 hd (v := Int64.ofInt a) ?_ (kk H locs lsA h1 h2 h3 ⟨trivial, h4.2⟩)
  rw [← Int64.toInt_inj, Int32.toInt_toInt64, i32_to ha, i64_to ⟨by omega, by omega⟩]
theorem st_lsub (hX : slCx X own cc) {a b : Int} (hd : decode cc pc = .ok (.lsub, 1)) (kk : slOK X Q u (pc + 1) ls (sL (a - b) :: st) σ) : slOK X Q u pc ls (sL b :: sL a :: st) σ := by
  intro H locs lsA h1 h2 h3 h4
  refine lv_lsub hX.1 hX.2.1 hd ?_
  have k := kk H locs lsA h1 h2 h3 ⟨trivial, h4.2.2⟩
  rw [List.map_cons, show slD (xG X) (sL (a - b)) = .long (Int64.ofInt (a - b)) from rfl, Int64.ofInt_sub] at k
  exact k
theorem st_lor (hX : slCx X own cc) {a b : Int} (hd : decode cc pc = .ok (.lor, 1)) (kk : slOK X Q u (pc + 1) ls (sL (sLor a b) :: st) σ) : slOK X Q u pc ls (sL b :: sL a :: st) σ := by
  intro H locs lsA h1 h2 h3 h4
  refine lv_lor hX.1 hX.2.1 hd ?_
  have k := kk H locs lsA h1 h2 h3 ⟨trivial, h4.2.2⟩
  rw [List.map_cons, show slD (xG X) (sL (sLor a b)) = .long (Int64.ofInt (sLor a b)) from rfl, sLor, Int64.ofInt_toInt] at k
  exact k
theorem st_lshl (hX : slCx X own cc) {a b : Int} (hd : decode cc pc = .ok (.lshl, 1)) (kk : slOK X Q u (pc + 1) ls (sL (sLshl a b) :: st) σ) : slOK X Q u pc ls (sI b :: sL a :: st) σ := by
  intro H locs lsA h1 h2 h3 h4
  refine lv_lshl hX.1 hX.2.1 hd rfl ?_
  have k := kk H locs lsA h1 h2 h3 ⟨trivial, h4.2.2⟩
  rw [List.map_cons, show slD (xG X) (sL (sLshl a b)) = .long (Int64.ofInt (sLshl a b)) from rfl, sLshl, Int64.ofInt_toInt] at k
  exact k
theorem st_lcmp (hX : slCx X own cc) {a b : Int} (hd : decode cc pc = .ok (.lcmp, 1)) (kk : slOK X Q u (pc + 1) ls (sI (sCmp a b) :: st) σ) : slOK X Q u pc ls (sL b :: sL a :: st) σ := by
  intro H locs lsA h1 h2 h3 h4
  refine W.lcmp hX.1 hX.2.1 hd ?_
  have k := kk H locs lsA h1 h2 h3 ⟨trivial, h4.2.2⟩
  rw [List.map_cons, show slD (xG X) (sI (sCmp a b)) = .int (Int32.ofInt (sCmp a b)) from rfl, sCmp, Int32.ofInt_toInt] at k
  exact k
theorem st_dupI (hX : slCx X own cc) {x : Int} (hd : decode cc pc = .ok (.dup, 1)) (kk : slOK X Q u (pc + 1) ls (sI x :: sI x :: st) σ) : slOK X Q u pc ls (sI x :: st) σ := by
  intro H locs lsA h1 h2 h3 h4
  exact lv_dup hX.1 hX.2.1 hd rfl (kk H locs lsA h1 h2 h3 ⟨h4.1, h4.1, h4.2⟩)
theorem st_popI (hX : slCx X own cc) {x : Int} (hd : decode cc pc = .ok (.pop, 1)) (kk : slOK X Q u (pc + 1) ls (st) σ) : slOK X Q u pc ls (sI x :: st) σ := by
  intro H locs lsA h1 h2 h3 h4
  exact lv_pop hX.1 hX.2.1 hd rfl (kk H locs lsA h1 h2 h3 h4.2)
theorem st_dupR (hX : slCx X own cc) {r i : Nat} (hd : decode cc pc = .ok (.dup, 1)) (kk : slOK X Q u (pc + 1) ls (sR r i :: sR r i :: st) σ) : slOK X Q u pc ls (sR r i :: st) σ := by
  intro H locs lsA h1 h2 h3 h4
  exact lv_dup hX.1 hX.2.1 hd rfl (kk H locs lsA h1 h2 h3 ⟨h4.1, h4.1, h4.2⟩)
theorem st_popR (hX : slCx X own cc) {r i : Nat} (hd : decode cc pc = .ok (.pop, 1)) (kk : slOK X Q u (pc + 1) ls (st) σ) : slOK X Q u pc ls (sR r i :: st) σ := by
  intro H locs lsA h1 h2 h3 h4
  exact lv_pop hX.1 hX.2.1 hd rfl (kk H locs lsA h1 h2 h3 h4.2)
theorem st_dup2 (hX : slCx X own cc) {x : Int} {r i : Nat} (hd : decode cc pc = .ok (.dup2, 1)) (kk : slOK X Q u (pc + 1) ls (sI x :: sR r i :: sI x :: sR r i :: st) σ) : slOK X Q u pc ls (sI x :: sR r i :: st) σ := by
  intro H locs lsA h1 h2 h3 h4
  exact lv_dup2_11 hX.1 hX.2.1 hd rfl rfl (kk H locs lsA h1 h2 h3 ⟨h4.1, h4.2.1, h4⟩)
theorem st_icmp_eq (hX : slCx X own cc) {a b : Int} {off : Int} {tgt : Nat} (hd : decode cc pc = .ok (.if_icmp .eq off, 3)) (ht : (pc : Int) + off = (tgt : Int)) (ha : InR a) (hb : InR b) (kt : a = b → slOK X Q u tgt ls st σ) (kf : ¬ (a = b) → slOK X Q u (pc + 3) ls st σ) : slOK X Q u pc ls (sI b :: sI a :: st) σ := by
  intro H locs lsA h1 h2 h3 h4
  exact lv_icmp_eq hX.1 hX.2.1 hd ht (fun q => kt ((i32_eq ha hb).mp q) H locs lsA h1 h2 h3 h4.2.2) (fun q => kf (fun z => q ((i32_eq ha hb).mpr z)) H locs lsA h1 h2 h3 h4.2.2)
theorem st_if_eq (hX : slCx X own cc) {a : Int} {off : Int} {tgt : Nat} (hd : decode cc pc = .ok (.ifCond .eq off, 3)) (ht : (pc : Int) + off = (tgt : Int)) (ha : InR a) (kt : a = 0 → slOK X Q u tgt ls st σ) (kf : ¬ (a = 0) → slOK X Q u (pc + 3) ls st σ) : slOK X Q u pc ls (sI a :: st) σ := by
  intro H locs lsA h1 h2 h3 h4
  exact lv_if_eq hX.1 hX.2.1 hd ht (fun q => kt ((i32_eq ha ⟨by omega, by omega⟩).mp q) H locs lsA h1 h2 h3 h4.2) (fun q => kf (fun z => q ((i32_eq ha ⟨by omega, by omega⟩).mpr z)) H locs lsA h1 h2 h3 h4.2)
theorem st_icmp_ne (hX : slCx X own cc) {a b : Int} {off : Int} {tgt : Nat} (hd : decode cc pc = .ok (.if_icmp .ne off, 3)) (ht : (pc : Int) + off = (tgt : Int)) (ha : InR a) (hb : InR b) (kt : ¬ a = b → slOK X Q u tgt ls st σ) (kf : a = b → slOK X Q u (pc + 3) ls st σ) : slOK X Q u pc ls (sI b :: sI a :: st) σ := by
  intro H locs lsA h1 h2 h3 h4
  exact lv_icmp_ne hX.1 hX.2.1 hd ht (fun q => kt (fun z => q ((i32_eq ha hb).mpr z)) H locs lsA h1 h2 h3 h4.2.2) (fun q => kf ((i32_eq ha hb).mp q) H locs lsA h1 h2 h3 h4.2.2)
theorem st_if_ne (hX : slCx X own cc) {a : Int} {off : Int} {tgt : Nat} (hd : decode cc pc = .ok (.ifCond .ne off, 3)) (ht : (pc : Int) + off = (tgt : Int)) (ha : InR a) (kt : ¬ a = 0 → slOK X Q u tgt ls st σ) (kf : a = 0 → slOK X Q u (pc + 3) ls st σ) : slOK X Q u pc ls (sI a :: st) σ := by
  intro H locs lsA h1 h2 h3 h4
  exact lv_if_ne hX.1 hX.2.1 hd ht (fun q => kt (fun z => q ((i32_eq ha ⟨by omega, by omega⟩).mpr z)) H locs lsA h1 h2 h3 h4.2) (fun q => kf ((i32_eq ha ⟨by omega, by omega⟩).mp q) H locs lsA h1 h2 h3 h4.2)
theorem st_icmp_lt (hX : slCx X own cc) {a b : Int} {off : Int} {tgt : Nat} (hd : decode cc pc = .ok (.if_icmp .lt off, 3)) (ht : (pc : Int) + off = (tgt : Int)) (ha : InR a) (hb : InR b) (kt : a < b → slOK X Q u tgt ls st σ) (kf : ¬ (a < b) → slOK X Q u (pc + 3) ls st σ) : slOK X Q u pc ls (sI b :: sI a :: st) σ := by
  intro H locs lsA h1 h2 h3 h4
  exact lv_icmp_lt hX.1 hX.2.1 hd ht (fun q => kt ((i32_lt ha hb).mp q) H locs lsA h1 h2 h3 h4.2.2) (fun q => kf (fun z => q ((i32_lt ha hb).mpr z)) H locs lsA h1 h2 h3 h4.2.2)
theorem st_if_lt (hX : slCx X own cc) {a : Int} {off : Int} {tgt : Nat} (hd : decode cc pc = .ok (.ifCond .lt off, 3)) (ht : (pc : Int) + off = (tgt : Int)) (ha : InR a) (kt : a < 0 → slOK X Q u tgt ls st σ) (kf : ¬ (a < 0) → slOK X Q u (pc + 3) ls st σ) : slOK X Q u pc ls (sI a :: st) σ := by
  intro H locs lsA h1 h2 h3 h4
  exact lv_if_lt hX.1 hX.2.1 hd ht (fun q => kt ((i32_lt ha ⟨by omega, by omega⟩).mp q) H locs lsA h1 h2 h3 h4.2) (fun q => kf (fun z => q ((i32_lt ha ⟨by omega, by omega⟩).mpr z)) H locs lsA h1 h2 h3 h4.2)
theorem st_icmp_ge (hX : slCx X own cc) {a b : Int} {off : Int} {tgt : Nat} (hd : decode cc pc = .ok (.if_icmp .ge off, 3)) (ht : (pc : Int) + off = (tgt : Int)) (ha : InR a) (hb : InR b) (kt : b ≤ a → slOK X Q u tgt ls st σ) (kf : ¬ (b ≤ a) → slOK X Q u (pc + 3) ls st σ) : slOK X Q u pc ls (sI b :: sI a :: st) σ := by
  intro H locs lsA h1 h2 h3 h4
  exact lv_icmp_ge hX.1 hX.2.1 hd ht (fun q => kt ((i32_le hb ha).mp q) H locs lsA h1 h2 h3 h4.2.2) (fun q => kf (fun z => q ((i32_le hb ha).mpr z)) H locs lsA h1 h2 h3 h4.2.2)
theorem st_if_ge (hX : slCx X own cc) {a : Int} {off : Int} {tgt : Nat} (hd : decode cc pc = .ok (.ifCond .ge off, 3)) (ht : (pc : Int) + off = (tgt : Int)) (ha : InR a) (kt : 0 ≤ a → slOK X Q u tgt ls st σ) (kf : ¬ (0 ≤ a) → slOK X Q u (pc + 3) ls st σ) : slOK X Q u pc ls (sI a :: st) σ := by
  intro H locs lsA h1 h2 h3 h4
  exact lv_if_ge hX.1 hX.2.1 hd ht (fun q => kt ((i32_le ⟨by omega, by omega⟩ ha).mp q) H locs lsA h1 h2 h3 h4.2) (fun q => kf (fun z => q ((i32_le ⟨by omega, by omega⟩ ha).mpr z)) H locs lsA h1 h2 h3 h4.2)
theorem st_icmp_gt (hX : slCx X own cc) {a b : Int} {off : Int} {tgt : Nat} (hd : decode cc pc = .ok (.if_icmp .gt off, 3)) (ht : (pc : Int) + off = (tgt : Int)) (ha : InR a) (hb : InR b) (kt : b < a → slOK X Q u tgt ls st σ) (kf : ¬ (b < a) → slOK X Q u (pc + 3) ls st σ) : slOK X Q u pc ls (sI b :: sI a :: st) σ := by
  intro H locs lsA h1 h2 h3 h4
  exact lv_icmp_gt hX.1 hX.2.1 hd ht (fun q => kt ((i32_lt hb ha).mp q) H locs lsA h1 h2 h3 h4.2.2) (fun q => kf (fun z => q ((i32_lt hb ha).mpr z)) H locs lsA h1 h2 h3 h4.2.2)
theorem st_if_gt (hX : slCx X own cc) {a : Int} {off : Int} {tgt : Nat} (hd : decode cc pc = .ok (.ifCond .gt off, 3)) (ht : (pc : Int) + off = (tgt : Int)) (ha : InR a) (kt : 0 < a → slOK X Q u tgt ls st σ) (kf : ¬ (0 < a) → slOK X Q u (pc + 3) ls st σ) : slOK X Q u pc ls (sI a :: st) σ := by
  intro H locs lsA h1 h2 h3 h4
  exact lv_if_gt hX.1 hX.2.1 hd ht (fun q => kt ((i32_lt ⟨by omega, by omega⟩ ha).mp q) H locs lsA h1 h2 h3 h4.2) (fun q => kf (fun z => q ((i32_lt ⟨by omega, by omega⟩ ha).mpr z)) H locs lsA h1 h2 h3 h4.2)
theorem st_icmp_le (hX : slCx X own cc) {a b : Int} {off : Int} {tgt : Nat} (hd : decode cc pc = .ok (.if_icmp .le off, 3)) (ht : (pc : Int) + off = (tgt : Int)) (ha : InR a) (hb : InR b) (kt : a ≤ b → slOK X Q u tgt ls st σ) (kf : ¬ (a ≤ b) → slOK X Q u (pc + 3) ls st σ) : slOK X Q u pc ls (sI b :: sI a :: st) σ := by
  intro H locs lsA h1 h2 h3 h4
  exact lv_icmp_le hX.1 hX.2.1 hd ht (fun q => kt ((i32_le ha hb).mp q) H locs lsA h1 h2 h3 h4.2.2) (fun q => kf (fun z => q ((i32_le ha hb).mpr z)) H locs lsA h1 h2 h3 h4.2.2)
theorem st_if_le (hX : slCx X own cc) {a : Int} {off : Int} {tgt : Nat} (hd : decode cc pc = .ok (.ifCond .le off, 3)) (ht : (pc : Int) + off = (tgt : Int)) (ha : InR a) (kt : a ≤ 0 → slOK X Q u tgt ls st σ) (kf : ¬ (a ≤ 0) → slOK X Q u (pc + 3) ls st σ) : slOK X Q u pc ls (sI a :: st) σ := by
  intro H locs lsA h1 h2 h3 h4
  exact lv_if_le hX.1 hX.2.1 hd ht (fun q => kt ((i32_le ha ⟨by omega, by omega⟩).mp q) H locs lsA h1 h2 h3 h4.2) (fun q => kf (fun z => q ((i32_le ha ⟨by omega, by omega⟩).mpr z)) H locs lsA h1 h2 h3 h4.2)
theorem st_goto (hX : slCx X own cc) {off : Int} {tgt : Nat} (hd : decode cc pc = .ok (.goto off, 3)) (ht : (pc : Int) + off = (tgt : Int)) (kk : slOK X Q u tgt ls st σ) : slOK X Q u pc ls st σ := by
  intro H locs lsA h1 h2 h3 h4
  exact lv_goto hX.1 hX.2.1 hd ht (kk H locs lsA h1 h2 h3 h4)
/-- a switch: the targets in their order from lo on -/
def slSw (a : Int) (K : Nat → Prop) : Int → List Nat → Prop
  | _, [] => True
  | v, t :: ts => (a = v → K t) ∧ slSw a K (v + 1) ts
theorem slSw_at {a : Int} {K : Nat → Prop} : ∀ {ts : List Nat} {v : Int} {j : Nat} {t : Nat}, slSw a K v ts → ts[j]? = some t → a = v + j → K t
  | [], v, j, t, _, h, _ => by simp at h
  | t0 :: ts, v, 0, t, h, h2, h3 => by
    simp at h2
    subst h2
    exact h.1 (by omega)
  | t0 :: ts, v, j + 1, t, h, h2, h3 => slSw_at (ts := ts) (v := v + 1) (j := j) h.2 (by simpa using h2) (by omega)
theorem st_tsw (hX : slCx X own cc) {a dflt lo hi : Int} {offs : Array Int} {len dt : Nat} {ts : List Nat} (hd : decode cc pc = .ok (.tableswitch dflt lo hi offs, len)) (hr : InR a) (hts : offs.toList = ts.map (fun t : Nat => (t : Int) - (pc : Int))) (hhi : hi + 1 = lo + ts.length) (hdt : (pc : Int) + dflt = (dt : Int))
    (kin : slSw a (fun t => slOK X Q u t ls st σ) lo ts) (kout : (a < lo ∨ hi < a) → slOK X Q u dt ls st σ) : slOK X Q u pc ls (sI a :: st) σ := by
  intro H locs lsA h1 h2 h3 h4
  by_cases hc : a < lo ∨ hi < a
  · exact lv_tableOut hX.1 hX.2.1 hd (by rw [i32_to hr]; exact hc) hdt (kout hc H locs lsA h1 h2 h3 h4.2)
  · obtain ⟨j, hj⟩ : ∃ j : Nat, a = lo + j := ⟨(a - lo).toNat, by omega⟩
    have hjl : j < ts.length := by omega
    refine lv_tableIn hX.1 hX.2.1 hd (off := (ts[j] : Int) - (pc : Int)) (tgt := ts[j]) (by rw [i32_to hr]; omega) (by rw [i32_to hr]; omega) ?_ (by omega) (slSw_at kin (List.getElem?_eq_getElem hjl) hj H locs lsA h1 h2 h3 h4.2)
    rw [i32_to hr, show (a - lo).toNat = j by omega, ← Array.getElem?_toList, hts]
    simp [hjl]
end Steps1
