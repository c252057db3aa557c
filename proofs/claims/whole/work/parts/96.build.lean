/-! ===== building: the cells that the constructors make, in the order of their making ===== -/
/-- a value: (0, 0, x) the int x; (1, j, 0) the cell j; (2, 0, 0) null; (3, 0, x) the long x -/
abbrev bV : Type := Nat × Nat × Int
abbrev vI (x : Int) : bV := (0, 0, x)
abbrev vR (j : Nat) : bV := (1, j, 0)
abbrev vN : bV := (2, 0, 0)
abbrev vJ (x : Int) : bV := (3, 0, x)
def bI0 (b : Nat) (v : bV) : Value := match v.1 with
  | 0 => .int (Int32.ofInt v.2.2)
  | 1 => .ref (b + v.2.1)
  | 2 => .null
  | _ => .long (Int64.ofInt v.2.2)
def bI (G : slG) (v : bV) : Value := bI0 (slBase G) v
theorem bI0_ne {b : Nat} {v : bV} (h : v.1 ≠ 1) : bI0 b v = bI0 0 v := by
  rcases v with ⟨_ | _ | _ | m, x, y⟩ <;> first | rfl | exact absurd rfl h
theorem bLe {a b c : Nat} (h : c = b) (hb : Nat.ble a b = true) : a ≤ c := h ▸ Nat.le_of_ble_eq_true hb
theorem bLt {a : Nat} {l : List bV} (h : Nat.ble (a + 1) l.length = true) : a < l.length := Nat.le_of_ble_eq_true h
theorem bL1 {k k' : Nat} {l : List bV} {v : bV} (h : k < l.length) : k < (l.set k' v).length := by rw [List.length_set]; exact h
/-- a cell: an object (class, fields), or a row (0 int, 1 boolean, 2 long; length; what was stored) -/
abbrev bE : Type := (Nat × List bV) ⊕ (Nat × Nat × List (Nat × Int))
def bLk : List (Nat × Int) → Nat → Int
  | [], _ => 0
  | (k, x) :: t, j => if j = k then x else bLk t j
def bCell (G : slG) (H : Heap) (o : Nat) : bE → Prop
  | .inl q => t_OB o ((slDm G).1 q.1) (slR q.1).2.1 ((slDm G).2 q.1) H (fun k => bI G (q.2.getD k vN))
  | .inr q => H[o]? = some (arrV (slCA G q.1) q.2.1 (fun j => if q.1 = 2 then .long (Int64.ofInt (bLk q.2.2 j)) else .int (Int32.ofInt (bLk q.2.2 j))))
def bAt (G : slG) (es : List bE) (H : Heap) : Prop := H.size = slBase G + es.length ∧ ∀ (k : Nat) (e : bE), es[k]? = some e → bCell G H (slBase G + k) e
theorem bCell.kept {G : slG} {H H' : Heap} {o : Nat} {e : bE} (h : bCell G H o e) (hq : H'[o]? = H[o]?) : bCell G H' o e := by
  cases e with
  | inl q => exact t_OB.kept h hq
  | inr q => exact hq.trans h
theorem bAt.set {G : slG} {es : List bE} {H H' : Heap} {k0 : Nat} {e e' : bE} (h : bAt G es H) (he : es[k0]? = some e) (hz : H'.size = H.size) (ho : ∀ q : Nat, q ≠ slBase G + k0 → H'[q]? = H[q]?) (hc : bCell G H' (slBase G + k0) e') : bAt G (es.set k0 e') H' := by
  refine ⟨by rw [hz, List.length_set]; exact h.1, fun k x hx => ?_⟩
  by_cases hk : k = k0
  · subst hk
    have hlt : k < es.length := (List.getElem?_eq_some_iff.mp he).1
    rw [List.getElem?_set_self hlt] at hx
    cases hx
    exact hc
  · rw [List.getElem?_set_ne (fun q => hk q.symm)] at hx
    exact (h.2 k x hx).kept (ho _ (by omega))
theorem bAt.push {G : slG} {es : List bE} {H H' : Heap} {e : bE} (h : bAt G es H) (hz : H'.size = H.size + 1) (ho : ∀ q : Nat, q < H.size → H'[q]? = H[q]?) (hc : bCell G H' (slBase G + es.length) e) : bAt G (es ++ [e]) H' := by
  refine ⟨by rw [hz, h.1, List.length_append]; rfl, fun k x hx => ?_⟩
  by_cases hk : k < es.length
  · rw [List.getElem?_append_left hk] at hx
    exact (h.2 k x hx).kept (ho _ (by rw [h.1]; omega))
  · rw [List.getElem?_append_right (by omega)] at hx
    have h1 : k - es.length < [e].length := (List.getElem?_eq_some_iff.mp hx).1
    have h2 : k = es.length := by simp at h1; omega
    subst h2
    rw [Nat.sub_self] at hx
    cases hx
    exact hc
/-- the judgement: n cells of z slots were made -/
def bOK (X : slX) (Q : State → Prop) (n z pc : Nat) (ls : List (Nat × Value)) (st : List bV) (es : List bE) : Prop :=
  ∀ (H : Heap) (locs : List Loc) (lsA : Array Slot), bAt (xG X) es H → va_S (slA (xG X)) (xs X).heap H locs → lv_has lsA (xc X).maxLocals ls →
    W (xp X) (slL (xG X)) (xe X) (xR X) (xs X) (xm X) (xa X) (xb X) (xh X) (xc X) H locs n z Q (F0 (xm X) pc lsA (st.map (bI (xG X))))
def bRm (d mc ms : Nat) : Room := { frames := d, cells := mc, slots := ms, locals := 60 * d }
def bPc (G : slG) (a : Nat) (es : List bE) : Array Value → State → Prop := fun v U => v = [Value.ref (slBase G + a)].toArray ∧ (slS0 G).WarmedH U.vm ∧ slBase G ≤ U.heap.size ∧ (∀ q, q < slBase G → U.heap[q]? = (slS0 G).heap[q]?) ∧ bAt G es U.heap
def bQc (G : slG) (es : List bE) : Array Value → State → Outcome → State → Prop := fun _ st o t => o = .returned none ∧ bAt G es t.heap ∧ va_F (slA G) st t
/-- a constructor's contract, on the cell a -/
def bCall (G : slG) (y : MethodName) (bytes : ByteArray) (d mc ms a : Nat) (es es' : List bE) : Prop :=
  Met (slL G) y [Cond.code y bytes 1 none] (bRm d mc ms) (bPc G a es) (bQc G es') mc ms (slA G)
def bQ (X : slX) (es : List bE) (mc ms : Nat) : State → Prop := MQ (xb X) (bQc (xG X) es) (xa X) (xs X) mc ms (slA (xG X))
/-- what a constructor's walk knows -/
def bBd (X : slX) (d mc ms : Nat) : Prop := (xh X).name = "<init>" ∧ (xh X).sig.returnType = none ∧ (xh X).locks = false ∧ (xc X).maxLocals = 1 ∧ xR X = bRm d mc ms
set_option maxHeartbeats 4000000 in
theorem bCall.of {G : slG} (hG : slGood G) {y : MethodName} {own : String} {bytes : ByteArray} {d mc ms a : Nat} {es es' : List bE} (hy : plainName y.cls = true) (hown : y.cls = own) (hnm : y.name = "<init>")
    (body : ∀ X : slX, slCx X own bytes → xG X = G → bBd X d mc ms → bOK X (bQ X es' mc ms) 0 0 0 [(0, bI (xG X) (vR a))] [] es) : bCall G y bytes d mc ms a es es' := by
  refine Met.ofW (cc := bytes) (maxL := 1) (ret := none) hy rfl ?_
  intro p e s m args below meth c s₁ B hml hv
  obtain ⟨rfl, hW, hz, hq, hR⟩ := hv
  have hown' : s.vm.findClass own = some m.cls := by rw [← hown]; exact findClass_of_methodNamed B.named
  have hin : meth.name = "<init>" := (name_of_methodNamed B.named B.method).1.trans hnm
  have k := body (G, p, e, bRm d mc ms, s, m, [Value.ref (slBase G + a)].toArray, below, meth, c, (0, 0)) ⟨B.exec, B.bytes, hown', hG, hW, hz, hq⟩ rfl ⟨hin, B.returns, B.notSynchronized, hml, rfl⟩
  have hl := lv_entry ([Value.ref (slBase G + a)]) (n := 1) (Nat.le_of_ble_eq_true rfl)
  rw [lg_entry_eq]
  generalize (lg_sl ([Value.ref (slBase G + a)]) ++ List.replicate (1 - (lg_sl ([Value.ref (slBase G + a)])).length) Slot.unset).toArray = lsA at hl ⊢
  exact k s.heap [] lsA hR va_S.rf ⟨by show lsA.size = c.maxLocals; rw [hml]; exact hl.1, hl.2.1, hl.2.2⟩
/-- a field that a constructor writes -/
def bFd (own : String) (idx r k : Nat) (t : FieldType) : Prop := ∃ (C : String) (T : u_T) (N : Nat) (ty : Nat → FieldType), slCl r C T N ty ∧ k < N ∧ Cond.fieldLink own idx (T k).1 (T k).2.1 (T k).2.2.1 ∈ lw_tbl ∧ (T k).1 = own ∧ ty k = t
/-- a class whose objects are made at idx of own, its fields at first -/
def bNw (own : String) (idx r N : Nat) (fs : List bV) : Prop := ∃ (C : String) (T : u_T) (ty : Nat → FieldType), slCl r C T N ty ∧ (Cond.classLink own idx C ∈ lw_tbl ∧ Cond.instantiable C N ∈ lw_tbl ∧ Cond.initialized C ∈ lw_tbl) ∧ ∀ j, j < N → (fs.getD j vN).1 ≠ 1 ∧ defaultValue (ty j) = bI0 0 (fs.getD j vN)
/-- a constructor linked by the word lk -/
def bSi (lk : Cond) (y : MethodName) (bytes : ByteArray) : Prop := lk ∈ lw_tbl ∧ Cond.initialized y.cls ∈ lw_tbl ∧ Cond.code y bytes 1 none ∈ lw_tbl ∧ (y.cls ≠ "java/lang/invoke/MethodHandle" ∧ y.cls ≠ "java/lang/invoke/VarHandle" ∧ (parseMethodDescriptor y.desc).map (fun d => d.parameters.length) = some 0) ∧ y.name = "<init>" ∧ Cond.instanceMethod y ∈ lw_tbl
section Build
variable {X : slX} {Q : State → Prop} {n z pc d mc ms : Nat} {ls ls' : List (Nat × Value)} {st : List bV} {es es' : List bE} {own : String} {cc : ByteArray}
theorem b_aload (hX : slCx X own cc) {k : Fin 4} {a : Nat} (i : Nat) (hd : decode cc pc = .ok (.aload_n k, 1)) (hl : ls[i]? = some ((k : Nat), bI (xG X) (vR a))) (kk : bOK X Q n z (pc + 1) ls (vR a :: st) es) : bOK X Q n z pc ls st es := by
  intro H locs lsA h1 h2 h3
  exact lv_aload_n hX.1 hX.2.1 hd rfl (lv_at h3 i hl) (kk H locs lsA h1 h2 h3)
theorem b_iconst (hX : slCx X own cc) {x : Int} (hd : decode cc pc = .ok (.iconst x, 1)) (kk : bOK X Q n z (pc + 1) ls (vI x :: st) es) : bOK X Q n z pc ls st es := by
  intro H locs lsA h1 h2 h3
  exact lv_iconst hX.1 hX.2.1 hd rfl (kk H locs lsA h1 h2 h3)
theorem b_bipush (hX : slCx X own cc) {x : Int} (hd : decode cc pc = .ok (.bipush x, 2)) (hn : -128 ≤ x ∧ x < 128) (kk : bOK X Q n z (pc + 2) ls (vI x :: st) es) : bOK X Q n z pc ls st es := by
  intro H locs lsA h1 h2 h3
  refine lv_bipush hX.1 hX.2.1 hd (v := Int32.ofInt x) ?_ (kk H locs lsA h1 h2 h3)
  rw [← Int32.toInt_inj, Int8.toInt_toInt32, i32_to ⟨by omega, by omega⟩, Int8.toInt_ofInt]
  exact Int.bmod_eq_of_le (by simp [Int8.size]; omega) (by simp [Int8.size]; omega)
theorem b_sipush (hX : slCx X own cc) {x : Int} (hd : decode cc pc = .ok (.sipush x, 3)) (hn : -32768 ≤ x ∧ x < 32768) (kk : bOK X Q n z (pc + 3) ls (vI x :: st) es) : bOK X Q n z pc ls st es := by
  intro H locs lsA h1 h2 h3
  refine lv_sipush hX.1 hX.2.1 hd (v := Int32.ofInt x) ?_ (kk H locs lsA h1 h2 h3)
  rw [← Int32.toInt_inj, Int16.toInt_toInt32, i32_to ⟨by omega, by omega⟩, Int16.toInt_ofInt]
  exact Int.bmod_eq_of_le (by simp [Int16.size]; omega) (by simp [Int16.size]; omega)
theorem b_dup (hX : slCx X own cc) {a : Nat} (hd : decode cc pc = .ok (.dup, 1)) (kk : bOK X Q n z (pc + 1) ls (vR a :: vR a :: st) es) : bOK X Q n z pc ls (vR a :: st) es := by
  intro H locs lsA h1 h2 h3
  exact lv_dup hX.1 hX.2.1 hd rfl (kk H locs lsA h1 h2 h3)
theorem b_astore (hX : slCx X own cc) {k : Fin 4} {a : Nat} (hd : decode cc pc = .ok (.astore_n k, 1)) (hn : (k : Nat) < (xc X).maxLocals) (hl : ((k : Nat), bI (xG X) (vR a)) :: ls.filter (fun q => !(q.1 == (k : Nat)) && !(q.1 + 1 == (k : Nat) && q.2.category == 2)) = ls') (kk : bOK X Q n z (pc + 1) ls' st es) : bOK X Q n z pc ls (vR a :: st) es := by
  intro H locs lsA h1 h2 h3
  exact lv_astore_n hX.1 hX.2.1 hd rfl h3 hn hl (fun lsB hB => kk H locs lsB h1 h2 hB)
theorem b_obj (hX : slCx X own cc) {a idx : Nat} (hl : Cond.methodLink own idx Lib.objectInit ∈ lw_tbl) (hi : Cond.instanceMethod Lib.objectInit ∈ lw_tbl) (hc : Cond.code Lib.objectInit ⟨#[0xb1]⟩ 1 none ∈ lw_tbl) (hf : 1 ≤ (xR X).frames) (hlo : 12 ≤ (xR X).locals) (hd : decode cc pc = .ok (.invokespecial idx, 3)) (kk : bOK X Q n z (pc + 3) ls [] es) : bOK X Q n z pc ls [vR a] es := by
  intro H locs lsA h1 h2 h3
  exact W.objInit hX.1 hX.2.1 hX.2.2.1 (slWord hX hl rfl) (slWord hX hi rfl) (slWord hX hc rfl) rfl h3.1 rfl hd hf (by show 2 * 0 + 0 + 12 ≤ (xR X).locals; omega) (kk H locs lsA h1 h2 h3)
theorem b_newa (hX : slCx X own cc) {t N : Nat} {x : Int} {aT : ArrayType} {ty : FieldType} (hty : newarray.typeOf aT = ty) (hw : Cond.arrayClass ty ∈ lw_tbl) (ht : ([(slCA (xG X) 0, FieldType.int), (slCA (xG X) 1, FieldType.boolean), (slCA (xG X) 2, FieldType.long)] : List (ClassId × FieldType))[t]? = some (slCA (xG X) t, ty))
    (hno : va_RA (xs X) (slCA (xG X) t) ty → (xs X).vm.findClass ("[" ++ ty.toString) = some (slCA (xG X) t)) (hdv : defaultValue ty = if t = 2 then .long (Int64.ofInt 0) else .int (Int32.ofInt 0))
    (hx : x = (N : Int)) (hN : N ≤ 2100) (hby : componentBytes ty ≤ 8) (hc : n + 1 ≤ (xR X).cells) (hs : z + N ≤ (xR X).slots) (hd : decode cc pc = .ok (.newarray aT, 2)) {a : Nat} (ha : es.length = a) (kk : bOK X Q (n + 1) (z + N) (pc + 2) ls (vR a :: st) (es ++ [.inr (t, N, [])])) : bOK X Q n z pc ls (vI x :: st) es := by
  intro H locs lsA h1 h2 h3
  subst ha hx hty
  have hcl : (Int32.ofInt (N : Int)).toNatClampNeg = N := by rw [sl_cl (by omega) (by omega)]; omega
  have hnn : ¬ Int32.ofInt (N : Int) < 0 := fun h => absurd ((i32_lt (x := (N : Int)) (y := 0) ⟨by omega, by omega⟩ ⟨by omega, by omega⟩).mp h) (by omega)
  refine va_newaK (n := Int32.ofInt (N : Int)) (N := N) hX.1 hX.2.1 (slWord hX hw rfl) rfl hd rfl hnn hcl (Nat.le_trans (Nat.mul_le_mul hN hby) (by decide)) hc hs h1.1 fun H1 cA e1 z1 o1 hAr hNm => ?_
  have hcA : cA = slCA (xG X) t := Option.some.inj (hNm.symm.trans (hno ((slK hX).2 t _ ht).2))
  subst hcA
  refine kk H1 locs lsA (h1.push (by rw [z1, h1.1]) (fun q hq => o1 q (by rw [← h1.1]; exact hq)) ?_) ⟨Nat.le_trans h2.1 (by rw [z1, h1.1]; omega), fun q g1 g2 => (o1 q (by rw [← h1.1]; exact Nat.lt_of_lt_of_le g1 h2.1)).trans (h2.2.1 q g1 g2), h2.2.2⟩ h3
  show H1[slBase (xG X) + es.length]? = some (arrV (slCA (xG X) t) N (fun j => if t = 2 then .long (Int64.ofInt (bLk [] j)) else .int (Int32.ofInt (bLk [] j))))
  rw [e1, hdv]
  rfl
theorem b_newI (hX : slCx X own cc) {N : Nat} {x : Int} (hw : Cond.arrayClass .int ∈ lw_tbl) (hx : x = (N : Int)) (hN : N ≤ 2100) (hc : n + 1 ≤ (xR X).cells) (hs : z + N ≤ (xR X).slots) (hd : decode cc pc = .ok (.newarray .int, 2)) {a : Nat} (ha : es.length = a) (kk : bOK X Q (n + 1) (z + N) (pc + 2) ls (vR a :: st) (es ++ [.inr (0, N, [])])) : bOK X Q n z pc ls (vI x :: st) es :=
  b_newa hX (t := 0) (aT := .int) (ty := .int) rfl hw rfl (fun h => h) rfl hx hN (by decide) hc hs hd ha kk
theorem b_newZ (hX : slCx X own cc) {N : Nat} {x : Int} (hw : Cond.arrayClass .boolean ∈ lw_tbl) (hx : x = (N : Int)) (hN : N ≤ 2100) (hc : n + 1 ≤ (xR X).cells) (hs : z + N ≤ (xR X).slots) (hd : decode cc pc = .ok (.newarray .boolean, 2)) {a : Nat} (ha : es.length = a) (kk : bOK X Q (n + 1) (z + N) (pc + 2) ls (vR a :: st) (es ++ [.inr (1, N, [])])) : bOK X Q n z pc ls (vI x :: st) es :=
  b_newa hX (t := 1) (aT := .boolean) (ty := .boolean) rfl hw rfl (fun h => h) rfl hx hN (by decide) hc hs hd ha kk
theorem b_newJ (hX : slCx X own cc) {N : Nat} {x : Int} (hw : Cond.arrayClass .long ∈ lw_tbl) (hx : x = (N : Int)) (hN : N ≤ 2100) (hc : n + 1 ≤ (xR X).cells) (hs : z + N ≤ (xR X).slots) (hd : decode cc pc = .ok (.newarray .long, 2)) {a : Nat} (ha : es.length = a) (kk : bOK X Q (n + 1) (z + N) (pc + 2) ls (vR a :: st) (es ++ [.inr (2, N, [])])) : bOK X Q n z pc ls (vI x :: st) es :=
  b_newa hX (t := 2) (aT := .long) (ty := .long) rfl hw rfl (fun h => h) rfl hx hN (by decide) hc hs hd ha kk
theorem b_new (hX : slCx X own cc) {r N idx : Nat} {fs : List bV} (hw : bNw own idx r N fs) (hc : n + 1 ≤ (xR X).cells) (hs : z + N ≤ (xR X).slots) (hd : decode cc pc = .ok (.new idx, 3)) {a : Nat} (ha : es.length = a) (kk : bOK X Q (n + 1) (z + N) (pc + 3) ls (vR a :: st) (es ++ [.inl (r, fs)])) : bOK X Q n z pc ls st es := by
  intro H locs lsA h1 h2 h3
  subst ha
  obtain ⟨C, T, ty, ⟨c1, c2, c3, c4, c5, c6⟩, ⟨w1, w2, w3⟩, hfs⟩ := hw
  have hKn := (slK hX).1 r _ c1
  have hts := slWords hX c4 (a' := xa X)
  refine W.newcK hX.1 hX.2.1 hX.2.2.1 (slWord hX w1 rfl) (slWord hX w2 rfl) (slWord hX w3 rfl) rfl hd hc hs hKn.2.1 h1.1 fun H1 kC hkC e1 z1 o1 => ?_
  refine kk H1 locs lsA (h1.push (by rw [z1, h1.1]) (fun q hq => o1 q (by rw [← h1.1]; exact hq)) ?_) ⟨Nat.le_trans h2.1 (by rw [z1, h1.1]; omega), fun q g1 g2 => (o1 q (by rw [← h1.1]; exact Nat.lt_of_lt_of_le g1 h2.1)).trans (h2.2.1 q g1 g2), h2.2.2⟩ h3
  have hb := (u_born ty hts (fun _ h => h) hKn hkC e1 c5).to (fun j hj => ((hfs j hj).2.trans (bI0_ne (b := slBase (xG X)) (hfs j hj).1).symm : _ = bI (xG X) (fs.getD j vN)))
  show t_OB _ ((slDm (xG X)).1 r) (slR r).2.1 ((slDm (xG X)).2 r) H1 _
  rw [c3]
  exact hb
theorem bUpd {G : slG} {fs : List bV} {k : Nat} (hk : k < fs.length) (v : bV) (j : Nat) : updV (fun q => bI G (fs.getD q vN)) k (bI G v) j = bI G ((fs.set k v).getD j vN) := by
  by_cases h : j = k
  · subst h
    simp [updV, hk]
  · simp [updV, h, List.getElem?_set, Ne.symm h]
theorem b_put (hX : slCx X own cc) (hin : (xh X).name = "<init>") {r k idx k0 : Nat} {v : bV} {t : FieldType} {fs : List bV} (hF : bFd own idx r k t) (hd : decode cc pc = .ok (.putfield idx, 3)) (hn : narrow t (bI (xG X) v) = bI (xG X) v) (hfit : fits t (bI (xG X) v) = true) (he : es[k0]? = some (.inl (r, fs))) (hl : k < fs.length) (hs : es.set k0 (.inl (r, fs.set k v)) = es') (kk : bOK X Q n z (pc + 3) ls st es') : bOK X Q n z pc ls (v :: vR k0 :: st) es := by
  intro H locs lsA h1 h2 h3
  subst hs
  obtain ⟨C, T, N, ty, ⟨c1, c2, c3, c4, c5, c6⟩, hk, hlk, hdc, rfl⟩ := hF
  obtain ⟨cell, q1, q2, q3, q4⟩ : t_OB (slBase (xG X) + k0) ((slDm (xG X)).1 r) (slR r).2.1 ((slDm (xG X)).2 r) H (fun q => bI (xG X) (fs.getD q vN)) := h1.2 k0 _ he
  rw [c3] at q4
  have hK := slK hX
  obtain ⟨hS, hfc, kC, hkC, hkind⟩ := hK.1 r _ c1
  obtain ⟨cf, kf, fi, f, hi, hsl⟩ := hS k hk
  have hts := slWords hX c4 (a' := xa X)
  have hap := va_apart (own := own) hts (fun _ h => h) ty c5 c6 hK c1
  have hlay := hts _ (u_in_lay hk)
  have hst := (u_facts hfc hkC (u_lays hts (fun _ h => h) hk) hi).1
  have fin : ∀ H' : Heap, H'[slBase (xG X) + k0]? = some (cell.setSlot f.slot (bI (xG X) v)) → H'.size = H.size → (∀ q, q ≠ slBase (xG X) + k0 → H'[q]? = H[q]?) → W (xp X) (slL (xG X)) (xe X) (xR X) (xs X) (xm X) (xa X) (xb X) (xh X) (xc X) H' (locs ++ [⟨slBase (xG X) + k0, f.slot⟩]) n z Q (F0 (xm X) (pc + 3) lsA (st.map (bI (xG X)))) := by
    intro H' e1 e2 e3
    refine kk H' _ lsA (h1.set he e2 e3 ?_) (h2.put e2 e3 (Nat.le_add_right _ _)) h3
    rw [hsl] at e1
    show t_OB (slBase (xG X) + k0) ((slDm (xG X)).1 r) (slR r).2.1 ((slDm (xG X)).2 r) H' (fun q => bI (xG X) ((fs.set k v).getD q vN))
    rw [c3]
    exact t_OB.to (V := updV (fun q => bI (xG X) (fs.getD q vN)) k (bI (xG X) v)) ⟨_, e1, q2, q3, t_set q4 hap hk _⟩ (fun j _ => bUpd hl v j)
  unfold u_lay at hlay
  by_cases hfin : (T k).2.2.2 = true
  · rw [if_pos hfin] at hlay
    have hcf : (xm X).cls = cf := by
      obtain ⟨_, _, c', _, _, _, -, -, hf', -, -, -, hown2, -⟩ := Cond.laysFinal_spec hlay
      have e1 : c' = cf := by have := hi.symm.trans hf'; simp at this; exact this.1.symm
      rw [hdc] at hown2
      rw [← e1]; exact Option.some.inj (hX.2.2.1.symm.trans hown2)
    have h6 := u_fits hfc hkC hkind (Or.inr hlay) hi (c5 k hk) hn hfit
    exact W.putFinK hX.1 hX.2.1 hX.2.2.1 (slWord hX hlk rfl) hi hst hcf hin (by rw [q2]; exact h6) q1 q3 (by rw [hsl]; exact k2_hasslot (q4 k hk)) rfl rfl hd fin
  · rw [if_neg hfin] at hlay
    have h6 := u_store hfc hkC hkind hlay hi (c5 k hk) hn hfit
    exact W.putK hX.1 hX.2.1 (f := f) ⟨hX.2.2.1, slWord hX hlk rfl, ⟨_, _, _, hi⟩, hst⟩ (by rw [q2]; exact h6) q1 q3 (by rw [hsl]; exact k2_hasslot (q4 k hk)) rfl rfl hd fin
theorem b_getf (hX : slCx X own cc) {r k idx k0 : Nat} {v : bV} {t : FieldType} {fs : List bV} (hF : bFd own idx r k t) (hd : decode cc pc = .ok (.getfield idx, 3)) (he : es[k0]? = some (.inl (r, fs))) (hv : fs.getD k vN = v) (kk : bOK X Q n z (pc + 3) ls (v :: st) es) : bOK X Q n z pc ls (vR k0 :: st) es := by
  intro H locs lsA h1 h2 h3
  obtain ⟨C, T, N, ty, ⟨c1, c2, c3, c4, c5, c6⟩, hk, hlk, hdc, rfl⟩ := hF
  obtain ⟨cell, q1, q2, q3, q4⟩ : t_OB (slBase (xG X) + k0) ((slDm (xG X)).1 r) (slR r).2.1 ((slDm (xG X)).2 r) H (fun q => bI (xG X) (fs.getD q vN)) := h1.2 k0 _ he
  rw [c3] at q4
  obtain ⟨hS, hfc, kC, hkC, hkind⟩ := (slK hX).1 r _ c1
  obtain ⟨cf, kf, fi, f, hi, hsl⟩ := hS k hk
  have hts := slWords hX c4 (a' := xa X)
  refine W.getf hX.1 hX.2.1 hX.2.2.1 (slWord hX hlk rfl) hi (u_facts hfc hkC (u_lays hts (fun _ h => h) hk) hi).1 q1 (by rw [q3]; exact fun h => by cases h) (v := bI (xG X) v) ?_ rfl rfl hd (kk H locs lsA h1 h2 h3)
  rw [hsl, q4 k hk]
  show some (bI (xG X) (fs.getD k vN)) = _
  rw [hv]
theorem b_iast (hX : slCx X own cc) {k0 N j : Nat} {i x : Int} {us : List (Nat × Int)} (he : es[k0]? = some (.inr (0, N, us))) (hi : i = (j : Int)) (hj : j < N) (hN : N ≤ 2100) (hd : decode cc pc = .ok (.iastore, 1)) (hs : es.set k0 (.inr (0, N, (j, x) :: us)) = es') (kk : bOK X Q n z (pc + 1) ls st es') : bOK X Q n z pc ls (vI x :: vI i :: vR k0 :: st) es := by
  intro H locs lsA h1 h2 h3
  subst hs hi
  have hc : H[slBase (xG X) + k0]? = some (arrV (slCA (xG X) 0) N (fun q => .int (Int32.ofInt (bLk us q)))) := h1.2 k0 _ he
  have hcl : (Int32.ofInt (j : Int)).toNatClampNeg = j := by rw [sl_cl (by omega) (by omega)]; omega
  refine W.iast hX.1 hX.2.1 hc (((slK hX).2 0 _ rfl).1 N _) (fun q => by cases q) (by rw [arrV_size]; exact sl_in (j := (j : Int)) (by omega) (by omega) hN) rfl rfl hd fun H1 e y oq => ?_
  refine kk H1 _ lsA (h1.set he y oq ?_) (h2.put y oq (Nat.le_add_right _ _)) h3
  show H1[slBase (xG X) + k0]? = some (arrV (slCA (xG X) 0) N (fun q => .int (Int32.ofInt (bLk ((j, x) :: us) q))))
  rw [e, arrV_store, hcl]
  congr 2
  funext q
  by_cases hq : q = j
  · simp [updV, bLk, hq]
  · simp [updV, bLk, hq]
theorem b_vret (hX : slCx X own cc) (hB : bBd X d mc ms) (hd : decode cc pc = .ok (.return_, 1)) (hn : n ≤ mc) (hz : z ≤ ms) (he : es = es') : bOK X (bQ X es' mc ms) n z pc ls [] es := by
  intro H locs lsA h1 h2 h3
  subst he
  obtain ⟨-, hr, hlk, -, -⟩ := hB
  refine W.widen hn hz ?_
  exact W.vret hX.1 hX.2.1 hr (fun t ht hW => ⟨rfl, by rw [ht]; exact h1, h2.F ht⟩) h2.2.2 hd hlk
theorem bPc_blind {G : slG} {a : Nat} : FrameBlind (bPc G a es) := fun a U g mk h => h
theorem bPc_pre (hX : slCx X own cc) {a : Nat} {H : Heap} {locs : List Loc} (h1 : bAt (xG X) es H) (h2 : va_S (slA (xG X)) (xs X).heap H locs) : ∀ U : State, U.heap = H → (xs X).WarmedH U.vm → bPc (xG X) a es (Value.ref (slBase (xG X) + a) :: []).toArray U := by
  intro U hU hW
  refine ⟨rfl, State.WarmedH.trans hX.2.2.2.2.1 hW, ?_, fun q hq => ?_, by rw [hU]; exact h1⟩
  · rw [hU]
    exact Nat.le_trans hX.2.2.2.2.2.1 h2.1
  · rw [hU, h2.2.1 q (Nat.lt_of_lt_of_le hq hX.2.2.2.2.2.1) (by intro h; exact absurd hq (Nat.not_lt.mpr h))]
    exact hX.2.2.2.2.2.2 q hq
/-- behind a constructor -/
theorem bAfter (hX : slCx X own cc) {m2 s2 : Nat} {H : Heap} {locs : List Loc} {lsA : Array Slot} {av : Array Value} {st0 : List Value} (h2 : va_S (slA (xG X)) (xs X).heap H locs) (h3 : lv_has lsA (xc X).maxLocals ls)
    (hr : va_Run (xp X) (slL (xG X)) (xe X) (xR X) (xs X) (xm X) (xa X) (xb X) (xh X) (xc X) H locs n z m2 s2 (F0 (xm X) pc lsA st0) (st.map (bI (xG X))) (bQc (xG X) es' av) (slA (xG X))) (kk : bOK X Q (n + m2) (z + s2) (pc + 3) ls st es') :
    W (xp X) (slL (xG X)) (xe X) (xR X) (xs X) (xm X) (xa X) (xb X) (xh X) (xc X) H locs n z Q (F0 (xm X) pc lsA st0) := by
  intro T hT S
  obtain ⟨v, st₀, t, T', L, h0, X', hL, e1, e2, ⟨hv, hB, hF⟩, go⟩ := hr T hT S
  cases hv
  have hS := slBack hX h2 h0 e1 hL hF
  obtain ⟨t2, a1, b1⟩ := kk T'.heap (locs ++ L) lsA (by rw [e1]; exact hB) hS h3 T' rfl X'
  exact ⟨t2, go t2 a1, b1⟩
theorem bWs (hX : slCx X own cc) {y : MethodName} {bytes : ByteArray} (h : Cond.code y bytes 1 none ∈ lw_tbl) : ∀ w ∈ [Cond.code y bytes 1 none], ∀ (a' : Array Value) (U : State), (xs X).WarmedH U.vm → w.before a' U = true := by
  intro w hw a' U hW
  rw [List.mem_singleton.mp hw]
  exact word_at hW (good_of_word rfl) (slWord hX h rfl (a' := xa X))
theorem b_callN (hX : slCx X own cc) {y : MethodName} {bytes : ByteArray} {host : String} {idx a d2 m2 s2 : Nat} (hS : bSi (Cond.methodLinkNest own idx y host) y bytes) (hf : d2 + 1 ≤ (xR X).frames) (hlo : 60 * (d2 + 1) ≤ (xR X).locals) (hc : n + m2 ≤ (xR X).cells) (hs : z + s2 ≤ (xR X).slots) (hst : ((st.map (bI (xG X))).map fun v => v.category).sum ≤ 8) (hd : decode cc pc = .ok (.invokespecial idx, 3))
    (hC : bCall (xG X) y bytes d2 m2 s2 a es es') (kk : bOK X Q (n + m2) (z + s2) (pc + 3) ls st es') : bOK X Q n z pc ls (vR a :: st) es := by
  intro H locs lsA h1 h2 h3
  obtain ⟨s1, s2', s3, ⟨s4, s5, s6⟩, s7, s8⟩ := hS
  refine bAfter hX h2 h3 (va_runIN (As := []) (b := slBase (xG X) + a) (Ts := []) (host := host) (maxL := 1) (n := 0) ⟨hX.1, hX.2.1, rfl, hX.2.2.1, fun w h => nomatch h⟩ hC ⟨⟨⟨rfl, rfl, hf, by show 8 + (1 + 11) + 60 * d2 ≤ _; omega, bWs hX s3, List.mem_cons_self⟩, slWord hX s3 rfl, slWord hX s2' rfl, ⟨s4, s5⟩, fun sig h => ?_, slWordX hX s1 rfl⟩, s7, slWord hX s8 rfl⟩ ⟨bPc_blind, bPc_pre hX h1 h2⟩ rfl rfl h3.1 rfl (lv_room hst) hd ⟨hc, hs⟩) kk
  rw [h] at s6
  exact (Option.some.inj s6).symm
theorem b_callI (hX : slCx X own cc) {y : MethodName} {bytes : ByteArray} {idx a d2 m2 s2 : Nat} (hS : bSi (Cond.methodLink own idx y) y bytes) (hf : d2 + 1 ≤ (xR X).frames) (hlo : 60 * (d2 + 1) ≤ (xR X).locals) (hc : n + m2 ≤ (xR X).cells) (hs : z + s2 ≤ (xR X).slots) (hst : ((st.map (bI (xG X))).map fun v => v.category).sum ≤ 8) (hd : decode cc pc = .ok (.invokespecial idx, 3))
    (hC : bCall (xG X) y bytes d2 m2 s2 a es es') (kk : bOK X Q (n + m2) (z + s2) (pc + 3) ls st es') : bOK X Q n z pc ls (vR a :: st) es := by
  intro H locs lsA h1 h2 h3
  obtain ⟨s1, s2', s3, ⟨s4, s5, s6⟩, s7, s8⟩ := hS
  refine bAfter hX h2 h3 (va_runI (As := []) (b := slBase (xG X) + a) (Ts := []) (maxL := 1) (n := 0) ⟨hX.1, hX.2.1, rfl, hX.2.2.1, fun w h => nomatch h⟩ hC ⟨⟨rfl, rfl, hf, by show 8 + (1 + 11) + 60 * d2 ≤ _; omega, bWs hX s3, List.mem_cons_self, slWord hX s3 rfl, slWord hX s2' rfl, ⟨s4, s5⟩, fun sig h => ?_, slWord hX s1 rfl⟩, s7, slWord hX s8 rfl⟩ ⟨bPc_blind, bPc_pre hX h1 h2⟩ rfl rfl h3.1 rfl (lv_room hst) hd ⟨hc, hs⟩) kk
  rw [h] at s6
  exact (Option.some.inj s6).symm
end Build
/-! places in a list E, whose cell k is under way, and what was made behind it -/
theorem bLen {E cs : List bE} {k j : Nat} {x : bE} (hj : cs.length = j) : (E.set k x ++ cs).length = E.length + j := by
  rw [List.length_append, List.length_set, hj]
theorem bGet {E cs : List bE} {k : Nat} {x : bE} (hk : k < E.length) : (E.set k x ++ cs)[k]? = some x := by
  rw [List.getElem?_append_left (by rw [List.length_set]; exact hk), List.getElem?_set_self hk]
theorem bSet {E cs : List bE} {k : Nat} {x y : bE} (hk : k < E.length) : (E.set k x ++ cs).set k y = E.set k y ++ cs := by
  rw [List.set_append_left _ _ (by rw [List.length_set]; exact hk), List.set_set]
theorem bGetR {E cs : List bE} {k j : Nat} {x y : bE} (hj : cs[j]? = some y) : (E.set k x ++ cs)[E.length + j]? = some y := by
  rw [List.getElem?_append_right (by rw [List.length_set]; omega), List.length_set, Nat.add_sub_cancel_left, hj]
theorem bSetR {E cs : List bE} {k j : Nat} {x y : bE} : (E.set k x ++ cs).set (E.length + j) y = E.set k x ++ cs.set j y := by
  rw [List.set_append_right _ _ (by rw [List.length_set]; omega), List.length_set, Nat.add_sub_cancel_left]
theorem bSet0 {E : List bE} {k : Nat} {x : bE} (he : E[k]? = some x) : E = E.set k x ++ [] := by
  rw [List.append_nil]
  apply List.ext_getElem?
  intro i
  by_cases h : i = k
  · subst h
    rw [List.getElem?_set_self (List.getElem?_eq_some_iff.mp he).1, he]
  · rw [List.getElem?_set_ne (fun q => h q.symm)]
theorem bSub {G : slG} {y : MethodName} {bytes : ByteArray} {d mc ms : Nat} {E cs : List bE} {k j L r : Nat} {x e0 : bE} {F : Nat → List bV} {Nn : Nat → List bE} (hC : ∀ (E' : List bE) (k' : Nat), E'[k']? = some e0 → bCall G y bytes d mc ms k' E' (E'.set k' (.inl (r, F E'.length)) ++ Nn E'.length)) (hj : cs[j]? = some e0) (hl : cs.length = L) :
    bCall G y bytes d mc ms (E.length + j) (E.set k x ++ cs) (E.set k x ++ (cs.set j (.inl (r, F (E.length + L))) ++ Nn (E.length + L))) := by
  have h := hC (E.set k x ++ cs) (E.length + j) (bGetR hj)
  rw [bLen hl, bSetR, List.append_assoc] at h
  exact h
theorem bAs {X : slX} {Q : State → Prop} {n z pc : Nat} {ls : List (Nat × Value)} {st : List bV} {a b c : List bE} (h : bOK X Q n z pc ls st (a ++ (b ++ c))) : bOK X Q n z pc ls st (a ++ b ++ c) := by
  rw [List.append_assoc]
  exact h
theorem bL0 : ([] : List bE).length = 0 := rfl
theorem bLc {cs : List bE} {x : bE} {j : Nat} (h : cs.length = j) : (cs ++ [x]).length = j + 1 := by rw [List.length_append, h]; rfl
theorem bLs {cs nn : List bE} {y : bE} {i L m : Nat} (h : cs.length = L) (hn : nn.length = m) : (cs.set i y ++ nn).length = L + m := by rw [List.length_append, List.length_set, h, hn]
theorem bLx {cs : List bE} {y : bE} {i L : Nat} (h : cs.length = L) : (cs.set i y).length = L := by rw [List.length_set, h]
theorem gL {cs : List bE} {x : bE} {j : Nat} (h : cs.length = j) : (cs ++ [x])[j]? = some x := by
  rw [List.getElem?_append_right (by omega), h, Nat.sub_self]
  rfl
theorem gA {cs : List bE} {x y : bE} {j : Nat} (h : cs[j]? = some y) : (cs ++ [x])[j]? = some y := by
  rw [List.getElem?_append_left (List.getElem?_eq_some_iff.mp h).1, h]
theorem gdE {l : List bV} {v : bV} {j : Nat} (h : j < l.length) : (l.set j v).getD j vN = v := by
  simp [h]
theorem gdN {l : List bV} {v w : bV} {i j : Nat} (h : i ≠ j) (hl : l.getD j vN = w) : (l.set i v).getD j vN = w := by
  rw [List.getD_eq_getElem?_getD, List.getElem?_set_ne h, ← List.getD_eq_getElem?_getD]
  exact hl
