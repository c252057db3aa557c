/-! ===== 'throw new E("text")' where E's constructor passes on at an index of its own (NoSuchElementException: 13); after the library's Stand.ctorThrowS, whose first link stands at 7 ===== -/
/-- the words of such a throw; Y is E's superclass, names those above it below Throwable -/
def slOwn (own : String) (ic : Nat) (E : String) (ix : Nat) (bytes : ByteArray) (Y : String) (names : List String) : List Cond :=
  (Bundle.throwableAtoms ++ Bundle.throwableSAtoms ++ Bundle.passSAtoms E Y ix bytes ++ Bundle.chainSAtoms Y names ++
  [.methodLink own ic (Bundle.initS E), .instantiable E 6, .castable E E, .selects E Bundle.tFill0 Bundle.tFill0, .selects E Bundle.tFill Bundle.tFill,
   .lays E Bundle.tN "cause" "Ljava/lang/Throwable;", .lays E Bundle.tN "stackTrace" Bundle.steD, .lays E Bundle.tN "suppressedExceptions" Bundle.listD, .lays E Bundle.tN "detailMessage" "Ljava/lang/String;",
   .fieldLink Bundle.tN 198 Bundle.tN "backtrace" "Ljava/lang/Object;", .lays Bundle.tN Bundle.tN "backtrace" "Ljava/lang/Object;", .lays E Bundle.tN "backtrace" "Ljava/lang/Object;"] : List Cond).filter vx_no
theorem slOwn_all {args : Array Value} {s : State} {own : String} {ic : Nat} {E : String} {ix : Nat} {bytes : ByteArray} {Y : String} {names : List String} (h : ∀ w ∈ slOwn own ic E ix bytes Y names, w.before args s = true)
    (lU : (Cond.laysStatic Bundle.tN "UNASSIGNED_STACK" Bundle.steD).before args s = true) (lN : (Cond.laysStatic Bundle.tN "SUPPRESSED_SENTINEL" Bundle.listD).before args s = true) (hU : (Cond.isRef (.static Bundle.tN "UNASSIGNED_STACK" Bundle.steD)).before args s = true) (hN : (Cond.isRef (.static Bundle.tN "SUPPRESSED_SENTINEL" Bundle.listD)).before args s = true) :
    ∀ w ∈ (Bundle.throwableAtoms ++ Bundle.throwableSAtoms ++ Bundle.passSAtoms E Y ix bytes ++ Bundle.chainSAtoms Y names ++
  [.methodLink own ic (Bundle.initS E), .instantiable E 6, .castable E E, .selects E Bundle.tFill0 Bundle.tFill0, .selects E Bundle.tFill Bundle.tFill,
   .lays E Bundle.tN "cause" "Ljava/lang/Throwable;", .lays E Bundle.tN "stackTrace" Bundle.steD, .lays E Bundle.tN "suppressedExceptions" Bundle.listD, .lays E Bundle.tN "detailMessage" "Ljava/lang/String;",
   .fieldLink Bundle.tN 198 Bundle.tN "backtrace" "Ljava/lang/Object;", .lays Bundle.tN Bundle.tN "backtrace" "Ljava/lang/Object;", .lays E Bundle.tN "backtrace" "Ljava/lang/Object;"] : List Cond), w.before args s = true := vx_own h hU hN lU lN
section Thr9
variable {p : Program} {l : Launch} {e : Env} {R : Room} {s : State} {m : MethodId} {args : Array Value} {below : List Frame} {meth : Method} {c : Code} {V : State} {locs : List Loc} {cells slots : Nat}
set_option maxHeartbeats 4000000 in
theorem sl_ctor (S : Stand p l e R s m args below meth c V [] cells slots) (hexec : p.tables.exec = Jvm.exec) (htr : e.platform.stackTraces = false) {own E Y : String} {names : List String} {ic ix : Nat} {bytes : ByteArray}
    (hown : s.vm.findClass own = some m.cls) (hE : Bundle.fit E = true) (hY : Bundle.fit Y = true) (hnames : ∀ n ∈ names, Bundle.fit n = true)
    (b0 : decode bytes 0 = .ok (.aload_n 0, 1)) (b1 : decode bytes 1 = .ok (.aload_n 1, 1)) (b2 : decode bytes 2 = .ok (.invokespecial ix, 3)) (b5 : decode bytes 5 = .ok (.return_, 1))
    (h : ∀ w ∈ slOwn own ic E ix bytes Y names, w.before args s = true) (hU : (Cond.isRef (.static Bundle.tN "UNASSIGNED_STACK" Bundle.steD)).before args s = true) (hN : (Cond.isRef (.static Bundle.tN "SUPPRESSED_SENTINEL" Bundle.listD)).before args s = true)
    (lU : (Cond.laysStatic Bundle.tN "UNASSIGNED_STACK" Bundle.steD).before args s = true) (lN : (Cond.laysStatic Bundle.tN "SUPPRESSED_SENTINEL" Bundle.listD).before args s = true)
    {a : Addr} {cX : ClassId} {kX : Class} (hfoundX : s.vm.findClass E = some cX) (hkX : s.vm.classes[cX]? = some kX) (hcell : V.heap[a]? = some (freshCell cX kX)) (hnew : s.heap.size ≤ a)
    {msg : Value} (hmsg : msg.isRef = true)
    {g : JFrame} (hg : g.method = m) (hsize : g.locals.size = c.maxLocals) (hlocked : g.locked = none) (hentered : g.entered = []) {rest : List Value} (hstack : g.stack = msg :: .ref a :: .ref a :: rest)
    (hd6 : decode c.code g.pc = .ok (.invokespecial ic, 3)) (hd9 : decode c.code (g.pc + 3) = .ok (.athrow, 1)) (hout : ∀ x ∈ c.exceptionTable.toList, covers x (g.pc + 3) = false)
    (hRframes : names.length + 4 < R.frames) (hRlocals : 2 * g.monitorRoom + ((Value.ref a :: rest).map fun v => v.category).sum + (13 * (names.length + 2) + 42) ≤ R.locals) (hlocks : meth.locks = false) :
    ∃ U : State, Steps p.tables e below (V.setTop g) U ∧ U.status = .running ∧ Ended U below (.threw a) ∧ s.WarmedH U.vm ∧ s.sameButNew ({ U with vm := s.vm } : State) [] cells slots ∧
      ∃ ce, U.heap[a]? = some ce ∧ s.vm.findClass E = some ce.cls ∧ ce.vm = .none := by
  have hh := slOwn_all h lU lN hU hN
  have howns : e.platform.frameOwnsMonitors = true := by rw [S.admits.platform]
  have hfin : e.platform.finalization = false := by rw [S.admits.platform]
  have hpl : e.platform.magicAccessors = ({} : Platform).magicAccessors := by rw [S.admits.platform]
  obtain ⟨T, Z0, L, -, Y0⟩ := ThrowableC.of_atoms (args := args) howns hfin hpl (fun x hx => hh x (by simp [hx]))
  obtain ⟨Z, M, LZ, LM, hnZ⟩ := Init0T.ofS_atoms (args := args) hpl L Y0 (fun x hx => hh x (by simp [hx]))
  obtain ⟨P1, L1, hP1m, hP1s⟩ := PassC.ofS_atoms (args := args) (s := s) hpl (X := E) (Y := Y) (Bundle.fit_spec hE).1 (Bundle.fit_spec hY).2 b0 b1 b2 b5 (fun x hx => hh x (by simp [hx]))
  obtain ⟨P2, Ps, hlen, L2, hL, hP2m, hlink1, hlink⟩ := Bundle.chainS (args := args) hpl hnZ names Y hY hnames (fun x hx => hh x (by simp [hx]))
  have hsup : P1.sup = P2.m := Option.some.inj (hP1s.symm.trans hP2m)
  have hfound : s.vm.findClass E = some P1.m.cls := findClass_of_methodNamed hP1m
  cases Option.some.inj (hfoundX.symm.trans hfound)
  obtain ⟨c1, kX', hc1, hk, hord, -, -, hn6⟩ := Cond.instantiable_spec (hh (.instantiable E 6) (by simp))
  cases Option.some.inj (hc1.symm.trans hfound)
  cases Option.some.inj (hkX.symm.trans hk)
  have hsel0 : selectMethod e.platform s.vm P1.m.cls T.fill0 = .method T.fill0 := by
    obtain ⟨c2, r2, m2, q1, q2, q3, q4, -⟩ := Cond.selects_spec (hh (.selects E Bundle.tFill0 Bundle.tFill0) (by simp))
    cases Option.some.inj (q1.symm.trans hfound)
    cases Option.some.inj (q2.symm.trans (State.methodFound?_of_named Y0.fill0 (by decide)))
    cases Option.some.inj (q3.symm.trans Y0.fill0)
    rw [Launch.admits_selectMethod S.admits]; exact q4
  have hselF : selectMethod e.platform s.vm P1.m.cls T.fill = .method T.fill := by
    obtain ⟨c2, r2, m2, q1, q2, q3, q4, -⟩ := Cond.selects_spec (hh (.selects E Bundle.tFill Bundle.tFill) (by simp))
    cases Option.some.inj (q1.symm.trans hfound)
    cases Option.some.inj (q2.symm.trans (State.methodFound?_of_named Y0.fill (by decide)))
    cases Option.some.inj (q3.symm.trans Y0.fill)
    rw [Launch.admits_selectMethod S.admits]; exact q4
  obtain ⟨cellS0, hcS0, hiss⟩ := Y0.statics
  obtain ⟨u0, hu0⟩ := Cond.staticRefV Y0.unassigned L.unassignedStatic L.statics hcS0 hiss hU
  obtain ⟨sen, hsen⟩ := Cond.staticRefV Y0.sentinel L.sentinelStatic L.statics hcS0 hiss hN
  obtain ⟨ci198, i198, fB, hk198, hg198, ha198, hsB, -, hnB, htB, hffB⟩ := Cond.ownField (t := .object "java/lang/Object") Y0.found L.cls (by decide +kernel) (hh (.fieldLink Bundle.tN 198 Bundle.tN "backtrace" "Ljava/lang/Object;") (by simp)) (hh (.lays Bundle.tN Bundle.tN "backtrace" "Ljava/lang/Object;") (by simp)) e.platform hpl
  obtain ⟨cellS, hcS', heS, -, hkeep⟩ := S.same.2.2.2.2.2 T.aS cellS0 hcS0
  have hcellS : V.heap[T.aS]? = some cellS := hcS'
  have hknownS : cellS.vm ≠ .unknown := by
    rw [heS]; intro hu
    rw [show cellS0.vm = .unknown from hu] at hiss
    cases hiss
  have hneS : T.aS ≠ a := Nat.ne_of_lt (Nat.lt_of_lt_of_le (Array.getElem?_eq_some_iff.mp hcS0).1 hnew)
  obtain ⟨iM, hffM⟩ := Y0.msg
  obtain ⟨tyC, dC, hdC, hdnC⟩ := Cond.laysAt hfound hk Y0.cause (hh (.lays E Bundle.tN "cause" "Ljava/lang/Throwable;") (by simp))
  obtain ⟨tyS, dS, hdS, hdnS⟩ := Cond.laysAt hfound hk Y0.stack (hh (.lays E Bundle.tN "stackTrace" Bundle.steD) (by simp))
  obtain ⟨tyP, dP, hdP, hdnP⟩ := Cond.laysAt hfound hk Y0.supp (hh (.lays E Bundle.tN "suppressedExceptions" Bundle.listD) (by simp))
  obtain ⟨tyM, dM, hdM, hdnM⟩ := Cond.laysAt hfound hk hffM (hh (.lays E Bundle.tN "detailMessage" "Ljava/lang/String;") (by simp))
  obtain ⟨tyB, dB, hdB, hdnB⟩ := Cond.laysAt hfound hk hffB (hh (.lays E Bundle.tN "backtrace" "Ljava/lang/Object;") (by simp))
  have bC := Cond.laysApart hdB hdC hdnB hdnC (by rw [hnB, Y0.causeName]; decide)
  have bS := Cond.laysApart hdB hdS hdnB hdnS (by rw [hnB, Y0.stackName]; decide)
  have bP := Cond.laysApart hdB hdP hdnB hdnP (by rw [hnB, Y0.suppName]; decide)
  have hskip : SkipFacts T e.platform s (fun u => u) u0 ((preparedCellV T.toThrowableT (freshCell P1.m.cls kX) a u0 sen).withEntry V.cur) :=
    ⟨{ ci198 := ci198, i198 := i198, fBack := fB }, ⟨hk198, hg198, ha198, hsB⟩, by
      have := fresh_default (c := P1.m.cls) tyB
      rw [htB] at this
      simpa [preparedCellV, Cell.setSlot, Cell.withEntry, Array.getElem?_setIfInBounds, bC, bS, bP, bC.symm, bS.symm, bP.symm, defaultValue] using this, fun _ _ => rfl⟩
  obtain ⟨tm, methC, cdC, kC, vm₁, hnC, -, -, -, -, -, -, -, hW₁, st1⟩ := Steps.initColdS (tb := p.tables) (e := e) (below := below) (s := s) (U := V) S.here hexec S.warmed hpl hown (t := Bundle.initS E) rfl rfl (Bundle.fit_spec hE).2
    (hh (.methodLink own ic (Bundle.initS E)) (by simp)) (hh (.instanceMethod (Bundle.initS E)) (by simp [Bundle.passSAtoms])) (bytes := bytes) (maxL := 2) (hh (.code (Bundle.initS E) bytes 2 none) (by simp [Bundle.passSAtoms]))
    (f := g) hg (a := a) (msg := msg) (rest := .ref a :: rest) hstack hd6
  cases Option.some.inj (hnC.symm.trans hP1m)
  have S₁ := S.noted hW₁
  obtain ⟨vm₂, S₂, st2⟩ := S₁.ctorMessageOffV hexec (g := { g with stack := .ref a :: rest }) hg hsize T L Z LZ M LM (P1 :: P2 :: Ps)
    (fun P hP => by
      rcases List.mem_cons.mp hP with rfl | hP
      · exact L1
      · rcases List.mem_cons.mp hP with rfl | hP
        · exact L2
        · exact hL P hP) ⟨hsup, hlink1, hlink⟩ (u0 := u0) (sen := sen) (self := a) hmsg (cell := freshCell P1.m.cls kX) (cellS := cellS)
    hcell (fun _ => by simp) (by simp) rfl rfl hsel0 hselF hcellS hneS hknownS (by rw [hkeep _ (by simp)]; exact hu0) (by rw [hkeep _ (by simp)]; exact hsen)
    (Takes.of_laid hk hord tyC (by rw [Y0.causeType]; rfl)) (Takes.of_laid hk hord tyS (by rw [Y0.stackType]; exact fits_refV_array _ u0)) (Takes.of_laid hk hord tyP (by rw [Y0.suppType]; exact fits_refV_object _ sen))
    (Takes.of_laid hk hord tyM (by rw [Y0.msgType]; exact fits_refV_object _ ⟨msg, hmsg⟩)) Y0.objLocals hskip htr [] hd6
    (by simp only [List.length_cons, hlen]; omega) (by simp only [List.length_cons, hlen]; exact hRlocals)
  obtain ⟨hwalk, hrun, hended, hWU, hsame⟩ := S₂.athrowLeaves hexec (g := { g with stack := .ref a :: rest, pc := g.pc + 3 }) hg hlocked hentered hout (a := a) (rest := rest) rfl hd9
  have hlt : a < ((V.setVm vm₁).setVm vm₂).heap.size := (Array.getElem?_eq_some_iff.mp hcell).1
  have hUc := heapAt_setCell_self (s := (V.setVm vm₁).setVm vm₂) (plainBareV T.toThrowableT (freshCell P1.m.cls kX) a u0 sen msg) hlt
  refine ⟨_, st1 _ (fun acts => ?_), hrun, hended, hWU, hsame.weaken (fun y hy hlt' => ?_) (Nat.le_refl _) (Nat.le_refl _), _, hUc, hfound, rfl⟩
  · rw [doInvoke_state]
    exact st2 _ hwalk
  · exfalso
    rcases List.mem_append.mp hy with h1 | h1
    · exact nomatch h1
    · have hb : y.base = a := by
        simp only [List.mem_cons, List.not_mem_nil, or_false] at h1
        rcases h1 with rfl | rfl | rfl | rfl | rfl <;> rfl
      rw [hb] at hlt'
      exact Nat.not_lt.mpr hnew hlt'
end Thr9
def slEi (k : Nat) : Nat := if k = 1 then 13 else 7
def slEb (k : Nat) : ByteArray := if k = 1 then prog_31_method_4_code else prog_20_method_2_code
/-- 'throw new E("text")' at ik, is, ic of own -/
def slThr (own : String) (ik is ic k r : Nat) (text : String) : Prop :=
  (∀ w ∈ Cond.classLink own ik (slEx k) :: Cond.initialized (slEx k) :: slOwn own ic (slEx k) (slEi k) (slEb k) "java/lang/RuntimeException" ["java/lang/Exception"], w ∈ lw_tbl ∧ wOk w = true ∧ vx_ot w = true) ∧ (own, is, text, r) ∈ slStrL
theorem slEb_ok : ∀ k, k = 1 ∨ k = 2 → decode (slEb k) 0 = .ok (.aload_n 0, 1) ∧ decode (slEb k) 1 = .ok (.aload_n 1, 1) ∧ decode (slEb k) 2 = .ok (.invokespecial (slEi k), 3) ∧ decode (slEb k) 5 = .ok (.return_, 1) := by
  rintro k (rfl | rfl) <;> decide +kernel
section Thr8
variable {X : slX} {u pc K d n idx : Nat} {ls : List (Option slV)} {st : List slV} {σ : slM} {own : String} {cc : ByteArray} {Q : State → Prop}
set_option maxHeartbeats 4000000 in
/-- the throw, whatever instruction of len bytes loads the text -/
theorem st_throwG (hX : slCx X own cc) {ret : Option FieldType} {nL ik is ic k r len : Nat} {text : String} {Φ : slPost} (hB : slBd X ret nL d K) (hd8 : 8 ≤ d) (hu : u + 1 ≤ K) (hk : k = 1 ∨ k = 2) (hst : slW st ≤ 8) (hT : slThr own ik is ic k r text)
    (d0 : decode cc pc = .ok (.new ik, 3)) (d3 : decode cc (pc + 3) = .ok (.dup, 1)) (d6 : decode cc (pc + 4 + len) = .ok (.invokespecial ic, 3)) (d9 : decode cc (pc + 4 + len + 3) = .ok (.athrow, 1))
    (hld : ∀ {R9 : Room} {s9 T9 : State} {cs9 sl9 : Nat} {L9 : List Loc} {stk : List Value} {lsA : Array Slot} (t9 : State), Stand (xp X) (slL (xG X)) (xe X) R9 s9 (xm X) (xa X) (xb X) (xh X) (xc X) T9 L9 cs9 sl9 → s9.vm.findClass own = some (xm X).cls → vk_R own is text (slAd (xG X) r 0) s9 →
      Steps (xp X).tables (xe X) (xb X) (T9.setTop { method := xm X, pc := pc + 4 + len, locals := lsA, stack := .ref (slAd (xG X) r 0) :: stk, locked := none }) t9 → Steps (xp X).tables (xe X) (xb X) (T9.setTop { method := xm X, pc := pc + 4, locals := lsA, stack := stk, locked := none }) t9)
    (h : Φ (k, 0) σ) : slOK X (slQ X ret Φ K) u pc ls st σ := by
  intro H locs lsA h1 h2 h3 h4 T hTH S
  obtain ⟨hr, hlk, hex, -, hR, hn, hz⟩ := hB
  obtain ⟨hw, hs⟩ := hT
  have hG := hX.2.2.2.1
  have hfit : Bundle.fit (slEx k) = true := by rcases hk with rfl | rfl <;> decide +kernel
  have htr : (xe X).platform.stackTraces = false := (show (xe X).platform.stackTraces = (slL (xG X)).stackTraces by rw [S.admits.platform]).trans hG.2.2.2.2.1
  have Y := vx_rebase S (R' := { frames := (xR X).frames, locals := (xR X).locals, cells := 1, slots := 6 }) (Nat.le_refl _) (Nat.le_refl _) (by rw [hR]; show xn X + u + 1 ≤ K; omega) (by rw [hR]; show xz X + 6 * u + 6 ≤ 6 * K; omega)
  obtain ⟨s', hA⟩ : ∃ z, z = (T.setVm (xs X).vm).setFrames (.invoking (xm X) (xa X) :: xb X) := ⟨_, rfl⟩
  rw [← hA] at Y
  have hvm : s'.vm = (xs X).vm := by rw [hA]; rfl
  have hhp : s'.heap = H := by rw [hA]; exact hTH
  have hW0 : (xs X).WarmedH s'.vm := by rw [hvm]; exact State.WarmedH.refl (xs X)
  have hwd : ∀ w ∈ Cond.classLink own ik (slEx k) :: Cond.initialized (slEx k) :: slOwn own ic (slEx k) (slEi k) (slEb k) "java/lang/RuntimeException" ["java/lang/Exception"], w.before (xa X) s' = true := fun w hw9 => vx_ot_at hW0 hvm.symm (hw w hw9).2.2 (slWordX hX (hw w hw9).1 (hw w hw9).2.1 (a' := xa X))
  have hk' := hwd _ List.mem_cons_self
  have hini' := hwd _ (List.mem_cons_of_mem _ List.mem_cons_self)
  have hat' := fun w hw9 => hwd w (List.mem_cons_of_mem _ (List.mem_cons_of_mem _ hw9))
  have hU' : vx_Zq Bundle.tN "UNASSIGNED_STACK" Bundle.steD (slA (xG X)) s' s'.heap := by rw [hhp]; exact vx_Zq.moved hW0.alike ((slZq hX hG.2.2.2.2.2.1).kept h2.2.1)
  have hN' : vx_Zq Bundle.tN "SUPPRESSED_SENTINEL" Bundle.listD (slA (xG X)) s' s'.heap := by rw [hhp]; exact vx_Zq.moved hW0.alike ((slZq hX hG.2.2.2.2.2.2.1).kept h2.2.1)
  have hown' : s'.vm.findClass own = some (xm X).cls := by rw [hvm]; exact hX.2.2.1
  have hins : (Cond.instantiable (slEx k) 6).before (xa X) s' = true := hat' _ (by
    unfold slOwn
    refine List.mem_filter.mpr ⟨by simp, by simp [vx_no]⟩)
  obtain ⟨vm₁, cX, kX, hfX, hkX, -, -, S₁, st1⟩ := Y.newCold hX.1 (own := own) (C := slEx k) (index := ik) (n := 6) hown' hk' hins hini' (g := F0 (xm X) pc lsA (st.map (slD (xG X)))) rfl (by rw [hX.2.1]; exact d0) (Nat.le_refl _) (Nat.le_refl _)
  generalize hT1 : (T.setVm vm₁).pushCell { cls := cX, slots := kX.instanceTypes.map defaultValue, vm := .none } = T1 at S₁ st1
  have hcat : (Value.ref T.heap.size).category = 1 := rfl
  have hcellA : T1.heap[T.heap.size]? = some (freshCell cX kX) := by rw [← hT1]; exact State.heap_pushCell_size _ _
  have d3' : decode (xc X).code (pc + 3) = .ok (.dup, 1) := by rw [hX.2.1]; exact d3
  have hstr' : vk_R own is text (slAd (xG X) r 0) s' := vk_R.warm hW0 (vk_R.warm hX.2.2.2.2.1 (hG.2.2.2.2.2.2.2.1 _ hs))
  obtain ⟨b0, b1, b2, b5⟩ := slEb_ok k hk
  have hsw := slW_eq (xG X) st
  obtain ⟨U, hsteps, hrun, hend, hW, hsame, ce, hce, hcl9, hvm9⟩ := sl_ctor S₁ hX.1 htr (own := own) (E := slEx k) (Y := "java/lang/RuntimeException") (names := ["java/lang/Exception"]) (ic := ic) (ix := slEi k) (bytes := slEb k) hown' hfit (by decide +kernel) (by decide +kernel) b0 b1 b2 b5 hat' (vx_isRefq hU'.1) (vx_isRefq hN'.1) hU'.2.word hN'.2.word hfX hkX hcellA (by rw [hhp, hTH]; exact Nat.le_refl _) (msg := .ref (slAd (xG X) r 0)) rfl
    (g := { method := xm X, pc := pc + 4 + len, locals := lsA, stack := .ref (slAd (xG X) r 0) :: .ref T.heap.size :: .ref T.heap.size :: st.map (slD (xG X)), locked := none }) rfl h3.1 rfl rfl (rest := st.map (slD (xG X))) rfl
    (by rw [hX.2.1]; exact d6) (by rw [hX.2.1]; exact d9) (fun x hx => (hex x hx).elim) (by rw [hR]; show 1 + 4 < d; omega) (by simp only [List.map_cons, List.sum_cons, hcat, hsw, hR]; show 2 * 0 + (1 + slW st) + (13 * (1 + 2) + 42) ≤ 60 * d; omega) hlk
  obtain ⟨f1, f2⟩ := vx_frame hsame
  rw [hhp] at f1 f2
  have hWs : (xs X).WarmedH U.vm := State.WarmedH.trans hW0 hW
  have hcl : (xs X).vm.findClass (slEx k) = some ce.cls := by rw [← hvm]; exact hcl9
  have hall : (xs X).sameButNew ({ U with vm := (xs X).vm } : State) locs K (6 * K) := by
    subst hA
    obtain ⟨e1, e2⟩ := hsame
    rw [State.setFrames_setFrames] at e1
    have g2 : (T.setVm (xs X).vm).sameButNew ({ U with vm := (xs X).vm } : State) [] (0 + 1) (0 + 6) := ⟨e1, e2⟩
    have g3 := S.same.trans g2
    rw [List.append_nil] at g3
    exact g3.mono (by omega) (by omega)
  refine ⟨U, ?_, .threw T.heap.size, hrun, hend, Or.inr ⟨T.heap.size, rfl, slEx k, ce, locs, ⟨k, σ, hk, h, rfl, ?_, ?_, ?_⟩, hce, hvm9, hcl, hWs, hall, h2.2.2⟩⟩
  · refine st1 _ ?_
    show Steps (xp X).tables (xe X) (xb X) (T1.setTop { method := xm X, pc := pc + 3, locals := lsA, stack := .ref T.heap.size :: st.map (slD (xG X)), locked := none }) _
    jvm_step S₁.here [S₁.here.top, hX.1, d3', Value.category]
    exact hld _ S₁ hown' hstr' hsteps
  · intro r9 i9 hi9
    by_cases h4 : (slR r9).1 < 4
    · exact slAt_congr (fun _ => rfl) (f2 _ (slAt_lt h4 (h1 r9 i9 hi9)) (fun z hz => nomatch hz)) (h1 r9 i9 hi9)
    · unfold slAt
      split <;> first | trivial | omega
  · exact Nat.le_trans h2.1 f1
  · intro q9 hq9 hA9
    rw [f2 q9 (Nat.lt_of_lt_of_le hq9 h2.1) (fun z hz => nomatch hz)]
    exact h2.2.1 q9 hq9 hA9
theorem st_throw (hX : slCx X own cc) {ret : Option FieldType} {nL ik is ic k r : Nat} {text : String} {Φ : slPost} (hB : slBd X ret nL d K) (hd8 : 8 ≤ d) (hu : u + 1 ≤ K) (hk : k = 1 ∨ k = 2) (hst : slW st ≤ 8) (hT : slThr own ik is ic k r text)
    (d0 : decode cc pc = .ok (.new ik, 3)) (d3 : decode cc (pc + 3) = .ok (.dup, 1)) (d4 : decode cc (pc + 4) = .ok (.ldc is, 2)) (d6 : decode cc (pc + 4 + 2) = .ok (.invokespecial ic, 3)) (d9 : decode cc (pc + 4 + 2 + 3) = .ok (.athrow, 1)) (h : Φ (k, 0) σ) : slOK X (slQ X ret Φ K) u pc ls st σ :=
  st_throwG (len := 2) hX hB hd8 hu hk hst hT d0 d3 d6 d9 (fun {R9 s9 T9 cs9 sl9 L9 stk lsA} t9 S9 ho hR9 hst9 => S9.ldcString hX.1 (own := own) (text := text) (index := is) ho hR9.1 hR9.2 (g := { method := xm X, pc := pc + 4, locals := lsA, stack := stk, locked := none }) rfl (by rw [hX.2.1]; exact d4) _ hst9) h
theorem st_throwW (hX : slCx X own cc) {ret : Option FieldType} {nL ik is ic k r : Nat} {text : String} {Φ : slPost} (hB : slBd X ret nL d K) (hd8 : 8 ≤ d) (hu : u + 1 ≤ K) (hk : k = 1 ∨ k = 2) (hst : slW st ≤ 8) (hT : slThr own ik is ic k r text)
    (d0 : decode cc pc = .ok (.new ik, 3)) (d3 : decode cc (pc + 3) = .ok (.dup, 1)) (d4 : decode cc (pc + 4) = .ok (.ldc_w is, 3)) (d6 : decode cc (pc + 4 + 3) = .ok (.invokespecial ic, 3)) (d9 : decode cc (pc + 4 + 3 + 3) = .ok (.athrow, 1)) (h : Φ (k, 0) σ) : slOK X (slQ X ret Φ K) u pc ls st σ :=
  st_throwG (len := 3) hX hB hd8 hu hk hst hT d0 d3 d6 d9 (fun {R9 s9 T9 cs9 sl9 L9 stk lsA} t9 S9 ho hR9 hst9 => S9.ldcStringW hX.1 (own := own) (text := text) (index := is) ho hR9.1 hR9.2 (g := { method := xm X, pc := pc + 4, locals := lsA, stack := stk, locked := none }) rfl (by rw [hX.2.1]; exact d4) _ hst9) h
end Thr8
/-! the throws of the class -/
set_option maxRecDepth 100000 in
theorem tw_1 : ∀ w ∈ Cond.classLink RX11 161 (slEx 1) :: Cond.initialized (slEx 1) :: slOwn RX11 165 (slEx 1) (slEi 1) (slEb 1) "java/lang/RuntimeException" ["java/lang/Exception"], w ∈ lw_tbl ∧ wOk w = true ∧ vx_ot w = true := by decide +kernel
set_option maxRecDepth 100000 in
theorem tw_2 : ∀ w ∈ Cond.classLink RX11 101 (slEx 2) :: Cond.initialized (slEx 2) :: slOwn RX11 105 (slEx 2) (slEi 2) (slEb 2) "java/lang/RuntimeException" ["java/lang/Exception"], w ∈ lw_tbl ∧ wOk w = true ∧ vx_ot w = true := by decide +kernel
theorem th_X11_161_103 : slThr RX11 161 103 165 1 107 "the tape has not so many bytes" := ⟨tw_1, by decide +kernel⟩
theorem th_X11_101_103 : slThr RX11 101 103 105 2 107 "the tape has not so many bytes" := ⟨tw_2, by decide +kernel⟩
theorem th_X11_161_163 : slThr RX11 161 163 165 1 125 "no such what" := ⟨tw_1, by decide +kernel⟩
theorem th_X11_101_163 : slThr RX11 101 163 105 2 125 "no such what" := ⟨tw_2, by decide +kernel⟩
theorem th_X11_161_389 : slThr RX11 161 389 165 1 126 "no such light" := ⟨tw_1, by decide +kernel⟩
theorem th_X11_101_389 : slThr RX11 101 389 105 2 126 "no such light" := ⟨tw_2, by decide +kernel⟩
theorem th_X11_161_391 : slThr RX11 161 391 165 1 127 "no such ship" := ⟨tw_1, by decide +kernel⟩
theorem th_X11_101_391 : slThr RX11 101 391 105 2 127 "no such ship" := ⟨tw_2, by decide +kernel⟩
theorem th_X11_161_393 : slThr RX11 161 393 165 1 128 "no such hour" := ⟨tw_1, by decide +kernel⟩
theorem th_X11_101_393 : slThr RX11 101 393 105 2 128 "no such hour" := ⟨tw_2, by decide +kernel⟩
theorem th_X11_161_395 : slThr RX11 161 395 165 1 129 "no such night" := ⟨tw_1, by decide +kernel⟩
theorem th_X11_101_395 : slThr RX11 101 395 105 2 129 "no such night" := ⟨tw_2, by decide +kernel⟩
theorem th_X11_161_399 : slThr RX11 161 399 165 1 130 "both are one" := ⟨tw_1, by decide +kernel⟩
theorem th_X11_101_399 : slThr RX11 101 399 105 2 130 "both are one" := ⟨tw_2, by decide +kernel⟩
theorem th_X11_161_284 : slThr RX11 161 284 165 1 131 "no such row of flashes" := ⟨tw_1, by decide +kernel⟩
theorem th_X11_101_284 : slThr RX11 101 284 105 2 131 "no such row of flashes" := ⟨tw_2, by decide +kernel⟩
theorem th_X11_161_286 : slThr RX11 161 286 165 1 132 "the row has more flashes" := ⟨tw_1, by decide +kernel⟩
theorem th_X11_101_286 : slThr RX11 101 286 105 2 132 "the row has more flashes" := ⟨tw_2, by decide +kernel⟩
theorem th_X11_161_397 : slThr RX11 161 397 165 1 133 "no such law" := ⟨tw_1, by decide +kernel⟩
theorem th_X11_101_397 : slThr RX11 101 397 105 2 133 "no such law" := ⟨tw_2, by decide +kernel⟩
theorem th_X11_161_334 : slThr RX11 161 334 165 1 134 "no such loss" := ⟨tw_1, by decide +kernel⟩
theorem th_X11_101_334 : slThr RX11 101 334 105 2 134 "no such loss" := ⟨tw_2, by decide +kernel⟩
theorem th_X11_161_340 : slThr RX11 161 340 165 1 135 "no such number of nights" := ⟨tw_1, by decide +kernel⟩
theorem th_X11_101_340 : slThr RX11 101 340 105 2 135 "no such number of nights" := ⟨tw_2, by decide +kernel⟩
