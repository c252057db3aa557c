/-! ===== methods with handlers (the law's own), and the law ===== -/
def slCallH (G : slG) (M : slMt) (hh : List (Nat × Nat × Nat × Nat)) (d K : Nat) (av : List slV) (σ : slM) (Φ : slPost) : Prop :=
  slAll av → vx_Met (slL G) M.1 [Cond.codeWith M.1 M.2.1 M.2.2.1 M.2.2.2 hh] (slRm d K) (slPc G av σ) (slQc G M.2.2.2 Φ) (slXC G Φ) K (6 * K) (slA G)
def slBdH (X : slX) (ret : Option FieldType) (nL d K : Nat) (hh : List (Nat × Nat × Nat × Nat)) : Prop := (xh X).sig.returnType = ret ∧ (xh X).locks = false ∧ (xc X).exceptionTable.toList = tableOf hh ∧ (xc X).maxLocals = nL ∧ xR X = slRm d K ∧ xn X = 0 ∧ xz X = 0
theorem slBdH.room {X : slX} {ret : Option FieldType} {nL d K : Nat} {hh : List (Nat × Nat × Nat × Nat)} (h : slBdH X ret nL d K hh) : slRoom X d K := by
  obtain ⟨-, -, -, -, h1, h2, h3⟩ := h
  rw [slRoom, h1, h2, h3]
  simp [slRm]
set_option maxHeartbeats 4000000 in
theorem slCallH.of {G : slG} (hG : slGood G) {M : slMt} {own : String} {hh : List (Nat × Nat × Nat × Nat)} {d K : Nat} {av : List slV} {σ : slM} {Φ : slPost} (hy : plainName M.1.cls = true) (hown : M.1.cls = own) (hnl : slNoL av = true) (hlen : av.length ≤ M.2.2.1)
    (body : ∀ X : slX, slCx X own M.2.1 → xG X = G → slBdH X M.2.2.2 M.2.2.1 d K hh → slOK X (slQ X M.2.2.2 Φ K) 0 0 (slEnt av M.2.2.1) [] σ) : slCallH G M hh d K av σ Φ := by
  intro hall
  obtain ⟨y, cc, maxL, ret⟩ := M
  refine vx_ofWH (cc := cc) (maxL := maxL) (ret := ret) (hh := hh) hy rfl ?_
  intro p e s m args below meth c s₁ B hml hv
  have hex := vx_table (x := y) B (atoms_spec (ws := [Cond.codeWith y cc maxL ret hh]) B.pre _ List.mem_cons_self)
  obtain ⟨rfl, hW, hz, hq, hR⟩ := hv
  have hown' : s.vm.findClass own = some m.cls := by rw [← hown]; exact findClass_of_methodNamed B.named
  have k := body (G, p, e, slRm d K, s, m, (av.map (slD G)).toArray, below, meth, c, (0, 0)) ⟨B.exec, B.bytes, hown', hG, hW, hz, hq⟩ rfl ⟨B.returns, B.notSynchronized, hex, hml, rfl, rfl, rfl⟩
  have hl := lv_entry (av.map (slD G)) (n := maxL) ?_
  · rw [lg_entry_eq]
    generalize (lg_sl (av.map (slD G)) ++ List.replicate (maxL - (lg_sl (av.map (slD G))).length) Slot.unset).toArray = lsA at hl ⊢
    refine k s.heap [] lsA hR va_S.rf ⟨by show lsA.size = c.maxLocals; rw [hml]; exact hl.1, hl.2.1, fun i v hi => ?_⟩ trivial
    have h2 := slAtL_ent av _ i v hi
    have h3 := hl.2.2 _ (slArgs (G := G) av 0 hnl i v h2)
    rw [Nat.zero_add] at h3
    exact ⟨slAll_mem hall h2, h3⟩
  · have : ∀ (l : List slV), slNoL l = true → (lg_sl (l.map (slD G))).length = l.length := by
      intro l
      induction l with
      | nil => intro _; rfl
      | cons a t ih =>
        intro h
        rcases a with x | x | x
        · simpa [lg_sl, Value.category, slD] using ih h
        · simp [slNoL] at h
        · simpa [lg_sl, Value.category, slD] using ih h
    rw [this av hnl]
    exact hlen
section Han9
variable {X : slX} {u pc K d nL d' K' n idx : Nat} {ls : List (Option slV)} {st stk : List slV} {σ : slM} {own : String} {cc : ByteArray} {M : slMt} {Φ : slPost} {ret : Option FieldType} {A : Int → slM → Prop} {Q : State → Prop} {hh : List (Nat × Nat × Nat × Nat)}
theorem st_iretH (hX : slCx X own cc) (hB : slBdH X (some .int) nL d K hh) (hu : u ≤ K) {v : Int} (hd : decode cc pc = .ok (.ireturn, 1)) (h : Φ (0, v) σ) : slOK X (slQ X (some .int) Φ K) u pc ls [sI v] σ := by
  intro H locs lsA h1 h2 h3 h4
  obtain ⟨hr, hlk, -, -, -, hn, hz⟩ := hB
  refine W.widen (k := K) (n := 6 * K) (by omega) (by omega) (vx_ret ?_)
  exact W.iret (v := Int32.ofInt v) hX.1 hX.2.1 hr (fun t ht hW => ⟨v, σ, h, rfl, by rw [ht]; exact h1, slFin h2 ht⟩) h2.2.2 hd hlk
/-- an int answered behind a handler: the exception's cell is let go -/
theorem st_hret (hX : slCx X own cc) (hB : slBdH X (some .int) nL d K hh) (hu : u ≤ K) {v : Int} {H : Heap} {locs : List Loc} {lsA : Array Slot} {hp : Nat} {q : Addr} (h1 : slRep (xG X) σ H) (h2 : va_S (slA (xG X)) (xs X).heap H locs) (h3 : lv_has lsA (xc X).maxLocals [])
    {j : Nat} (hj : j < (xc X).maxLocals) {ja : Nat} (ds : (∃ k : Fin 4, (k : Nat) = j ∧ decode cc hp = .ok (.astore_n k, 1) ∧ ja = 1) ∨ (decode cc hp = .ok (.astore j, 2) ∧ ja = 2)) (dc : decode cc (hp + ja) = .ok (.iconst v, 1)) (dr : decode cc (hp + ja + 1) = .ok (.ireturn, 1)) (h : Φ (0, v) σ) :
    W (xp X) (slL (xG X)) (xe X) (xR X) (xs X) (xm X) (xa X) (xb X) (xh X) (xc X) H locs (xn X + u) (xz X + 6 * u) (slQ X (some .int) Φ K) (F0 (xm X) hp lsA [.ref q]) := by
  obtain ⟨hr, hlk, -, -, -, hn, hz⟩ := hB
  have fin : ∀ (lsB : Array Slot), W (xp X) (slL (xG X)) (xe X) (xR X) (xs X) (xm X) (xa X) (xb X) (xh X) (xc X) H locs (xn X + u) (xz X + 6 * u) (slQ X (some .int) Φ K) (F0 (xm X) (hp + ja) lsB []) := by
    intro lsB
    refine lv_iconst hX.1 hX.2.1 dc rfl ?_
    refine W.widen (k := K) (n := 6 * K) (by omega) (by omega) (vx_ret ?_)
    exact W.iret (v := Int32.ofInt v) hX.1 hX.2.1 hr (fun t ht hW => ⟨v, σ, h, rfl, by rw [ht]; exact h1, slFin h2 ht⟩) h2.2.2 dr hlk
  rcases ds with ⟨k, rfl, hd, rfl⟩ | ⟨hd, rfl⟩
  · exact lv_astore_n hX.1 hX.2.1 hd rfl h3 hj rfl (fun lsB _ => fin lsB)
  · exact lv_astore hX.1 hX.2.1 hd h3 hj rfl (fun lsB _ => fin lsB)
/-- caught by the first row of the table -/
theorem st_catch1 (hX : slCx X own cc) (hB : slBdH X (some .int) nL d K hh) (hu : u ≤ K) {k : Nat} {v : Int} {a b hp ct : Nat} {hs : List (Nat × Nat × Nat × Nat)} (he : hh = (a, b, hp, ct) :: hs) (hc : a ≤ pc ∧ pc < b) (h0 : ct ≠ 0) (hl : Cond.classLink own ct (slEx k) ∈ lw_tbl) (hcs : Cond.castable (slEx k) (slEx k) ∈ lw_tbl)
    {j : Nat} (hj : j < (xc X).maxLocals) {ja : Nat} (ds : (∃ k : Fin 4, (k : Nat) = j ∧ decode cc hp = .ok (.astore_n k, 1) ∧ ja = 1) ∨ (decode cc hp = .ok (.astore j, 2) ∧ ja = 2)) (dc : decode cc (hp + ja) = .ok (.iconst v, 1)) (dr : decode cc (hp + ja + 1) = .ok (.ireturn, 1)) (h : Φ (0, v) σ) : slOX X (slQ X (some .int) Φ K) u pc ls st σ k := by
  intro H locs lsA q ce h1 h2 h3 h4 hce hv hcl
  subst he
  have hex := hB.2.2.1
  refine vx_catch (own := own) (name := slEx k) (E := slEx k) (ce := ce) hX.2.2.1 [] ⟨a, b, hp, ct⟩ (tableOf hs) hex (fun z hz => nomatch hz) ?_ h0 (slWord hX hl rfl) (slWordX hX hcs rfl) hce hv hcl (st_hret hX hB hu h1 h2 ⟨h3.1, h3.2.1, fun q hq => nomatch hq⟩ hj ds dc dr h)
  simp [covers, hc.1, hc.2]
/-- by the second, past the first -/
theorem st_catch2 (hX : slCx X own cc) (hB : slBdH X (some .int) nL d K hh) (hu : u ≤ K) {v : Int} {a b hp ct a1 b1 hp1 ct1 : Nat} {hs : List (Nat × Nat × Nat × Nat)} (he : hh = (a1, b1, hp1, ct1) :: (a, b, hp, ct) :: hs) (h01 : ct1 ≠ 0) (hl1 : Cond.classLink own ct1 (slEx 1) ∈ lw_tbl) (hc : a ≤ pc ∧ pc < b) (h0 : ct ≠ 0) (hl : Cond.classLink own ct (slEx 2) ∈ lw_tbl) (hcs : Cond.castable (slEx 2) (slEx 2) ∈ lw_tbl)
    {j : Nat} (hj : j < (xc X).maxLocals) {ja : Nat} (ds : (∃ k : Fin 4, (k : Nat) = j ∧ decode cc hp = .ok (.astore_n k, 1) ∧ ja = 1) ∨ (decode cc hp = .ok (.astore j, 2) ∧ ja = 2)) (dc : decode cc (hp + ja) = .ok (.iconst v, 1)) (dr : decode cc (hp + ja + 1) = .ok (.ireturn, 1)) (h : Φ (0, v) σ) : slOX X (slQ X (some .int) Φ K) u pc ls st σ 2 := by
  intro H locs lsA q ce h1 h2 h3 h4 hce hv hcl
  subst he
  have hex := hB.2.2.1
  refine vx_catch (own := own) (name := slEx 2) (E := slEx 2) (ce := ce) hX.2.2.1 [⟨a1, b1, hp1, ct1⟩] ⟨a, b, hp, ct⟩ (tableOf hs) hex (fun z hz => ?_) ?_ h0 (slWord hX hl rfl) (slWordX hX hcs rfl) hce hv hcl (st_hret hX hB hu h1 h2 ⟨h3.1, h3.2.1, fun q hq => nomatch hq⟩ hj ds dc dr h)
  · rw [List.mem_singleton.mp hz]
    exact Or.inr ⟨h01, slEx 1, slWord hX hl1 rfl, va_Nc.moved hX.2.2.2.2.1.alike hX.2.2.2.1.2.2.2.2.2.2.2.2.2.2.2⟩
  · simp [covers, hc.1, hc.2]
theorem st_widen {u' : Nat} (h : u ≤ u') (kk : slOK X Q u' pc ls st σ) : slOK X Q u pc ls st σ := fun H locs lsA h1 h2 h3 h4 => W.widen (by omega) (by omega) (kk H locs lsA h1 h2 h3 h4)
end Han9
/-- a static method with handlers, linked at idx of own -/
def slSiteH (own : String) (idx : Nat) (M : slMt) (hh : List (Nat × Nat × Nat × Nat)) (n : Nat) : Prop :=
  Cond.methodLink own idx M.1 ∈ lw_tbl ∧ Cond.initialized M.1.cls ∈ lw_tbl ∧ Cond.codeWith M.1 M.2.1 M.2.2.1 M.2.2.2 hh ∈ lw_tbl ∧ (M.1.cls ≠ "java/lang/invoke/MethodHandle" ∧ M.1.cls ≠ "java/lang/invoke/VarHandle" ∧ (parseMethodDescriptor M.1.desc).map (fun d => d.parameters.length) = some n) ∧ M.2.2.1 ≤ 41 ∧ Cond.static M.1 ∈ lw_tbl
section CalH
variable {X : slX} {u pc K d nL d' K' n idx : Nat} {ls : List (Option slV)} {st stk : List slV} {σ : slM} {own : String} {cc : ByteArray} {M : slMt} {Ψ : slPost} {Q : State → Prop} {hh : List (Nat × Nat × Nat × Nat)}
theorem st_callH (hX : slCx X own cc) {As : List slV} (hS : slSiteH own idx M hh n) (hR : slRoom X d K) (hd' : d' + 1 ≤ d) (hu : u + K' ≤ K) (hn : As.length = n) (hst : slW st ≤ 8) (hd : decode cc pc = .ok (.invokestatic idx, 3))
    (hC : slCallH (xG X) M hh d' K' As σ Ψ) (kk : ∀ v τ, Ψ (0, v) τ → slOK X Q (u + K') (pc + 3) ls (slPush M.2.2.2 v st) τ) (kx : ∀ k τ, (k = 1 ∨ k = 2) → Ψ (k, 0) τ → slOX X Q (u + K') pc ls st τ k) : slOK X Q u pc ls (As.reverse ++ st) σ := by
  intro H locs lsA h1 h2 h3 h4
  obtain ⟨a1, a2⟩ := slAll_app.mp h4
  have a1 := slAll_rev.mp a1
  obtain ⟨s1, s2, s3, ⟨s4, s5, s6⟩, s7, s8⟩ := hS
  obtain ⟨r1, r2, r3, r4⟩ := hR
  have cw : vx_CSW (xR X) (xs X) (xa X) own idx M.1 M.2.1 M.2.2.1 M.2.2.2 hh [Cond.codeWith M.1 M.2.1 M.2.2.1 M.2.2.2 hh] (slRm d' K') K' (6 * K') n := by
    refine ⟨⟨rfl, rfl, by simp [slRm]; omega, by simp [slRm]; omega, fun w hw a' U hW => ?_, List.mem_cons_self⟩, slWord hX s3 rfl, slWord hX s2 rfl, ⟨s4, s5⟩, fun sig h => ?_, slWord hX s1 rfl, slWord hX s8 rfl⟩
    · rw [List.mem_singleton.mp hw]
      exact word_at hW (good_of_word rfl) (slWord hX s3 rfl (a' := xa X))
    · rw [h] at s6
      exact (Option.some.inj s6).symm
  refine slAfter hX h2 h3 a2 (a := (As.map (slD (xG X))).toArray) (vx_runSX (As := As.map (slD (xG X))) (Ts := []) ⟨hX.1, hX.2.1, rfl, hX.2.2.1, fun w h => nomatch h⟩ (hC a1) cw ⟨slPc_blind, slPc_pre hX h1 h2⟩ rfl (by rw [List.length_map]; exact hn) h3.1 ?_ (lv_room (by rw [slW_eq]; exact hst)) hd ⟨by omega, by omega⟩) kk kx
  rw [List.map_append, List.map_reverse]
end CalH
