/-! ===== the JDK: arraycopy, string constants ===== -/
/-- n places of r0 i0 from sp on, laid into r1 i1 from dp on -/
def slCpy (σ : slM) (r0 i0 sp r1 i1 dp n : Nat) : slM := fun r i k => if (r = r1 ∧ i = i1) ∧ dp ≤ k ∧ k < dp + n then σ r0 i0 (sp + (k - dp)) else σ r i k
section Jdk9
variable {X : slX} {u pc K d nL d' K' n idx : Nat} {ls : List (Option slV)} {st stk : List slV} {σ : slM} {own : String} {cc : ByteArray} {M : slMt} {Φ : slPost} {ret : Option FieldType} {A : Int → slM → Prop} {Q : State → Prop}
set_option maxHeartbeats 4000000 in
theorem st_acopy (hX : slCx X own cc) (hS : slSiteC own idx) (hR : slRoom X d K) (hd1 : 2 ≤ d) (hst : slW st ≤ 8) (hd : decode cc pc = .ok (.invokestatic idx, 3)) {r0 i0 r1 i1 : Nat} {sp dp n : Int} (k0 : (slR r0).1 = 1) (k1 : (slR r1).1 = 1)
    (p1 : 0 ≤ sp) (p2 : 0 ≤ dp) (p3 : 0 ≤ n) (p4 : sp + n ≤ (slR r0).2.1) (p5 : dp + n ≤ (slR r1).2.1) (kk : slOK X Q u (pc + 3) ls st (slCpy σ r0 i0 sp.toNat r1 i1 dp.toNat n.toNat)) : slOK X Q u pc ls (sI n :: sI dp :: sR r1 i1 :: sI sp :: sR r0 i0 :: st) σ := by
  intro H locs lsA h1 h2 h3 h4
  have hi1 : i1 < (slR r1).2.2 := h4.2.2.1
  have hi0 : i0 < (slR r0).2.2 := h4.2.2.2.2.1
  obtain ⟨s1, s2, s3, s4⟩ := hS
  obtain ⟨q1, q2, q3, q4⟩ := hR
  have hc0 := (slAt_int k0).mp (h1 r0 i0 hi0)
  have hc1 := (slAt_int k1).mp (h1 r1 i1 hi1)
  have z0 := slR_small r0
  have z1 := slR_small r1
  have hsp : InR sp := ⟨by omega, by omega⟩
  have hdp : InR dp := ⟨by omega, by omega⟩
  have hn : InR n := ⟨by omega, by omega⟩
  have c1 := sl_cl p1 hsp.2
  have c2 := sl_cl p2 hdp.2
  have c3 := sl_cl p3 hn.2
  have neg : ∀ z : Int, 0 ≤ z → InR z → ¬ Int32.ofInt z < 0 := fun z hz hr q => absurd ((i32_lt hr (y := 0) ⟨by omega, by omega⟩).mp q) (by omega)
  have hk := ((slK hX).2 0 _ rfl).1
  intro T hT S
  obtain ⟨-, kk0, hk0, cm0, hkk0⟩ := hk (slR r0).2.1 (fun j => .int (Int32.ofInt (σ r0 i0 j)))
  obtain ⟨-, kk1, hk1, cm1, hkk1⟩ := hk (slR r1).2.1 (fun j => .int (Int32.ofInt (σ r1 i1 j)))
  have hw : nativeFrameWords "java/lang/System" "arraycopy" 5 ≤ 60 := by decide +kernel
  obtain ⟨vm', X', step⟩ := S.arraycopy hX.1 hX.2.2.1 (slWord hX s1 rfl) (slWord hX s2 rfl) (slWord hX s3 rfl) (slWord hX s4 rfl) (src := slAd (xG X) r0 i0) (dst := slAd (xG X) r1 i1) (cs := arrV (slCA (xG X) 0) (slR r0).2.1 (fun j => .int (Int32.ofInt (σ r0 i0 j)))) (cd := arrV (slCA (xG X) 0) (slR r1).2.1 (fun j => .int (Int32.ofInt (σ r1 i1 j)))) (srcPos := Int32.ofInt sp) (destPos := Int32.ofInt dp) (n := Int32.ofInt n) (by rw [hT]; exact hc0) (by rw [hT]; exact hc1)
    (fun _ h => by cases h) (fun _ h => by cases h) (fun h => by cases h) (fun h => by cases h) hk0 hk1 hkk0 hkk1 (by simp [refKind]) (neg _ p1 hsp) (neg _ p2 hdp) (neg _ p3 hn)
    (by rw [i32_to hsp, i32_to hn, arrV_size]; omega)
    (by rw [i32_to hdp, i32_to hn, arrV_size]; omega)
    (fun vm₁ _ i hi => by
      rw [c3] at hi
      have e : (arrV (slCA (xG X) 0) (slR r0).2.1 (fun j => .int (Int32.ofInt (σ r0 i0 j)))).slots.getD ((Int32.ofInt sp).toNatClampNeg + i) .null = .int (Int32.ofInt (σ r0 i0 ((Int32.ofInt sp).toNatClampNeg + i))) := by
        rw [Array.getD_eq_getD_getElem?, arrV_read _ _ (by rw [c1]; omega)]
        rfl
      refine ⟨?_, ?_⟩
      · rw [e]
        rfl
      · rw [e]
        exact trivial)
    (g := F0 (xm X) pc lsA (.int (Int32.ofInt n) :: .int (Int32.ofInt dp) :: .ref (slAd (xG X) r1 i1) :: .int (Int32.ofInt sp) :: .ref (slAd (xG X) r0 i0) :: st.map (slD (xG X)))) rfl (by rw [h3.1]) (rest := st.map (slD (xG X))) rfl (by rw [hX.2.1]; exact hd) (by omega) (by show 2 * 0 + _ + _ ≤ _; rw [slW_eq]; omega)
  have e1 : copied (arrV (slCA (xG X) 0) (slR r0).2.1 (fun j => .int (Int32.ofInt (σ r0 i0 j)))) (arrV (slCA (xG X) 0) (slR r1).2.1 (fun j => .int (Int32.ofInt (σ r1 i1 j)))) (Int32.ofInt sp) (Int32.ofInt dp) (Int32.ofInt n) = arrV (slCA (xG X) 0) (slR r1).2.1 (fun j => .int (Int32.ofInt (slCpy σ r0 i0 sp.toNat r1 i1 dp.toNat n.toNat r1 i1 j))) := by
    have e2 := va_copied (fun z : Int => Value.int (Int32.ofInt z)) (slCA (xG X) 0) (slCA (xG X) 0) (n0 := (slR r0).2.1) (n1 := (slR r1).2.1) (sp := (Int32.ofInt sp).toNatClampNeg) (dp := (Int32.ofInt dp).toNatClampNeg) (n := (Int32.ofInt n).toNatClampNeg) (σ r0 i0) (σ r1 i1) (by rw [c1, c3]; omega)
    refine e2.trans ?_
    congr 1
    funext j
    rw [c1, c2, c3]
    simp only [va_cpy, slCpy, true_and, and_self]
  rw [e1] at X' step
  have hl : slAd (xG X) r1 i1 < H.size := (Array.getElem?_eq_some_iff.mp hc1).1
  generalize hcell : arrV (slCA (xG X) 0) (slR r1).2.1 (fun j => .int (Int32.ofInt (slCpy σ r0 i0 sp.toNat r1 i1 dp.toNat n.toNat r1 i1 j))) = cell at X' step
  have hheap : ((T.setVm vm').setCell (slAd (xG X) r1 i1) cell).heap = H.setIfInBounds (slAd (xG X) r1 i1) cell := by rw [← hT]; rfl
  have oq : ∀ q : Nat, q ≠ slAd (xG X) r1 i1 → (H.setIfInBounds (slAd (xG X) r1 i1) cell)[q]? = H[q]? := fun q hq => by simp [Array.getElem?_setIfInBounds, Ne.symm hq]
  have hA : slBase (xG X) ≤ slAd (xG X) r1 i1 := hX.2.2.2.1.2.2.1 r1 i1 hi1 (by omega)
  obtain ⟨t, a1, b1⟩ := kk _ _ lsA (slRep.upd (r0 := r1) (i0 := i1) hX.2.2.2.1 h1 hi1 (by omega) oq (fun r i hne k => by unfold slCpy; rw [if_neg (fun q => hne q.1)]) ((slAt_int k1).mpr (by rw [hcell]; simp [Array.getElem?_setIfInBounds, hl])))
    ⟨by simp; exact h2.1, fun q g1 g2 => by
      rw [oq q (fun e => g2 (by rw [e]; exact hA))]
      exact h2.2.1 q g1 g2, fun q hq => by
      rcases List.mem_append.mp hq with h | h
      · exact h2.2.2 q h
      · obtain ⟨z, -, hz⟩ := List.mem_map.mp h
        rw [← hz]
        exact hA⟩ h3 h4.2.2.2.2.2 _ hheap X'
  exact ⟨t, step t a1, b1⟩
end Jdk9
/-! ===== string constants ===== -/
def sI2b (a : Int) : Int := (Int32.ofInt a).toInt8.toInt32.toInt
/-- the text of the byte array b -/
def slBy (b : Nat) : List Int := slTxt.getD (b - 136) []
theorem slTxt_len : ∀ k, k < 29 → (slR (136 + k)).2.1 = (slTxt.getD k []).length ∧ (slR (107 + k)).2.2 = 1 ∧ (slR (136 + k)).2.2 = 1 ∧ (slTxt.getD k []).length ≤ 40 := by decide +kernel
section Str9
variable {X : slX} {u pc K d nL d' K' n idx : Nat} {ls : List (Option slV)} {st stk : List slV} {σ : slM} {own : String} {cc : ByteArray} {M : slMt} {Φ : slPost} {ret : Option FieldType} {A : Int → slM → Prop} {Q : State → Prop}
theorem slStr (hX : slCx X own cc) {k : Nat} (hk : k < 29) : va_O "java/lang/String" (slAd (xG X) (107 + k) 0) (slA (xG X)) (xs X) (xs X).heap ∧ va_OF "java/lang/String" "coder" "B" (.int 0) (slAd (xG X) (107 + k) 0) (slA (xG X)) (xs X) (xs X).heap ∧ va_OF "java/lang/String" "value" "[B" (.ref (slAd (xG X) (136 + k) 0)) (slAd (xG X) (107 + k) 0) (slA (xG X)) (xs X) (xs X).heap ∧
    va_T .byte (slAd (xG X) (136 + k) 0) (slTxt.getD k []).length (fun j => .int (Int32.ofInt ((slTxt.getD k []).getD j 0))) (slA (xG X)) (xs X) (xs X).heap := by
  obtain ⟨h1, h2, h3, h4⟩ := hX.2.2.2.1.2.2.2.2.2.2.2.2.1 k hk
  have hal := hX.2.2.2.2.1.alike
  have hq : ∀ a : Nat, a < (slS0 (xG X)).heap.size → ¬ slA (xG X) a → (xs X).heap[a]? = (slS0 (xG X)).heap[a]? := fun a ha _ => hX.2.2.2.2.2.2 a ha
  exact ⟨va_O.moved hal (h1.kept hq), va_OF.moved hal (h2.kept hq), va_OF.moved hal (h3.kept hq), va_T.moved hal (h4.kept hq)⟩
theorem st_cT (hX : slCx X own cc) (hB : slBd X ret nL d K) {w : Nat} (As : List slV) (hS : slSiteT own idx M n) (hw : 107 ≤ w ∧ w < 136) (hd' : d' + 1 ≤ d) (hu : u + K' ≤ K) (hn : As.length = n) (hst : slW st ≤ 8) (hstk : As.reverse ++ sR w 0 :: st = stk) (hd : decode cc pc = .ok (.invokevirtual idx, 3))
    (hC : slCall (xG X) M d' K' (sR w 0 :: As) σ (slKt A Φ)) (kk : ∀ v τ, A v τ → slOK X (slQ X ret Φ K) (u + K') (pc + 3) ls (slPush M.2.2.2 v st) τ) : slOK X (slQ X ret Φ K) u pc ls stk σ := by
  subst hstk
  intro H locs lsA h1 h2 h3 h4
  obtain ⟨a1, a2⟩ := slAll_app.mp h4
  have a1 := slAll_rev.mp a1
  obtain ⟨s1, s2, s3, s4⟩ := hS
  obtain ⟨k, rfl⟩ : ∃ k, w = 107 + k := ⟨w - 107, by omega⟩
  obtain ⟨o1, -⟩ := slStr hX (k := k) (by omega)
  obtain ⟨cell, q1, q2, q3, -⟩ := o1.kept h2.2.1
  have hR := hB.room
  have cb := slCallB hX (d' := d') (K' := K') s1 hR hd' (u := u)
  have hr4 := hR.2.2
  refine slAfter (M := M) (Ψ := slKt A Φ) (K' := K') hX h2 h3 a2.2 (a := ((sR (107 + k) 0 :: As).map (slD (xG X))).toArray) (vx_runV (As := As.map (slD (xG X))) (b := slAd (xG X) (107 + k) 0) (Ts := []) (C := "java/lang/String") ⟨hX.1, hX.2.1, rfl, hX.2.2.1, fun w h => nomatch h⟩ (hC ⟨a2.1, a1⟩) ⟨cb, slWord hX s2 rfl, slWord hX s3 rfl⟩ ⟨slPc_blind, ⟨cell, q1, q2, q3⟩, slPc_pre hX h1 h2⟩ rfl (by rw [List.length_map]; exact hn) h3.1 ?_ (lv_room (by rw [slW_eq]; exact hst)) hd ⟨by omega, by omega⟩) (fun v τ h => kk v τ (h.1 rfl)) (fun k τ hk h => slOX.out hB (by omega) hk (h.2 (by show k ≠ 0; omega)))
  rw [List.map_append, List.map_reverse]
  rfl
theorem st_ldcS (hX : slCx X own cc) {r : Nat} {text : String} (hs : (own, idx, text, r) ∈ slStrL) (hd : decode cc pc = .ok (.ldc idx, 2)) (kk : slOK X Q u (pc + 2) ls (sR r 0 :: st) σ) : slOK X Q u pc ls st σ := by
  intro H locs lsA h1 h2 h3 h4
  have hr : 0 < (slR r).2.2 := by
    have : ∀ q ∈ slStrL, 0 < (slR q.2.2.2).2.2 := by decide +kernel
    exact this _ hs
  exact va_ldcS hX.1 hX.2.1 hX.2.2.1 (vk_R.warm hX.2.2.2.2.1 (hX.2.2.2.1.2.2.2.2.2.2.2.1 _ hs)) hd (kk H locs lsA h1 h2 h3 ⟨hr, h4⟩)
theorem st_ldcSw (hX : slCx X own cc) {r : Nat} {text : String} (hs : (own, idx, text, r) ∈ slStrL) (hd : decode cc pc = .ok (.ldc_w idx, 3)) (kk : slOK X Q u (pc + 3) ls (sR r 0 :: st) σ) : slOK X Q u pc ls st σ := by
  intro H locs lsA h1 h2 h3 h4
  have hr : 0 < (slR r).2.2 := by
    have : ∀ q ∈ slStrL, 0 < (slR q.2.2.2).2.2 := by decide +kernel
    exact this _ hs
  have hZ := vk_R.warm hX.2.2.2.2.1 (hX.2.2.2.1.2.2.2.2.2.2.2.1 _ hs)
  intro T hT S
  obtain ⟨t, a1, b1⟩ := kk H locs lsA h1 h2 h3 ⟨hr, h4⟩ T hT S
  exact ⟨t, S.ldcStringW hX.1 hX.2.2.1 (text := text) (a := slAd (xG X) r 0) hZ.1 hZ.2 (g := F0 (xm X) pc lsA (st.map (slD (xG X)))) rfl (by rw [hX.2.1]; exact hd) t a1, b1⟩
theorem st_gsv (hX : slCx X "java/lang/String" cc) {w b : Nat} (hw : 107 ≤ w ∧ w < 136) (hb : b = w + 29) (hd : decode cc pc = .ok (.getfield 9, 3)) (kk : slOK X Q u (pc + 3) ls (sR b 0 :: st) σ) : slOK X Q u pc ls (sR w 0 :: st) σ := by
  intro H locs lsA h1 h2 h3 h4
  obtain ⟨k, rfl⟩ : ∃ k, w = 107 + k := ⟨w - 107, by omega⟩
  obtain rfl : b = 136 + k := by omega
  obtain ⟨-, -, o3, -⟩ := slStr hX (k := k) (by omega)
  have ht := slTxt_len k (by omega)
  exact vk_getf hX.1 hX.2.1 o3 h2 hX.2.2.1 (slWord hX fs_value rfl) (fun _ h => h) hd (kk H locs lsA h1 h2 h3 ⟨by show 0 < (slR (136 + k)).2.2; omega, h4.2⟩)
theorem st_gsc (hX : slCx X "java/lang/String" cc) {w : Nat} (hw : 107 ≤ w ∧ w < 136) (hd : decode cc pc = .ok (.getfield 15, 3)) (kk : slOK X Q u (pc + 3) ls (sI 0 :: st) σ) : slOK X Q u pc ls (sR w 0 :: st) σ := by
  intro H locs lsA h1 h2 h3 h4
  obtain ⟨k, rfl⟩ : ∃ k, w = 107 + k := ⟨w - 107, by omega⟩
  obtain ⟨-, o2, -⟩ := slStr hX (k := k) (by omega)
  exact vk_getf hX.1 hX.2.1 o2 h2 hX.2.2.1 (slWord hX fs_coder rfl) (fun _ h => h) hd (kk H locs lsA h1 h2 h3 ⟨trivial, h4.2⟩)
theorem st_gst (hX : slCx X "java/lang/String" cc) (hd : decode cc pc = .ok (.getstatic 38, 3)) (kk : slOK X Q u (pc + 3) ls (sI 1 :: st) σ) : slOK X Q u pc ls st σ := by
  intro H locs lsA h1 h2 h3 h4
  have hZ : va_Z "java/lang/String" "COMPACT_STRINGS" "Z" (.int 1) (slA (xG X)) (xs X) (xs X).heap := va_Z.moved hX.2.2.2.2.1.alike (hX.2.2.2.1.2.2.2.2.2.2.2.2.2.1.kept (fun a ha _ => hX.2.2.2.2.2.2 a ha))
  exact va_gets hX.1 hX.2.1 hZ h2 hX.2.2.1 (slWord hX fs_compact rfl) (fun _ h => h) hd (kk H locs lsA h1 h2 h3 ⟨trivial, h4⟩)
theorem st_alenB (hX : slCx X own cc) {b : Nat} (hb : 136 ≤ b ∧ b < 165) (hd : decode cc pc = .ok (.arraylength, 1)) (kk : slOK X Q u (pc + 1) ls (sI ((slBy b).length : Int) :: st) σ) : slOK X Q u pc ls (sR b 0 :: st) σ := by
  intro H locs lsA h1 h2 h3 h4
  obtain ⟨k, rfl⟩ : ∃ k, b = 136 + k := ⟨b - 136, by omega⟩
  obtain ⟨-, -, -, o4⟩ := slStr hX (k := k) (by omega)
  obtain ⟨cell, q1, q2, q3, q4, q5, q6, q7⟩ := o4.kept h2.2.1
  have e : slBy (136 + k) = slTxt.getD k [] := by unfold slBy; rw [show 136 + k - 136 = k by omega]
  rw [e] at kk
  exact W.alen (n := Int32.ofInt ((slTxt.getD k []).length : Int)) hX.1 hX.2.1 q1 q2 (by rw [q5]; rfl) rfl rfl hd (kk H locs lsA h1 h2 h3 ⟨trivial, h4.2⟩)
theorem st_baloadB (hX : slCx X own cc) {b : Nat} {j : Int} (hb : 136 ≤ b ∧ b < 165) (hd : decode cc pc = .ok (.baload, 1)) (h0 : 0 ≤ j) (hn : j < (slBy b).length) (kk : slOK X Q u (pc + 1) ls (sI ((slBy b).getD j.toNat 0) :: st) σ) : slOK X Q u pc ls (sI j :: sR b 0 :: st) σ := by
  intro H locs lsA h1 h2 h3 h4
  obtain ⟨k, rfl⟩ : ∃ k, b = 136 + k := ⟨b - 136, by omega⟩
  obtain ⟨-, -, -, o4⟩ := slStr hX (k := k) (by omega)
  obtain ⟨cell, q1, q2, q3, q4, q5, q6, q7⟩ := o4.kept h2.2.1
  have e : slBy (136 + k) = slTxt.getD k [] := by unfold slBy; rw [show 136 + k - 136 = k by omega]
  rw [e] at kk hn
  have ht := slTxt_len k (by omega)
  have hc := sl_cl h0 (by omega)
  refine W.bald (v := .int (Int32.ofInt ((slTxt.getD k []).getD j.toNat 0))) hX.1 hX.2.1 q1 q2 q3 ?_ (by rw [hc]; exact q6 _ (by omega)) rfl rfl hd (kk H locs lsA h1 h2 h3 ⟨trivial, h4.2.2⟩)
  rintro (q | q)
  · exact absurd ((i32_lt (x := j) (y := 0) ⟨by omega, by omega⟩ ⟨by omega, by omega⟩).mp q) (by omega)
  · rw [hc] at q
    omega
theorem st_i2b (hX : slCx X own cc) {a : Int} (hd : decode cc pc = .ok (.i2b, 1)) (kk : slOK X Q u (pc + 1) ls (sI (sI2b a) :: st) σ) : slOK X Q u pc ls (sI a :: st) σ := by
  intro H locs lsA h1 h2 h3 h4
  refine lv_i2b hX.1 hX.2.1 hd rfl ?_
  have k := kk H locs lsA h1 h2 h3 ⟨trivial, h4.2⟩
  rw [List.map_cons, show slD (xG X) (sI (sI2b a)) = .int (Int32.ofInt (sI2b a)) from rfl, sI2b, Int32.ofInt_toInt] at k
  exact k
theorem st_bret (hX : slCx X own cc) (hB : slBd X (some .byte) nL d K) (hu : u ≤ K) {v : Int} (hd : decode cc pc = .ok (.ireturn, 1)) (hv : v = 0 ∨ v = 1) (h : Φ (0, v) σ) : slOK X (slQ X (some .byte) Φ K) u pc ls [sI v] σ := by
  intro H locs lsA h1 h2 h3 h4
  obtain ⟨hr, hlk, -, -, -, hn, hz⟩ := hB
  refine W.widen (k := K) (n := 6 * K) (by omega) (by omega) (vx_ret ?_)
  exact W.zret (v := Int32.ofInt v) hX.1 hX.2.1 hr (by rcases hv with rfl | rfl <;> rfl) (fun t ht hW => ⟨v, σ, h, rfl, by rw [ht]; exact h1, slFin h2 ht⟩) h2.2.2 hd hlk
end Str9
