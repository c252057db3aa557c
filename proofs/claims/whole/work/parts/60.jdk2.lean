/-! ===== the index check of a String: its third argument is a reference that is no region of ours ===== -/
abbrev mJ3_checkIndex_8e157 : slMt := (yJ3_checkIndex_8e157, cJ3_checkIndex_8e157, 3, (some .int))
theorem ms_J3_checkIndex_8e157 : slMs mJ3_checkIndex_8e157 3 := ⟨lw_in1 _ (List.mem_of_getElem? (i := 22) (by decide +kernel)), lw_in4 _ (List.mem_of_getElem? (i := 158) (by decide +kernel)), by decide +kernel, by decide⟩
theorem mt_J3_checkIndex_8e157 : Cond.static mJ3_checkIndex_8e157.1 ∈ lw_tbl := lw_in4 _ (List.mem_of_getElem? (i := 157) (by decide +kernel))
theorem si_J0_1059 : slSiteS "java/lang/String" 1059 mJ3_checkIndex_8e157 3 := ⟨⟨lw_in4 _ (List.mem_of_getElem? (i := 156) (by decide +kernel)), ms_J3_checkIndex_8e157⟩, mt_J3_checkIndex_8e157⟩
theorem fs_form : Cond.fieldLink "java/lang/String" 1053 "jdk/internal/util/Preconditions" "SIOOBE_FORMATTER" "Ljava/util/function/BiFunction;" ∈ lw_tbl := lw_in4 _ (List.mem_of_getElem? (i := 109) (by decide +kernel))
def slCallF (G : slG) (M : slMt) (d K : Nat) (av : List slV) (F : Value) (σ : slM) (Φ : slPost) : Prop :=
  slAll av → vx_Met (slL G) M.1 [Cond.code M.1 M.2.1 M.2.2.1 M.2.2.2] (slRm d K) (fun a U => a = (av.map (slD G) ++ [F]).toArray ∧ slIn G σ U) (slQc G M.2.2.2 Φ) (slXC G Φ) K (6 * K) (slA G)
theorem slArgsF {G : slG} {F : Value} : ∀ (av : List slV) (n : Nat), slNoL av = true → ∀ k v, av[k]? = some v → (n + k, slD G v) ∈ lv_args n (av.map (slD G) ++ [F])
  | [], n, _, k, v, h => by simp at h
  | a :: t, n, hb, 0, v, h => by
    simp at h
    subst h
    simp [lv_args]
  | a :: t, n, hb, k + 1, v, h => by
    have hb2 : slNoL t = true ∧ (slD G a).category = 1 := by
      rcases a with x | x | x
      · exact ⟨hb, rfl⟩
      · simp [slNoL] at hb
      · exact ⟨hb, rfl⟩
    have h2 := slArgsF (G := G) (F := F) t (n + 1) hb2.1 k v (by simpa using h)
    rw [List.map_cons, List.cons_append]
    unfold lv_args
    rw [hb2.2, show n + (k + 1) = n + 1 + k by omega]
    exact List.mem_cons_of_mem _ h2
set_option maxHeartbeats 4000000 in
theorem slCallF.of {G : slG} (hG : slGood G) {M : slMt} {own : String} {d K : Nat} {av : List slV} {F : Value} {σ : slM} {Φ : slPost} (hy : plainName M.1.cls = true) (hown : M.1.cls = own) (hnl : slNoL av = true) (hF : F.category = 1) (hlen : av.length + 1 ≤ M.2.2.1)
    (body : ∀ X : slX, slCx X own M.2.1 → xG X = G → slBd X M.2.2.2 M.2.2.1 d K → slOK X (slQ X M.2.2.2 Φ K) 0 0 (slEnt av M.2.2.1) [] σ) : slCallF G M d K av F σ Φ := by
  intro hall
  obtain ⟨y, cc, maxL, ret⟩ := M
  refine vx_ofW (cc := cc) (maxL := maxL) (ret := ret) hy rfl ?_
  intro p e s m args below meth c s₁ B hml hex hv
  obtain ⟨rfl, hW, hz, hq, hR⟩ := hv
  have hown' : s.vm.findClass own = some m.cls := by rw [← hown]; exact findClass_of_methodNamed B.named
  have k := body (G, p, e, slRm d K, s, m, (av.map (slD G) ++ [F]).toArray, below, meth, c, (0, 0)) ⟨B.exec, B.bytes, hown', hG, hW, hz, hq⟩ rfl ⟨B.returns, B.notSynchronized, hex, hml, rfl, rfl, rfl⟩
  have hl := lv_entry (av.map (slD G) ++ [F]) (n := maxL) ?_
  · rw [lg_entry_eq]
    generalize (lg_sl (av.map (slD G) ++ [F]) ++ List.replicate (maxL - (lg_sl (av.map (slD G) ++ [F])).length) Slot.unset).toArray = lsA at hl ⊢
    refine k s.heap [] lsA hR va_S.rf ⟨by show lsA.size = c.maxLocals; rw [hml]; exact hl.1, hl.2.1, fun i v hi => ?_⟩ trivial
    have h2 := slAtL_ent av _ i v hi
    have h3 := hl.2.2 _ (slArgsF (G := G) (F := F) av 0 hnl i v h2)
    rw [Nat.zero_add] at h3
    exact ⟨slAll_mem hall h2, h3⟩
  · have : ∀ (l : List slV), slNoL l = true → (lg_sl (l.map (slD G) ++ [F])).length = l.length + 1 := by
      intro l
      induction l with
      | nil =>
        intro _
        simp [lg_sl, slotsOf, hF]
      | cons a t ih =>
        intro h
        rcases a with x | x | x
        · simpa [lg_sl, slotsOf, Value.category, slD] using ih h
        · simp [slNoL] at h
        · simpa [lg_sl, slotsOf, Value.category, slD] using ih h
    rw [this av hnl]
    exact hlen
theorem sf_checkIndex {G : slG} (hG : slGood G) {d K : Nat} {F : Value} (hF : F.category = 1) {Φ : slPost} {σ : slM} {x n : Int} (ix : InR x) (i1 : InR n) (h0 : 0 ≤ x) (h1 : x < n) (h : Φ (0, x) σ) : slCallF G mJ3_checkIndex_8e157 d K [sI x, sI n] F σ Φ := by
  refine slCallF.of hG (by decide) rfl rfl hF (Nat.le_of_ble_eq_true rfl) (fun X hX hXG hB => ?_)
  subst hXG
  exact (show slOK X (slQ X (some .int) Φ K) 0 0 [some (sI x), some (sI n), none] [] σ from
    st_iload_n hX dJ3_checkIndex_8e157_0 rfl (st_if_lt hX dJ3_checkIndex_8e157_1 (tgt := 9) (by decide) ix (fun c => absurd c (by omega)) (fun _ => st_iload_n hX dJ3_checkIndex_8e157_4 rfl (st_iload_n hX dJ3_checkIndex_8e157_5 rfl (st_icmp_lt hX dJ3_checkIndex_8e157_6 (tgt := 16) (by decide) ix i1 (fun _ => st_iload_n hX dJ3_checkIndex_8e157_16 rfl (st_iret hX hB (by omega) dJ3_checkIndex_8e157_17 h)) (fun c => absurd h1 c))))))
theorem slPcF_blind {G : slG} {av : List slV} {F : Value} {σ : slM} : FrameBlind (fun (a : Array Value) (U : State) => a = (av.map (slD G) ++ [F]).toArray ∧ slIn G σ U) := fun a U g mk h => h
set_option maxHeartbeats 4000000 in
/-- a static call whose last argument is F -/
theorem st_callF {X : slX} {u pc K d d' K' n idx : Nat} {ls : List (Option slV)} {st : List slV} {σ : slM} {own : String} {cc : ByteArray} {Q : State → Prop} {M : slMt} {Ψ : slPost} (hX : slCx X own cc) {As : List slV} {F : Value} (hS : slSiteS own idx M n) (hR : slRoom X d K) (hd' : d' + 1 ≤ d) (hu : u + K' ≤ K) (hn : As.length + 1 = n) (hst : slW st ≤ 8) (hd : decode cc pc = .ok (.invokestatic idx, 3))
    (hC : slCallF (xG X) M d' K' As F σ Ψ) {H : Heap} {locs : List Loc} {lsA : Array Slot} (h1 : slRep (xG X) σ H) (h2 : va_S (slA (xG X)) (xs X).heap H locs) (h3 : slLoc (xG X) (xc X).maxLocals ls lsA) (a1 : slAll As) (a2 : slAll st)
    (kk : ∀ v τ, Ψ (0, v) τ → slOK X Q (u + K') (pc + 3) ls (slPush M.2.2.2 v st) τ) (kx : ∀ k τ, (k = 1 ∨ k = 2) → Ψ (k, 0) τ → slOX X Q (u + K') pc ls st τ k) :
    W (xp X) (slL (xG X)) (xe X) (xR X) (xs X) (xm X) (xa X) (xb X) (xh X) (xc X) H locs (xn X + u) (xz X + 6 * u) Q (F0 (xm X) pc lsA (F :: (As.reverse ++ st).map (slD (xG X)))) := by
  obtain ⟨s1, s2⟩ := hS
  have cb := slCallB hX (d' := d') (K' := K') s1 hR hd' (u := u)
  have hr4 := hR.2.2
  have hp : ∀ U : State, U.heap = H → (xs X).WarmedH U.vm → (As.map (slD (xG X)) ++ [F]).toArray = (As.map (slD (xG X)) ++ [F]).toArray ∧ slIn (xG X) σ U := fun U hU hW => ⟨rfl, (slPc_pre (av := As) hX h1 h2 U hU hW).2⟩
  refine slAfter hX h2 h3 a2 (a := (As.map (slD (xG X)) ++ [F]).toArray) (vx_runS (As := As.map (slD (xG X)) ++ [F]) (Ts := []) ⟨hX.1, hX.2.1, rfl, hX.2.2.1, fun w h => nomatch h⟩ (hC a1) ⟨cb, slWord hX s2 rfl⟩ ⟨slPcF_blind, hp⟩ rfl (by rw [List.length_append, List.length_map]; exact hn) h3.1 ?_ (lv_room (by rw [slW_eq]; exact hst)) hd ⟨by omega, by omega⟩) kk kx
  rw [List.reverse_append, List.map_append, List.map_reverse]
  rfl
set_option maxHeartbeats 4000000 in
theorem sp_J0_checkIndex_df160 {G : slG} (hG : slGood G) {d K : Nat} (hd : 1 ≤ d) {Φ : slPost} {σ : slM} {x0 x1 : Int} (i0 : InR x0) (i1 : InR x1) (h0 : 0 ≤ x0) (h1 : x0 < x1) (h : Φ (0, 0) σ) : slCall G mJ0_checkIndex_df160 d K [sI x0, sI x1] σ Φ := by
  refine slCall.of hG (by decide) rfl rfl (Nat.le_of_ble_eq_true rfl) (fun X hX hXG hB => ?_)
  subst hXG
  refine (show slOK X (slQ X none Φ K) 0 0 [some (sI x0), some (sI x1)] [] σ from
    st_iload_n hX dJ0_checkIndex_df160_0 rfl (st_iload_n hX dJ0_checkIndex_df160_1 rfl ?_))
  intro H locs lsA g1 g2 g3 g4
  have hz := (slZq hX hX.2.2.2.1.2.2.2.2.2.2.2.2.2.2.1).1
  have go : ∀ F : Value, F.category = 1 → W (xp X) (slL (xG X)) (xe X) (xR X) (xs X) (xm X) (xa X) (xb X) (xh X) (xc X) H locs (xn X + 0) (xz X + 6 * 0) (slQ X none Φ K) (F0 (xm X) 5 lsA (F :: [sI x1, sI x0].map (slD (xG X)))) := fun F hF => by
    refine st_callF (As := [sI x0, sI x1]) (st := []) (d' := d - 1) (K' := 0) (Ψ := slKn (fun _ τ => τ = σ)) hX si_J0_1059 hB.room (by omega) (by omega) rfl (by decide) dJ0_checkIndex_df160_5 (sf_checkIndex hG hF i0 i1 h0 h1 (slKn.ok rfl)) g1 g2 g3 ⟨trivial, trivial, trivial⟩ trivial (fun v τ q => ?_) (fun k τ hk q => ?_)
    · have e : τ = σ := q.2
      rw [e]
      exact st_popI hX dJ0_checkIndex_df160_8 (st_vret hX hB (by omega) dJ0_checkIndex_df160_9 h)
    · have := q.1
      have : k = 0 := this
      omega
  rcases hz with z | ⟨t, z⟩
  · exact va_gets hX.1 hX.2.1 z g2 hX.2.2.1 (slWord hX fs_form rfl) (fun _ h => h) dJ0_checkIndex_df160_2 (go _ rfl)
  · exact va_gets hX.1 hX.2.1 z g2 hX.2.2.1 (slWord hX fs_form rfl) (fun _ h => h) dJ0_checkIndex_df160_2 (go _ rfl)
/-! ===== strings ===== -/
theorem slBy_len {b : Nat} (h : 136 ≤ b ∧ b < 165) : (slBy b).length ≤ 40 := by
  have := (slTxt_len (b - 136) (by omega)).2.2.2
  exact this
theorem slBy_r {b : Nat} (h : 136 ≤ b ∧ b < 165) : ∀ k, k < (slBy b).length → 32 ≤ (slBy b).getD k 0 ∧ (slBy b).getD k 0 < 127 := by
  have key : ∀ j, j < 29 → ∀ k, k < (slTxt.getD j []).length → 32 ≤ (slTxt.getD j []).getD k 0 ∧ (slTxt.getD j []).getD k 0 < 127 := by decide +kernel
  exact key (b - 136) (by omega)
theorem sShr0 : ∀ n, n < 64 → sShr ((n : Nat) : Int) 0 = (n : Int) := by decide +kernel
theorem sI2c_b : ∀ n, n < 256 → sI2c (sAnd ((n : Nat) : Int) 255) = (n : Int) ∧ sI2c ((n : Nat) : Int) = (n : Int) := by decide +kernel
theorem sI2b_b : ∀ n, n < 127 → sI2b ((n : Nat) : Int) = (n : Int) := by decide +kernel
theorem sI2b_hi : ∀ n, n < 256 → 127 ≤ n → ¬ (0 ≤ sI2b ((n : Nat) : Int) ∧ sI2b ((n : Nat) : Int) < 127) := by decide +kernel
theorem sI2b_in {x : Int} : InR (sI2b x) := ⟨Int32.le_toInt _, Int32.toInt_lt _⟩
set_option maxHeartbeats 1000000 in
set_option maxRecDepth 4000 in
theorem sp_J0_isLatin1_aae02 {G : slG} (hG : slGood G) {d K : Nat} (hd : 0 ≤ d) (hK : 0 ≤ K) {Φ : slPost} {σ : slM} {w : Nat} (hw : 107 ≤ w ∧ w < 136) (h : Φ (0, 1) σ) :
    slCall G mJ0_isLatin1_aae02 d K [sR w 0] σ Φ := by
  refine vc_J0_isLatin1_aae02 hG (by omega) hK hw  ?_
  exact h
set_option maxHeartbeats 1000000 in
set_option maxRecDepth 4000 in
theorem sp_J0_length_8abf5 {G : slG} (hG : slGood G) {d K : Nat} (hd : 3 ≤ d) (hK : 0 ≤ K) {Φ : slPost} {σ : slM} {w : Nat} (hw : 107 ≤ w ∧ w < 136) (h : Φ (0, ((slBy (w + 29)).length : Int)) σ) :
    slCall G mJ0_length_8abf5 d K [sR w 0] σ Φ := by
  refine vc_J0_length_8abf5 hG (by omega) hK hw  ?_
  have l := slBy_len (b := w + 29) ⟨by omega, by omega⟩
  refine vc_J0_coder_7d493 hG (by omega) (by omega) hw (slKt.ok ?_)
  rw [sShr0 _ (by omega)]
  exact h
set_option maxHeartbeats 1000000 in
set_option maxRecDepth 4000 in
theorem sp_J1_charAt_3b067 {G : slG} (hG : slGood G) {d K : Nat} (hd : 4 ≤ d) (hK : 0 ≤ K) {Φ : slPost} {σ : slM} {b : Nat} {x1 : Int} (hb : 136 ≤ b ∧ b < 165) (h1 : 0 ≤ x1 ∧ x1 < ((slBy b).length : Int)) (h : Φ (0, (slBy b).getD x1.toNat 0) σ) :
    slCall G mJ1_charAt_3b067 d K [sR b 0, sI x1] σ Φ := by
  refine vc_J1_charAt_3b067 hG (by omega) hK hb  ?_
  have l := slBy_len hb
  have r := slBy_r hb x1.toNat (by omega)
  obtain ⟨n, e⟩ := Int.eq_ofNat_of_zero_le (show 0 ≤ (slBy b).getD x1.toNat 0 by omega)
  rw [e] at r h ⊢
  rw [(sI2c_b n (by omega)).1]
  exact sp_J0_checkIndex_df160 hG (by omega) ⟨by omega, by omega⟩ ⟨by omega, by omega⟩ h1.1 h1.2 (slKt.ok ⟨h1, ⟨by omega, by omega⟩, h⟩)
set_option maxHeartbeats 1000000 in
set_option maxRecDepth 4000 in
theorem sp_J0_charAt_5068e {G : slG} (hG : slGood G) {d K : Nat} (hd : 6 ≤ d) (hK : 0 ≤ K) {Φ : slPost} {σ : slM} {w : Nat} {x1 : Int} (hw : 107 ≤ w ∧ w < 136) (h1 : 0 ≤ x1 ∧ x1 < ((slBy (w + 29)).length : Int)) (h : Φ (0, (slBy (w + 29)).getD x1.toNat 0) σ) :
    slCall G mJ0_charAt_5068e d K [sR w 0, sI x1] σ Φ := by
  refine vc_J0_charAt_5068e hG (by omega) hK hw  ?_
  have r := slBy_r (b := w + 29) ⟨by omega, by omega⟩ x1.toNat (by omega)
  refine sp_J0_isLatin1_aae02 hG (by omega) (by omega) hw (slKt.ok ⟨⟨by decide, by decide⟩, fun z => absurd z (by decide), fun _ => ?_⟩)
  refine sp_J1_charAt_3b067 hG (by omega) (by omega) (b := w + 29) ⟨by omega, by omega⟩ h1 (slKt.ok ⟨⟨by omega, by omega⟩, h⟩)
set_option maxHeartbeats 1000000 in
set_option maxRecDepth 4000 in
theorem sp_J1_indexOfChar_4cfef {G : slG} (hG : slGood G) {d K : Nat} (hd : 2 ≤ d) (hK : 0 ≤ K) {Φ : slPost} {σ : slM} {b : Nat} {x1 : Int} {x2 : Int} {x3 : Int} (hb : 136 ≤ b ∧ b < 165) (h1 : 0 ≤ x1 ∧ x1 < 256) (h3 : x3 = ((slBy b).length : Int)) (h2 : x2 = 0) (hn : (∀ k : Nat, k < (slBy b).length → (slBy b).getD k 0 ≠ x1) → Φ (0, -1) σ) (hy : ∀ k : Nat, k < (slBy b).length → (slBy b).getD k 0 = x1 → (∀ j : Nat, j < k → (slBy b).getD j 0 ≠ x1) → Φ (0, (k : Int)) σ) :
    slCall G mJ1_indexOfChar_4cfef d K [sR b 0, sI x1, sI x2, sI x3] σ Φ := by
  refine vc_J1_indexOfChar_4cfef hG (by omega) hK hb (fun μ y4 y5 σ' => σ' = σ ∧ y4 = sI2b x1 ∧ μ = ((x3 - y5).toNat, 0, 0) ∧ (0 ≤ y5 ∧ y5 ≤ x3) ∧ ∀ k : Nat, (k : Int) < y5 → (slBy b).getD k 0 ≠ x1) ?_ ?_
  · exact ⟨_, rfl, rfl, rfl, ⟨by omega, by omega⟩, fun k a => by omega⟩
  · have l := slBy_len hb
    rintro μ y4 y5 σ' ⟨rfl, rfl, rfl, hy5, al⟩
    refine ⟨⟨⟨by omega, by omega⟩, by omega, by omega⟩, fun q => hn (fun k hk => al k (by omega)), fun q => ⟨⟨hy5.1, by omega⟩, ?_⟩⟩
    have r := slBy_r hb y5.toNat (by omega)
    have same : (slBy b).getD y5.toNat 0 = sI2b x1 ↔ (slBy b).getD y5.toNat 0 = x1 := by
      obtain ⟨n, e⟩ := Int.eq_ofNat_of_zero_le h1.1
      rw [e]
      by_cases z : n < 127
      · rw [sI2b_b n z]
      · have := sI2b_hi n (by omega) (by omega)
        constructor
        · intro w
          rw [w] at r
          exact absurd ⟨by omega, by omega⟩ this
        · intro w
          omega
    refine ⟨⟨⟨by omega, by omega⟩, sI2b_in⟩, fun z => ⟨_, Or.inl (by show (x3 - (y5 + 1)).toNat < (x3 - y5).toNat; omega), rfl, rfl, rfl, ⟨by omega, by omega⟩, fun k hk => ?_⟩, fun z => ?_⟩
    · by_cases e : (k : Int) = y5
      · rw [show k = y5.toNat by omega]
        exact fun w => z (same.mpr w)
      · exact al k (by omega)
    · have k := hy y5.toNat (by omega) (same.mp z) (fun j hj => al j (by omega))
      rw [show ((y5.toNat : Nat) : Int) = y5 by omega] at k
      exact k
set_option maxHeartbeats 1000000 in
set_option maxRecDepth 4000 in
theorem sp_J1_indexOf_4cfef {G : slG} (hG : slGood G) {d K : Nat} (hd : 4 ≤ d) (hK : 0 ≤ K) {Φ : slPost} {σ : slM} {b : Nat} {x1 : Int} {x2 : Int} {x3 : Int} (hb : 136 ≤ b ∧ b < 165) (h1 : 0 ≤ x1 ∧ x1 < 256) (h3 : x3 = ((slBy b).length : Int)) (h2 : x2 = 0) (h0 : 0 < (slBy b).length) (hn : (∀ k : Nat, k < (slBy b).length → (slBy b).getD k 0 ≠ x1) → Φ (0, -1) σ) (hy : ∀ k : Nat, k < (slBy b).length → (slBy b).getD k 0 = x1 → (∀ j : Nat, j < k → (slBy b).getD j 0 ≠ x1) → Φ (0, (k : Int)) σ) :
    slCall G mJ1_indexOf_4cfef d K [sR b 0, sI x1, sI x2, sI x3] σ Φ := by
  refine vc_J1_indexOf_4cfef hG (by omega) hK hb  ?_
  have l := slBy_len hb
  have e3 : (if ((slBy b).length : Int) < x3 then ((slBy b).length : Int) else x3) = x3 := if_neg (by omega)
  have e2 : (if x2 < 0 then (0 : Int) else x2) = x2 := if_neg (by omega)
  refine vc_J1_canEncode_9a6ad hG (by omega) (by omega) ⟨⟨by omega, by omega⟩, fun q => by omega, fun q => ⟨⟨by omega, by omega⟩, fun q => by omega, fun q => slKt.ok ?_⟩⟩
  rw [e3, e2]
  refine ⟨⟨by decide, by decide⟩, fun _ => ⟨⟨by omega, by omega⟩, ⟨⟨by omega, by omega⟩, by omega, by omega⟩, ⟨⟨by omega, by omega⟩, by omega, by omega⟩, fun q => ?_, fun q => by omega⟩, fun z => absurd z (by decide)⟩
  exact sp_J1_indexOfChar_4cfef hG (by omega) (by omega) hb h1 h3 h2 (fun z => slKt.ok (hn z)) (fun k a b c => slKt.ok (hy k a b c))
set_option maxHeartbeats 1000000 in
set_option maxRecDepth 4000 in
theorem sp_J0_indexOf_0f7a4 {G : slG} (hG : slGood G) {d K : Nat} (hd : 8 ≤ d) (hK : 0 ≤ K) {Φ : slPost} {σ : slM} {w : Nat} {x1 : Int} (hw : 107 ≤ w ∧ w < 136) (h1 : 0 ≤ x1 ∧ x1 < 256) (h0 : 0 < (slBy (w + 29)).length) (hn : (∀ k : Nat, k < (slBy (w + 29)).length → (slBy (w + 29)).getD k 0 ≠ x1) → Φ (0, -1) σ) (hy : ∀ k : Nat, k < (slBy (w + 29)).length → (slBy (w + 29)).getD k 0 = x1 → (∀ j : Nat, j < k → (slBy (w + 29)).getD j 0 ≠ x1) → Φ (0, (k : Int)) σ) :
    slCall G mJ0_indexOf_0f7a4 d K [sR w 0, sI x1] σ Φ := by
  refine vc_J0_indexOf_0f7a4 hG (by omega) hK hw  ?_
  refine vc_J0_indexOf_7cf53 hG (by omega) (by omega) hw ?_
  refine sp_J0_isLatin1_aae02 hG (by omega) (by omega) hw (slKt.ok ⟨⟨by decide, by decide⟩, fun z => absurd z (by decide), fun _ => ?_⟩)
  refine sp_J0_length_8abf5 hG (by omega) (by omega) hw (slKt.ok ?_)
  exact sp_J1_indexOf_4cfef hG (by omega) (by omega) (b := w + 29) ⟨by omega, by omega⟩ h1 rfl rfl h0 (fun z => slKt.ok (slKt.ok (hn z))) (fun k a b c => slKt.ok (slKt.ok (hy k a b c)))
