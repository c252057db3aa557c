/-! ===== the JDK: arraycopy, string constants ===== -/
/-- n places of r0 i0 from sp on, laid into r1 i1 from dp on -/
def slCpy (σ : slM) (r0 i0 sp r1 i1 dp n : Nat) : slM := fun r i k => if (r = r1 ∧ i = i1) ∧ dp ≤ k ∧ k < dp + n then σ r0 i0 (sp + (k - dp)) else σ r i k
section Jdk9
variable {X : slX} {u pc K d nL d' K' n idx : Nat} {ls : List (Option slV)} {st stk : List slV} {σ : slM} {own : String} {cc : ByteArray} {M : slMt} {Φ : slPost} {ret : Option FieldType} {A : Int → slM → Prop} {Q : State → Prop}
set_option maxHeartbeats 4000000 in
theorem st_acopy (hX : slCx X own cc) (hS : slSiteC own idx) (hR : slRoom X d K) (hd1 : 2 ≤ d) (hst : slW st ≤ 8) (hd : decode cc pc = .ok (.invokestatic idx, 3)) {r0 i0 r1 i1 : Nat} {sp dp n : Int} (k0 : (slR r0).1 = 1) (k1 : (slR r1).1 = 1)
    (p1 : 0 ≤ sp) (p2 : 0 ≤ dp) (p3 : 0 ≤ n) (p4 : sp + n ≤ (slR r0).2.1) (p5 : dp + n ≤ (slR r1).2.1) (kk : slOK X Q u (pc + 3) ls st (slCpy σ r0 i0 sp.toNat r1 i1 dp.toNat n.toNat)) : slOK X Q u pc ls (sI n :: sI dp :: sR r1 i1 :: sI sp :: sR r0 i0 :: st) σ := by
  intro H locs lsA h1 h2 h3 h4
  have hi1 : i1 < (slR r1).2.2 := h4.2.2.1
  have hi0 : i0 < (slR r0).2.2 := h4.2.2.2.2.1
  obtain ⟨s1, s2, s3, s4⟩ := hS
  obtain ⟨q1, q2, q3, q4⟩ := hR
  have hc0 := (slAt_int k0).mp (h1 r0 i0 hi0)
  have hc1 := (slAt_int k1).mp (h1 r1 i1 hi1)
  have z0 := slR_small r0
  have z1 := slR_small r1
  have hsp : InR sp := ⟨by omega, by omega⟩
  have hdp : InR dp := ⟨by omega, by omega⟩
  have hn : InR n := ⟨by omega, by omega⟩
  have c1 := sl_cl p1 hsp.2
  have c2 := sl_cl p2 hdp.2
  have c3 := sl_cl p3 hn.2
  have neg : ∀ z : Int, 0 ≤ z → InR z → ¬ Int32.ofInt z < 0 := fun z hz hr q => absurd ((i32_lt hr (y := 0) ⟨by omega, by omega⟩).mp q) (by omega)
  have hk := ((slK hX).2 0 _ rfl).1
  intro T hT S
  obtain ⟨-, kk0, hk0, cm0, hkk0⟩ := hk (slR r0).2.1 (fun j => .int (Int32.ofInt (σ r0 i0 j)))
  obtain ⟨-, kk1, hk1, cm1, hkk1⟩ := hk (slR r1).2.1 (fun j => .int (Int32.ofInt (σ r1 i1 j)))
  have hw : nativeFrameWords "java/lang/System" "arraycopy" 5 ≤ 60 := by decide +kernel
  obtain ⟨vm', X', step⟩ := S.arraycopy hX.1 hX.2.2.1 (slWord hX s1 rfl) (slWord hX s2 rfl) (slWord hX s3 rfl) (slWord hX s4 rfl) (src := slAd (xG X) r0 i0) (dst := slAd (xG X) r1 i1) (cs := arrV (slCA (xG X) 0) (slR r0).2.1 (fun j => .int (Int32.ofInt (σ r0 i0 j)))) (cd := arrV (slCA (xG X) 0) (slR r1).2.1 (fun j => .int (Int32.ofInt (σ r1 i1 j)))) (srcPos := Int32.ofInt sp) (destPos := Int32.ofInt dp) (n := Int32.ofInt n) (by rw [hT]; exact hc0) (by rw [hT]; exact hc1)
    (fun _ h => by cases h) (fun _ h => by cases h) (fun h => by cases h) (fun h => by cases h) hk0 hk1 hkk0 hkk1 (by simp [refKind]) (neg _ p1 hsp) (neg _ p2 hdp) (neg _ p3 hn)
    (by rw [i32_to hsp, i32_to hn, arrV_size]; omega)
    (by rw [i32_to hdp, i32_to hn, arrV_size]; omega)
    (fun vm₁ _ i hi => by
      rw [c3] at hi
      have e : (arrV (slCA (xG X) 0) (slR r0).2.1 (fun j => .int (Int32.ofInt (σ r0 i0 j)))).slots.getD ((Int32.ofInt sp).toNatClampNeg + i) .null = .int (Int32.ofInt (σ r0 i0 ((Int32.ofInt sp).toNatClampNeg + i))) := by
        rw [Array.getD_eq_getD_getElem?, arrV_read _ _ (by rw [c1]; omega)]
        rfl
      refine ⟨?_, ?_⟩
      · rw [e]
        rfl
      · rw [e]
        exact trivial)
    (g := F0 (xm X) pc lsA (.int (Int32.ofInt n) :: .int (Int32.ofInt dp) :: .ref (slAd (xG X) r1 i1) :: .int (Int32.ofInt sp) :: .ref (slAd (xG X) r0 i0) :: st.map (slD (xG X)))) rfl (by rw [h3.1]) (rest := st.map (slD (xG X))) rfl (by rw [hX.2.1]; exact hd) (by omega) (by show 2 * 0 + _ + _ ≤ _; rw [slW_eq]; omega)
  have e1 : copied (arrV (slCA (xG X) 0) (slR r0).2.1 (fun j => .int (Int32.ofInt (σ r0 i0 j)))) (arrV (slCA (xG X) 0) (slR r1).2.1 (fun j => .int (Int32.ofInt (σ r1 i1 j)))) (Int32.ofInt sp) (Int32.ofInt dp) (Int32.ofInt n) = arrV (slCA (xG X) 0) (slR r1).2.1 (fun j => .int (Int32.ofInt (slCpy σ r0 i0 sp.toNat r1 i1 dp.toNat n.toNat r1 i1 j))) := by
    have e2 := va_copied (fun z : Int => Value.int (Int32.ofInt z)) (slCA (xG X) 0) (slCA (xG X) 0) (n0 := (slR r0).2.1) (n1 := (slR r1).2.1) (sp := (Int32.ofInt sp).toNatClampNeg) (dp := (Int32.ofInt dp).toNatClampNeg) (n := (Int32.ofInt n).toNatClampNeg) (σ r0 i0) (σ r1 i1) (by rw [c1, c3]; omega)
    refine e2.trans ?_
    congr 1
    funext j
    rw [c1, c2, c3]
    simp only [va_cpy, slCpy, true_and, and_self]
  rw [e1] at X' step
  have hl : slAd (xG X) r1 i1 < H.size := (Array.getElem?_eq_some_iff.mp hc1).1
  generalize hcell : arrV (slCA (xG X) 0) (slR r1).2.1 (fun j => .int (Int32.ofInt (slCpy σ r0 i0 sp.toNat r1 i1 dp.toNat n.toNat r1 i1 j))) = cell at X' step
  have hheap : ((T.setVm vm').setCell (slAd (xG X) r1 i1) cell).heap = H.setIfInBounds (slAd (xG X) r1 i1) cell := by rw [← hT]; rfl
  have oq : ∀ q : Nat, q ≠ slAd (xG X) r1 i1 → (H.setIfInBounds (slAd (xG X) r1 i1) cell)[q]? = H[q]? := fun q hq => by simp [Array.getElem?_setIfInBounds, Ne.symm hq]
  have hA : slBase (xG X) ≤ slAd (xG X) r1 i1 := hX.2.2.2.1.2.2.1 r1 i1 hi1 (by omega)
  obtain ⟨t, a1, b1⟩ := kk _ _ lsA (slRep.upd (r0 := r1) (i0 := i1) hX.2.2.2.1 h1 hi1 (by omega) oq (fun r i hne k => by unfold slCpy; rw [if_neg (fun q => hne q.1)]) ((slAt_int k1).mpr (by rw [hcell]; simp [Array.getElem?_setIfInBounds, hl])))
    ⟨by simp; exact h2.1, fun q g1 g2 => by
      rw [oq q (fun e => g2 (by rw [e]; exact hA))]
      exact h2.2.1 q g1 g2, fun q hq => by
      rcases List.mem_append.mp hq with h | h
      · exact h2.2.2 q h
      · obtain ⟨z, -, hz⟩ := List.mem_map.mp h
        rw [← hz]
        exact hA⟩ h3 h4.2.2.2.2.2 _ hheap X'
  exact ⟨t, step t a1, b1⟩
end Jdk9
