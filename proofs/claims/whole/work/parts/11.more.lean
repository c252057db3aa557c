/-! ===== nest mates' static methods; Math; constants ===== -/
theorem slMet_of {G : slG} {M : slMt} {d K : Nat} {av : List slV} {σ : slM} {Ψ : slPost} (h : vx_Met (slL G) M.1 [Cond.code M.1 M.2.1 M.2.2.1 M.2.2.2] (slRm d K) (slPc G av σ) (slQc G M.2.2.2 Ψ) (slXC G Ψ) K (6 * K) (slA G)) (hno : ∀ k τ, (k = 1 ∨ k = 2) → ¬ Ψ (k, 0) τ) :
    Met (slL G) M.1 [Cond.code M.1 M.2.1 M.2.2.1 M.2.2.2] (slRm d K) (slPc G av σ) (slQc G M.2.2.2 Ψ) K (6 * K) (slA G) := by
  intro p e ha hc hk s m args below hf happ hP hT
  obtain ⟨n, o, h1, h2, h3, h4⟩ := h p e ha hc hk s m args below hf happ hP hT
  refine ⟨n, o, h1, h2, h3, ?_⟩
  rcases h4 with h4 | ⟨q, rfl, E, ce, L, ⟨k, τ, hk2, hp, -⟩, -⟩
  · exact h4
  · exact absurd hp (hno k τ hk2)
theorem slAt_lt {G : slG} {σ : slM} {r i : Nat} {H : Heap} (h4 : (slR r).1 < 4) (h : slAt G σ r i H) : slAd G r i < H.size := by
  have key : ∀ c : Cell, H[slAd G r i]? = some c → slAd G r i < H.size := fun c hc => (Array.getElem?_eq_some_iff.mp hc).1
  by_cases h0 : (slR r).1 = 0
  · obtain ⟨⟨cell, q1, -⟩, -⟩ := (slAt_obj h0).mp h
    exact key _ q1
  · by_cases h1 : (slR r).1 = 1
    · exact key _ ((slAt_int h1).mp h)
    · by_cases h2 : (slR r).1 = 2
      · exact key _ ((slAt_bool h2).mp h)
      · exact key _ ((slAt_long (by omega)).mp h)
section Nest9
variable {X : slX} {u pc K d d' K' n idx : Nat} {ls : List (Option slV)} {st : List slV} {σ : slM} {own : String} {cc : ByteArray} {Q : State → Prop} {M : slMt} {Ψ : slPost}
theorem st_callSN (hX : slCx X own cc) {As : List slV} {host : String} (hS : slSiteN own idx M host n) (hR : slRoom X d K) (hd' : d' + 1 ≤ d) (hu : u + K' ≤ K) (hn : As.length = n) (hst : slW st ≤ 8) (hd : decode cc pc = .ok (.invokestatic idx, 3))
    (hC : slCall (xG X) M d' K' As σ Ψ) (hno : ∀ k τ, (k = 1 ∨ k = 2) → ¬ Ψ (k, 0) τ) (kk : ∀ v τ, Ψ (0, v) τ → slOK X Q (u + K') (pc + 3) ls (slPush M.2.2.2 v st) τ) : slOK X Q u pc ls (As.reverse ++ st) σ := by
  intro H locs lsA h1 h2 h3 h4
  obtain ⟨a1, a2⟩ := slAll_app.mp h4
  have a1 := slAll_rev.mp a1
  obtain ⟨s1, s2, s3, ⟨s4, s5, s6⟩, s7, s8⟩ := hS
  obtain ⟨r1, r2, r3, r4⟩ := hR
  have hw : va_Nw (.methodLinkNest own idx M.1 host) (xs X) := va_Nw.warmM hX.2.2.2.2.1 (va_Nw.of rfl (hX.2.2.2.1.1 _ s1))
  have cn : va_CN (xR X) (xs X) (xa X) own idx M.1 host M.2.1 M.2.2.1 M.2.2.2 [Cond.code M.1 M.2.1 M.2.2.1 M.2.2.2] (slRm d' K') K' (6 * K') n := by
    refine ⟨⟨rfl, rfl, by simp [slRm]; omega, by simp [slRm]; omega, fun w hw a' U hW => ?_, List.mem_cons_self⟩, slWord hX s3 rfl, slWord hX s2 rfl, ⟨s4, s5⟩, fun sig h => ?_, va_Nw.use rfl hw⟩
    · rw [List.mem_singleton.mp hw]
      exact word_at hW (good_of_word rfl) (slWord hX s3 rfl (a' := xa X))
    · rw [h] at s6
      exact (Option.some.inj s6).symm
  have run := va_runSN (p := xp X) (l := slL (xG X)) (e := xe X) (R := xR X) (s := xs X) (m := xm X) (args := xa X) (below := xb X) (meth := xh X) (c := xc X) (H := H) (locs := locs) (cells := xn X + u) (slots := xz X + 6 * u) (As := As.map (slD (xG X))) (rest := st.map (slD (xG X))) (g := F0 (xm X) pc lsA ((As.reverse ++ st).map (slD (xG X)))) (Ts := []) ⟨hX.1, hX.2.1, rfl, hX.2.2.1, fun w h => nomatch h⟩ (slMet_of (hC a1) hno) ⟨cn, slWord hX s8 rfl, trivial⟩ ⟨slPc_blind, slPc_pre hX h1 h2⟩ rfl (by rw [List.length_map]; exact hn) h3.1 (by rw [List.map_append, List.map_reverse]) (lv_room (by rw [slW_eq]; exact hst)) hd ⟨by omega, by omega⟩
  refine slAfter (M := M) (Ψ := Ψ) (K' := K') hX h2 h3 a2 (a := (As.map (slD (xG X))).toArray) (fun T hT S => Or.inl (run T hT S)) kk (fun k τ hk hp => absurd hp (hno k τ hk))
theorem st_max (hX : slCx X own cc) {a b : Int} (hS : slMath own idx Lib.Math.max.name Lib.Math.max.code 2) (hR : slRoom X d K) (hd1 : 1 ≤ d) (hu : u ≤ K) (hst : slW st ≤ 8) (hd : decode cc pc = .ok (.invokestatic idx, 3)) (ha : InR a) (hb : InR b) (kk : slOK X Q u (pc + 3) ls (sI (if a < b then b else a) :: st) σ) : slOK X Q u pc ls (sI b :: sI a :: st) σ := by
  intro H locs lsA h1 h2 h3 h4
  obtain ⟨s1, s2, s3, s4⟩ := hS
  obtain ⟨r1, r2, r3, r4⟩ := hR
  refine va_mmax hX.1 hX.2.1 h3.1.symm hX.2.2.1 (slWord hX s1 rfl) (slWord hX s2 rfl) (slWord hX s3 rfl) (slWord hX s4 rfl) (by omega) (by rw [slW_eq]; omega) (by omega) (by omega) hd ?_
  have k := kk H locs lsA h1 h2 h3 ⟨trivial, h4.2.2⟩
  rw [List.map_cons] at k
  rw [show (if Int32.ofInt a < Int32.ofInt b then Int32.ofInt b else Int32.ofInt a) = Int32.ofInt (if a < b then b else a) by
    by_cases h : a < b
    · rw [if_pos h, if_pos ((i32_lt ha hb).mpr h)]
    · rw [if_neg h, if_neg (fun q => h ((i32_lt ha hb).mp q))]]
  exact k
theorem st_min (hX : slCx X own cc) {a b : Int} (hS : slMath own idx Lib.Math.min.name Lib.Math.min.code 2) (hR : slRoom X d K) (hd1 : 1 ≤ d) (hu : u ≤ K) (hst : slW st ≤ 8) (hd : decode cc pc = .ok (.invokestatic idx, 3)) (ha : InR a) (hb : InR b) (kk : slOK X Q u (pc + 3) ls (sI (if b < a then b else a) :: st) σ) : slOK X Q u pc ls (sI b :: sI a :: st) σ := by
  intro H locs lsA h1 h2 h3 h4
  obtain ⟨s1, s2, s3, s4⟩ := hS
  obtain ⟨r1, r2, r3, r4⟩ := hR
  refine va_mmin hX.1 hX.2.1 h3.1.symm hX.2.2.1 (slWord hX s1 rfl) (slWord hX s2 rfl) (slWord hX s3 rfl) (slWord hX s4 rfl) (by omega) (by rw [slW_eq]; omega) (by omega) (by omega) hd ?_
  have k := kk H locs lsA h1 h2 h3 ⟨trivial, h4.2.2⟩
  rw [List.map_cons] at k
  rw [show (if Int32.ofInt b < Int32.ofInt a then Int32.ofInt b else Int32.ofInt a) = Int32.ofInt (if b < a then b else a) by
    by_cases h : b < a
    · rw [if_pos h, if_pos ((i32_lt hb ha).mpr h)]
    · rw [if_neg h, if_neg (fun q => h ((i32_lt hb ha).mp q))]]
  exact k
theorem st_abs (hX : slCx X own cc) {a : Int} (hS : slMath own idx Lib.Math.abs.name Lib.Math.abs.code 1) (hR : slRoom X d K) (hd1 : 1 ≤ d) (hu : u ≤ K) (hst : slW st ≤ 8) (hd : decode cc pc = .ok (.invokestatic idx, 3)) (ha : InR a) (kk : slOK X Q u (pc + 3) ls (sI (if 0 ≤ a then a else 0 - a) :: st) σ) : slOK X Q u pc ls (sI a :: st) σ := by
  intro H locs lsA h1 h2 h3 h4
  obtain ⟨s1, s2, s3, s4⟩ := hS
  obtain ⟨r1, r2, r3, r4⟩ := hR
  refine va_mabs hX.1 hX.2.1 h3.1.symm hX.2.2.1 (slWord hX s1 rfl) (slWord hX s2 rfl) (slWord hX s3 rfl) (slWord hX s4 rfl) (by omega) (by rw [slW_eq]; omega) (by omega) (by omega) hd ?_
  have k := kk H locs lsA h1 h2 h3 ⟨trivial, h4.2⟩
  rw [List.map_cons] at k
  rw [show (if 0 ≤ Int32.ofInt a then Int32.ofInt a else 0 - Int32.ofInt a) = Int32.ofInt (if 0 ≤ a then a else 0 - a) by
    have e9 : (0 : Int32) ≤ Int32.ofInt a ↔ 0 ≤ a := i32_le (x := 0) ⟨by omega, by omega⟩ ha
    by_cases h : 0 ≤ a
    · rw [if_pos h, if_pos (e9.mpr h)]
    · rw [if_neg h, if_neg (fun q => h (e9.mp q)), Int32.ofInt_sub]
      rfl]
  exact k
theorem st_ldc (hX : slCx X own cc) {n : Int} {v : Int32} (hv : Int32.ofInt n = v) (hS : Cond.constant own idx v ∈ lw_tbl) (hd : decode cc pc = .ok (.ldc idx, 2)) (kk : slOK X Q u (pc + 2) ls (sI n :: st) σ) : slOK X Q u pc ls st σ := by
  intro H locs lsA h1 h2 h3 h4
  subst hv
  exact lv_ldc hX.1 hX.2.1 hX.2.2.1 (slWord hX hS rfl) hd (kk H locs lsA h1 h2 h3 ⟨trivial, h4⟩)
theorem st_ldcw (hX : slCx X own cc) {n : Int} {v : Int32} (hv : Int32.ofInt n = v) (hS : Cond.constant own idx v ∈ lw_tbl) (hd : decode cc pc = .ok (.ldc_w idx, 3)) (kk : slOK X Q u (pc + 3) ls (sI n :: st) σ) : slOK X Q u pc ls st σ := by
  intro H locs lsA h1 h2 h3 h4
  subst hv
  exact lv_ldcw hX.1 hX.2.1 hX.2.2.1 (slWord hX hS rfl) hd (kk H locs lsA h1 h2 h3 ⟨trivial, h4⟩)
theorem st_ldc2 (hX : slCx X own cc) {n : Int} {v : Int64} (hv : Int64.ofInt n = v) (hS : Cond.constantLong own idx v ∈ lw_tbl) (hd : decode cc pc = .ok (.ldc2_w idx, 3)) (kk : slOK X Q u (pc + 3) ls (sL n :: st) σ) : slOK X Q u pc ls st σ := by
  intro H locs lsA h1 h2 h3 h4
  subst hv
  exact lv_ldc2 hX.1 hX.2.1 hX.2.2.1 (slWord hX hS rfl) hd (kk H locs lsA h1 h2 h3 ⟨trivial, h4⟩)
theorem slWordX (hX : slCx X own cc) {w : Cond} (h : w ∈ lw_tbl) (hg : wOk w = true) {a' : Array Value} : w.before a' (xs X) = true := by
  have h0 := hX.2.2.2.1.1 w h
  have hW := hX.2.2.2.2.1
  cases w
  case castable => exact va_Nw.use rfl (va_Nw.warmC hW (va_Nw.of rfl h0))
  case declares => exact va_Nw.use rfl (va_Nw.warmD hW (va_Nw.of rfl h0))
  case methodLinkNest => exact va_Nw.use rfl (va_Nw.warmM hW (va_Nw.of rfl h0))
  all_goals exact slWord hX h hg
theorem slZq {C n9 D9 : String} (hX : slCx X own cc) (h : vx_Zq C n9 D9 (slA (xG X)) (slS0 (xG X)) (slS0 (xG X)).heap) : vx_Zq C n9 D9 (slA (xG X)) (xs X) (xs X).heap :=
  vx_Zq.moved hX.2.2.2.2.1.alike (h.kept (fun a ha _ => hX.2.2.2.2.2.2 a ha))
end Nest9
