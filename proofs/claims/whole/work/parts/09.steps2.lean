/-! ===== memory: fields and arrays ===== -/
theorem slR_small (r : Nat) : (slR r).2.1 ≤ 2100 := by
  have h : ∀ q ∈ slRL, q.2.1 ≤ 2100 := by decide +kernel
  unfold slR
  rw [List.getD_eq_getElem?_getD]
  cases hq : slRL[r]? with
  | none => simp
  | some q => exact h q (List.mem_of_getElem? hq)
theorem slAt_obj {G : slG} {σ : slM} {r i : Nat} {H : Heap} (h0 : (slR r).1 = 0) : slAt G σ r i H ↔ t_OB (slAd G r i) ((slDm G).1 r) (slR r).2.1 ((slDm G).2 r) H (fun k => slD G (slGet σ r i k)) ∧ ∀ k, k < (slR r).2.1 → slVal (slGet σ r i k) := by
  unfold slAt; simp only [h0]
theorem slAt_int {G : slG} {σ : slM} {r i : Nat} {H : Heap} (h0 : (slR r).1 = 1) : slAt G σ r i H ↔ H[slAd G r i]? = some (arrV (slCA G 0) (slR r).2.1 (fun j => .int (Int32.ofInt (σ r i j)))) := by
  unfold slAt; simp only [h0]
theorem slAt_bool {G : slG} {σ : slM} {r i : Nat} {H : Heap} (h0 : (slR r).1 = 2) : slAt G σ r i H ↔ H[slAd G r i]? = some (arrV (slCA G 1) (slR r).2.1 (fun j => .int (Int32.ofInt (σ r i j)))) := by
  unfold slAt; simp only [h0]
theorem slAt_long {G : slG} {σ : slM} {r i : Nat} {H : Heap} (h0 : (slR r).1 = 3) : slAt G σ r i H ↔ H[slAd G r i]? = some (arrV (slCA G 2) (slR r).2.1 (fun j => .long (Int64.ofInt (σ r i j)))) := by
  unfold slAt; simp only [h0]
theorem slAt_congr {G : slG} {σ σ' : slM} {r i : Nat} {H H' : Heap} (hs : ∀ k, σ' r i k = σ r i k) (hH : H'[slAd G r i]? = H[slAd G r i]?) (h : slAt G σ r i H) : slAt G σ' r i H' := by
  have hg : ∀ k, slGet σ' r i k = slGet σ r i k := fun k => by simp only [slGet, hs]
  by_cases h0 : (slR r).1 = 0
  · rw [slAt_obj h0] at h ⊢
    exact ⟨(h.1.kept hH).to (fun k _ => by rw [hg]), fun k hk => by rw [hg]; exact h.2 k hk⟩
  · by_cases h1 : (slR r).1 = 1
    · rw [slAt_int h1] at h ⊢
      simp only [hs]
      rw [hH]; exact h
    · by_cases h2 : (slR r).1 = 2
      · rw [slAt_bool h2] at h ⊢
        simp only [hs]
        rw [hH]; exact h
      · by_cases h3 : (slR r).1 = 3
        · rw [slAt_long h3] at h ⊢
          simp only [hs]
          rw [hH]; exact h
        · unfold slAt
          split <;> first | trivial | omega
theorem slRep.upd {G : slG} {σ σ' : slM} {r0 i0 : Nat} {H H' : Heap} (hG : slGood G) (h : slRep G σ H) (hi : i0 < (slR r0).2.2) (hk : (slR r0).1 < 4) (hq : ∀ q, q ≠ slAd G r0 i0 → H'[q]? = H[q]?)
    (hs : ∀ r i, ¬ (r = r0 ∧ i = i0) → ∀ k, σ' r i k = σ r i k) (ha : slAt G σ' r0 i0 H') : slRep G σ' H' := by
  intro r i hri
  by_cases e : r = r0 ∧ i = i0
  · obtain ⟨rfl, rfl⟩ := e
    exact ha
  · by_cases h4 : (slR r).1 < 4
    · refine slAt_congr (hs r i e) (hq _ fun q => e ?_) (h r i hri)
      exact hG.2.2.2.1 r i r0 i0 hri h4 hi hk q
    · unfold slAt
      split <;> first | trivial | omega
theorem slU_o {σ : slM} {r0 i0 k0 : Nat} {x : Int} : ∀ r i, ¬ (r = r0 ∧ i = i0) → ∀ k, slU σ r0 i0 k0 x r i k = σ r i k := fun r i h k => by
  unfold slU
  rw [if_neg (fun q => h ⟨q.1, q.2.1⟩)]
theorem slWords {X : slX} {own : String} {cc : ByteArray} (hX : slCx X own cc) {ws : List Cond} (h : GoodIn lw_tbl ws) {a' : Array Value} : ∀ w ∈ ws, w.before a' (xs X) = true :=
  fun w hw => word_at hX.2.2.2.2.1 (h w hw).2 (hX.2.2.2.1.1 w (h w hw).1)
theorem slWord {X : slX} {own : String} {cc : ByteArray} (hX : slCx X own cc) {w : Cond} (h : w ∈ lw_tbl) (hg : goodWord w = true) {a' : Array Value} : w.before a' (xs X) = true :=
  word_at hX.2.2.2.2.1 (good_of_word hg) (hX.2.2.2.1.1 w h)
theorem slK {X : slX} {own : String} {cc : ByteArray} (hX : slCx X own cc) : va_K (slDm (xG X)) vwCl [(slCA (xG X) 0, .int), (slCA (xG X) 1, .boolean), (slCA (xG X) 2, .long)] (xs X) := va_K.moved hX.2.2.2.2.1.alike hX.2.2.2.1.2.1
theorem sl_in {j : Int} {n : Nat} (h0 : 0 ≤ j) (h1 : j < n) (hn : n ≤ 2100) : ¬ (Int32.ofInt j < 0 ∨ n ≤ (Int32.ofInt j).toNatClampNeg) := by
  have hr : InR j := ⟨by omega, by omega⟩
  rintro (h | h)
  · exact absurd ((i32_lt hr (y := 0) ⟨by omega, by omega⟩).mp h) (by omega)
  · have : (Int32.ofInt j).toNatClampNeg = j.toNat := by rw [Int32.toNatClampNeg, i32_to hr]
    omega
theorem sl_cl {j : Int} (h0 : 0 ≤ j) (h1 : j < 2147483648) : (Int32.ofInt j).toNatClampNeg = j.toNat := by
  have hr : InR j := ⟨by omega, by omega⟩
  rw [Int32.toNatClampNeg, i32_to hr]
section Steps2
variable {X : slX} {Q : State → Prop} {u pc : Nat} {ls ls' : List (Option slV)} {st : List slV} {σ : slM} {own : String} {cc : ByteArray}
theorem st_getf (hX : slCx X own cc) {r i k idx : Nat} {v : slV} (hF : slFd own idx r k) (hd : decode cc pc = .ok (.getfield idx, 3)) (hv : slGet σ r i k = v) (kk : slOK X Q u (pc + 3) ls (v :: st) σ) : slOK X Q u pc ls (sR r i :: st) σ := by
  intro H locs lsA h1 h2 h3 h4
  have hri : i < (slR r).2.2 := h4.1
  obtain ⟨C, T, N, ty, ⟨c1, c2, c3, c4, c5, c6⟩, hk, hl⟩ := hF
  obtain ⟨⟨cell, q1, q2, q3, q4⟩, hval⟩ := (slAt_obj c2).mp (h1 r i hri)
  obtain ⟨hS, hfc, kC, hkC, hkind⟩ := (slK hX).1 r _ c1
  obtain ⟨cf, kf, fi, f, hi, hsl⟩ := hS k hk
  rw [c3] at q4 hval
  have hts := slWords hX c4 (a' := xa X)
  refine W.getf hX.1 hX.2.1 hX.2.2.1 (slWord hX hl rfl) hi (u_facts hfc hkC (u_lays hts (fun _ h => h) hk) hi).1 q1 (by rw [q3]; exact fun h => by cases h) (v := slD (xG X) v) ?_ rfl rfl hd (kk H locs lsA h1 h2 h3 ⟨by rw [← hv]; exact hval k hk, h4.2⟩)
  rw [hsl, q4 k hk]
  show some (slD (xG X) (slGet σ r i k)) = _
  rw [hv]
/-- a store, over any change of memory that is this field's alone -/
theorem st_put (hX : slCx X own cc) {r i k idx : Nat} {v : slV} {x : Int} {t : FieldType} (hF : slFp own idx r k t) (hd : decode cc pc = .ok (.putfield idx, 3)) (hn : narrow t (slD (xG X) v) = slD (xG X) v) (hfit : fits t (slD (xG X) v) = true)
    (hv : ∀ τ : slM, τ r i k = x → slGet τ r i k = v) (ho : ∀ k', k' ≠ k → slGet (slU σ r i k x) r i k' = slGet σ r i k') (kk : slOK X Q u (pc + 3) ls st (slU σ r i k x)) : slOK X Q u pc ls (v :: sR r i :: st) σ := by
  intro H locs lsA h1 h2 h3 h4
  have hri : i < (slR r).2.2 := h4.2.1
  obtain ⟨C, T, N, ty, ⟨c1, c2, c3, c4, c5, c6⟩, hk, hl, hfin, rfl⟩ := hF
  obtain ⟨⟨cell, q1, q2, q3, q4⟩, hval⟩ := (slAt_obj c2).mp (h1 r i hri)
  have hK := slK hX
  obtain ⟨hS, hfc, kC, hkC, hkind⟩ := hK.1 r _ c1
  obtain ⟨cf, kf, fi, f, hi, hsl⟩ := hS k hk
  rw [c3] at q4 hval
  have hts := slWords hX c4 (a' := xa X)
  have hap := va_apart (own := own) hts (fun _ h => h) ty c5 c6 hK c1
  have hlay := hts _ (u_in_lay hk)
  unfold u_lay at hlay
  rw [if_neg (by rw [hfin]; decide)] at hlay
  have hst := (u_facts hfc hkC (u_lays hts (fun _ h => h) hk) hi).1
  have h6 := u_store hfc hkC hkind hlay hi (c5 k hk) hn hfit
  refine W.putK hX.1 hX.2.1 (f := f) ⟨hX.2.2.1, slWord hX hl rfl, ⟨_, _, _, hi⟩, hst⟩ (by rw [q2]; exact h6) q1 q3 (by rw [hsl]; exact k2_hasslot (q4 k hk)) rfl rfl hd fun H' e1 e2 e3 => ?_
  rw [hsl] at e1 ⊢
  have hA : slBase (xG X) ≤ slAd (xG X) r i := hX.2.2.2.1.2.2.1 r i hri (by omega)
  refine kk H' _ lsA (slRep.upd hX.2.2.2.1 h1 hri (by omega) e3 slU_o ((slAt_obj c2).mpr ⟨?_, ?_⟩)) (h2.put e2 e3 hA) h3 h4.2.2
  · rw [c3]
    refine ⟨_, e1, q2, q3, fun j hj => ?_⟩
    have h8 := t_set q4 hap hk (slD (xG X) v) j hj
    rw [h8]
    show _ = some (slD (xG X) (slGet (slU σ r i k x) r i j))
    by_cases e : j = k
    · subst e
      rw [hv _ (slU_same σ r i j x)]
      simp [updV]
    · rw [ho j e]
      simp [updV, e]
  · rw [c3]
    intro j hj
    by_cases e : j = k
    · subst e
      rw [hv _ (slU_same σ r i j x)]
      exact h4.1
    · rw [ho j e]
      exact hval j hj
theorem slGet_o {σ : slM} {r i k k' : Nat} {x : Int} (h : k' ≠ k) : slGet (slU σ r i k x) r i k' = slGet σ r i k' := by
  unfold slGet
  rw [slU_k h]
theorem st_putI (hX : slCx X own cc) {r i k idx : Nat} {x : Int} (hF : slFp own idx r k .int) (h0 : (slF r k).1 = 0) (hd : decode cc pc = .ok (.putfield idx, 3)) (kk : slOK X Q u (pc + 3) ls st (slU σ r i k x)) : slOK X Q u pc ls (sI x :: sR r i :: st) σ :=
  st_put hX hF hd rfl rfl (fun τ h => by simp only [slGet, h0, h]) (fun _ h => slGet_o h) kk
theorem st_putZ (hX : slCx X own cc) {r i k idx : Nat} {x : Int} (hF : slFp own idx r k .boolean) (h0 : (slF r k).1 = 1) (hd : decode cc pc = .ok (.putfield idx, 3)) (hx : x = 0 ∨ x = 1) (kk : slOK X Q u (pc + 3) ls st (slU σ r i k x)) : slOK X Q u pc ls (sI x :: sR r i :: st) σ := by
  refine st_put hX hF hd ?_ ?_ (fun τ h => by simp only [slGet, h0, h]) (fun _ h => slGet_o h) kk <;> rcases hx with rfl | rfl <;> rfl
theorem st_putL (hX : slCx X own cc) {r i k idx : Nat} {x : Int} (hF : slFp own idx r k .long) (h0 : (slF r k).1 = 2) (hd : decode cc pc = .ok (.putfield idx, 3)) (kk : slOK X Q u (pc + 3) ls st (slU σ r i k x)) : slOK X Q u pc ls (sL x :: sR r i :: st) σ :=
  st_put hX hF hd rfl rfl (fun τ h => by simp only [slGet, h0, h]) (fun _ h => slGet_o h) kk
theorem st_putR (hX : slCx X own cc) {r i k idx r' j o : Nat} {C : String} (hF : slFp own idx r k (.object C)) (h0 : slF r k = (4, r', o)) (hd : decode cc pc = .ok (.putfield idx, 3)) (kk : slOK X Q u (pc + 3) ls st (slU σ r i k (j : Int))) : slOK X Q u pc ls (sR r' j :: sR r i :: st) σ :=
  st_put hX hF hd rfl rfl (fun τ h => by simp only [slGet, h0, h, Int.toNat_natCast]) (fun _ h => slGet_o h) kk
theorem st_putT (hX : slCx X own cc) {r i k idx r' : Nat} {t : FieldType} (hF : slFp own idx r k (.array t)) (h0 : (slF r k).1 = 5) (hd : decode cc pc = .ok (.putfield idx, 3)) (kk : slOK X Q u (pc + 3) ls st (slU σ r i k (r' : Int))) : slOK X Q u pc ls (sR r' 0 :: sR r i :: st) σ :=
  st_put hX hF hd rfl rfl (fun τ h => by simp only [slGet, h0, h, Int.toNat_natCast]) (fun _ h => slGet_o h) kk
theorem st_iaload (hX : slCx X own cc) {r i : Nat} {j : Int} (hr : (slR r).1 = 1) (hd : decode cc pc = .ok (.iaload, 1)) (h0 : 0 ≤ j) (hn : j < (slR r).2.1) (kk : slOK X Q u (pc + 1) ls (sI (σ r i j.toNat) :: st) σ) : slOK X Q u pc ls (sI j :: sR r i :: st) σ := by
  intro H locs lsA h1 h2 h3 h4
  have hri : i < (slR r).2.2 := h4.2.1
  have ha := (slAt_int hr).mp (h1 r i hri)
  have hs := slR_small r
  have hc := sl_cl h0 (by omega)
  refine W.iald (v := .int (Int32.ofInt (σ r i j.toNat))) hX.1 hX.2.1 ha (((slK hX).2 0 _ rfl).1 _ _) (fun q => by cases q) (by rw [arrV_size]; exact sl_in h0 hn hs) (by rw [arrV_read _ _ (by rw [hc]; omega), hc]) rfl rfl hd (kk H locs lsA h1 h2 h3 ⟨trivial, h4.2.2⟩)
theorem st_baload (hX : slCx X own cc) {r i : Nat} {j : Int} (hr : (slR r).1 = 2) (hd : decode cc pc = .ok (.baload, 1)) (h0 : 0 ≤ j) (hn : j < (slR r).2.1) (kk : slOK X Q u (pc + 1) ls (sI (σ r i j.toNat) :: st) σ) : slOK X Q u pc ls (sI j :: sR r i :: st) σ := by
  intro H locs lsA h1 h2 h3 h4
  have hri : i < (slR r).2.2 := h4.2.1
  have ha := (slAt_bool hr).mp (h1 r i hri)
  have hs := slR_small r
  have hc := sl_cl h0 (by omega)
  refine W.zald (v := .int (Int32.ofInt (σ r i j.toNat))) hX.1 hX.2.1 ha (((slK hX).2 1 _ rfl).1 _ _) (fun q => by cases q) (by rw [arrV_size]; exact sl_in h0 hn hs) (by rw [arrV_read _ _ (by rw [hc]; omega), hc]) rfl rfl hd (kk H locs lsA h1 h2 h3 ⟨trivial, h4.2.2⟩)
theorem st_laload (hX : slCx X own cc) {r i : Nat} {j : Int} (hr : (slR r).1 = 3) (hd : decode cc pc = .ok (.laload, 1)) (h0 : 0 ≤ j) (hn : j < (slR r).2.1) (kk : slOK X Q u (pc + 1) ls (sL (σ r i j.toNat) :: st) σ) : slOK X Q u pc ls (sI j :: sR r i :: st) σ := by
  intro H locs lsA h1 h2 h3 h4
  have hri : i < (slR r).2.2 := h4.2.1
  have ha := (slAt_long hr).mp (h1 r i hri)
  have hs := slR_small r
  have hc := sl_cl h0 (by omega)
  refine W.lald (v := .long (Int64.ofInt (σ r i j.toNat))) hX.1 hX.2.1 ha (((slK hX).2 2 _ rfl).1 _ _) (fun q => by cases q) (by rw [arrV_size]; exact sl_in h0 hn hs) (by rw [arrV_read _ _ (by rw [hc]; omega), hc]) rfl rfl hd (kk H locs lsA h1 h2 h3 ⟨trivial, h4.2.2⟩)
theorem sl_store {σ : slM} {r i k : Nat} {x : Int} {f : Int → Value} : updV (fun j => f (σ r i j)) k (f x) = fun j => f (slU σ r i k x r i j) := by
  funext j
  by_cases e : j = k
  · subst e; simp [updV, slU]
  · simp [updV, slU, e]
theorem st_iastore (hX : slCx X own cc) {r i : Nat} {j x : Int} (hr : (slR r).1 = 1) (hd : decode cc pc = .ok (.iastore, 1)) (h0 : 0 ≤ j) (hn : j < (slR r).2.1) (kk : slOK X Q u (pc + 1) ls st (slU σ r i j.toNat x)) : slOK X Q u pc ls (sI x :: sI j :: sR r i :: st) σ := by
  intro H locs lsA h1 h2 h3 h4
  have hri : i < (slR r).2.2 := h4.2.2.1
  have ha := (slAt_int hr).mp (h1 r i hri)
  have hs := slR_small r
  have hc := sl_cl h0 (by omega)
  refine W.iast hX.1 hX.2.1 ha (((slK hX).2 0 _ rfl).1 _ _) (fun q => by cases q) (by rw [arrV_size]; exact sl_in h0 hn hs) rfl rfl hd fun H1 e z oq => ?_
  have hA : slBase (xG X) ≤ slAd (xG X) r i := hX.2.2.2.1.2.2.1 r i hri (by omega)
  refine kk H1 _ lsA (slRep.upd hX.2.2.2.1 h1 hri (by omega) oq slU_o ((slAt_int hr).mpr ?_)) (h2.put z oq hA) h3 h4.2.2.2
  rw [e, hc, arrV_store]
  exact congrArg some (congrArg (arrV _ _) (sl_store (f := fun y => .int (Int32.ofInt y))))
theorem st_bastore (hX : slCx X own cc) {r i : Nat} {j x : Int} (hr : (slR r).1 = 2) (hd : decode cc pc = .ok (.bastore, 1)) (h0 : 0 ≤ j) (hn : j < (slR r).2.1) (hx : x = 0 ∨ x = 1) (kk : slOK X Q u (pc + 1) ls st (slU σ r i j.toNat x)) : slOK X Q u pc ls (sI x :: sI j :: sR r i :: st) σ := by
  intro H locs lsA h1 h2 h3 h4
  have hri : i < (slR r).2.2 := h4.2.2.1
  have ha := (slAt_bool hr).mp (h1 r i hri)
  have hs := slR_small r
  have hc := sl_cl h0 (by omega)
  refine W.zast hX.1 hX.2.1 ha (((slK hX).2 1 _ rfl).1 _ _) (fun q => by cases q) (by rw [arrV_size]; exact sl_in h0 hn hs) rfl rfl hd fun H1 e z oq => ?_
  have hA : slBase (xG X) ≤ slAd (xG X) r i := hX.2.2.2.1.2.2.1 r i hri (by omega)
  refine kk H1 _ lsA (slRep.upd hX.2.2.2.1 h1 hri (by omega) oq slU_o ((slAt_bool hr).mpr ?_)) (h2.put z oq hA) h3 h4.2.2.2
  have hnar : narrow .boolean (.int (Int32.ofInt x)) = .int (Int32.ofInt x) := by rcases hx with rfl | rfl <;> rfl
  rw [e, hc, hnar, arrV_store]
  exact congrArg some (congrArg (arrV _ _) (sl_store (f := fun y => .int (Int32.ofInt y))))
theorem st_lastore (hX : slCx X own cc) {r i : Nat} {j x : Int} (hr : (slR r).1 = 3) (hd : decode cc pc = .ok (.lastore, 1)) (h0 : 0 ≤ j) (hn : j < (slR r).2.1) (kk : slOK X Q u (pc + 1) ls st (slU σ r i j.toNat x)) : slOK X Q u pc ls (sL x :: sI j :: sR r i :: st) σ := by
  intro H locs lsA h1 h2 h3 h4
  have hri : i < (slR r).2.2 := h4.2.2.1
  have ha := (slAt_long hr).mp (h1 r i hri)
  have hs := slR_small r
  have hc := sl_cl h0 (by omega)
  refine W.last hX.1 hX.2.1 ha (((slK hX).2 2 _ rfl).1 _ _) (fun q => by cases q) (by rw [arrV_size]; exact sl_in h0 hn hs) rfl rfl hd fun H1 e z oq => ?_
  have hA : slBase (xG X) ≤ slAd (xG X) r i := hX.2.2.2.1.2.2.1 r i hri (by omega)
  refine kk H1 _ lsA (slRep.upd hX.2.2.2.1 h1 hri (by omega) oq slU_o ((slAt_long hr).mpr ?_)) (h2.put z oq hA) h3 h4.2.2.2
  rw [e, hc, arrV_store]
  exact congrArg some (congrArg (arrV _ _) (sl_store (f := fun y => .long (Int64.ofInt y))))
theorem st_alen (hX : slCx X own cc) {r i n : Nat} (hr : (slR r).1 = 1) (hn : (slR r).2.1 = n) (hd : decode cc pc = .ok (.arraylength, 1)) (kk : slOK X Q u (pc + 1) ls (sI (n : Int) :: st) σ) : slOK X Q u pc ls (sR r i :: st) σ := by
  intro H locs lsA h1 h2 h3 h4
  have hri : i < (slR r).2.2 := h4.1
  have ha := (slAt_int hr).mp (h1 r i hri)
  subst hn
  refine W.alen (n := Int32.ofInt ((slR r).2.1 : Int)) hX.1 hX.2.1 ha (((slK hX).2 0 _ rfl).1 _ _) ?_ rfl rfl hd (kk H locs lsA h1 h2 h3 ⟨trivial, h4.2⟩)
  rw [arrV_size]
  rfl
end Steps2
