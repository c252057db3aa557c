/-! ===== laws read by the model ===== -/
def isWs : List Int → (Nat → Int) → Prop
  | [], _ => True
  | a :: V, f => f V.length = a ∧ isWs V f
def isTs : List Int → (Nat → Int) → Prop
  | [], _ => True
  | a :: V, f => f (V.length + 1) = a ∧ isTs V f
theorem isWs.c : ∀ {W : List Int} {f g : Nat → Int}, isWs W f → (∀ k, k < W.length → g k = f k) → isWs W g
  | [], _, _, _, _ => trivial
  | a :: V, f, g, h, e => ⟨(e _ (by simp)).trans h.1, isWs.c h.2 (fun k hk => e k (by simp; omega))⟩
theorem isTs.c : ∀ {W : List Int} {f g : Nat → Int}, isTs W f → (∀ k, 1 ≤ k → k ≤ W.length → g k = f k) → isTs W g
  | [], _, _, _, _ => trivial
  | a :: V, f, g, h, e => ⟨(e _ (by omega) (by simp)).trans h.1, isTs.c h.2 (fun k h1 hk => e k h1 (by simp; omega))⟩
/-- the code from a on spells these orders and ends at b -/
def isCd (f : Nat → Int) : Nat → List Int → Nat → Prop
  | a, [], b => a = b
  | a, o :: os, b => if 0 ≤ o then f a = 1 ∧ f (a + 1) = o ∧ isCd f (a + 2) os b else if -6 ≤ o then f a = 2 ∧ f (a + 1) = -1 - o ∧ isCd f (a + 2) os b else f a = abOp o ∧ isCd f (a + 1) os b
theorem isCd.le {f : Nat → Int} : ∀ {os : List Int} {a b : Nat}, isCd f a os b → a ≤ b
  | [], a, b, h => by have h : a = b := h; omega
  | o :: os, a, b, h => by
    unfold isCd at h
    split at h
    · have := isCd.le h.2.2; omega
    · split at h
      · have := isCd.le h.2.2; omega
      · have := isCd.le h.2; omega
theorem isCd.c {f g : Nat → Int} : ∀ {os : List Int} {a b : Nat}, isCd f a os b → (∀ k, a ≤ k → k < b → g k = f k) → isCd g a os b
  | [], a, b, h, _ => h
  | o :: os, a, b, h, e => by
    unfold isCd at h ⊢
    split
    · rename_i z
      rw [if_pos z] at h
      have l := isCd.le h.2.2
      exact ⟨(e a (by omega) (by omega)).trans h.1, (e (a + 1) (by omega) (by omega)).trans h.2.1, isCd.c h.2.2 (fun k h1 h2 => e k (by omega) h2)⟩
    · rename_i z
      rw [if_neg z] at h
      split
      · rename_i y
        rw [if_pos y] at h
        have l := isCd.le h.2.2
        exact ⟨(e a (by omega) (by omega)).trans h.1, (e (a + 1) (by omega) (by omega)).trans h.2.1, isCd.c h.2.2 (fun k h1 h2 => e k (by omega) h2)⟩
      · rename_i y
        rw [if_neg y] at h
        have l := isCd.le h.2
        exact ⟨(e a (by omega) (by omega)).trans h.1, isCd.c h.2 (fun k h1 h2 => e k (by omega) h2)⟩
theorem isCd.app {f : Nat → Int} : ∀ {os q : List Int} {a b c : Nat}, isCd f a os b → isCd f b q c → isCd f a (os ++ q) c
  | [], q, a, b, c, h, g => by
    have h : a = b := h
    rw [h]
    exact g
  | o :: os, q, a, b, c, h, g => by
    show isCd f a (o :: (os ++ q)) c
    unfold isCd at h ⊢
    split
    · rename_i z
      rw [if_pos z] at h
      exact ⟨h.1, h.2.1, isCd.app h.2.2 g⟩
    · rename_i z
      rw [if_neg z] at h
      split
      · rename_i y
        rw [if_pos y] at h
        exact ⟨h.1, h.2.1, isCd.app h.2.2 g⟩
      · rename_i y
        rw [if_neg y] at h
        exact ⟨h.1, isCd.app h.2 g⟩
theorem exOp_o {a : Int} (h : 3 ≤ a ∧ a ≤ 13) : ¬ 0 ≤ exOp a ∧ ¬ -6 ≤ exOp a ∧ abOp (exOp a) = a := by
  unfold exOp abOp
  split
  · subst a; decide
  · split
    · subst a; decide
    · rename_i h5 h4
      refine ⟨by omega, by omega, ?_⟩
      rw [if_neg (by omega), if_neg (by omega)]
      omega
theorem isCd_op {f : Nat → Int} {a : Int} {b : Nat} (h : 3 ≤ a ∧ a ≤ 13) (e : f b = a) : isCd f b [exOp a] (b + 1) := by
  have x := exOp_o h
  unfold isCd
  rw [if_neg x.1, if_neg x.2.1, x.2.2]
  exact ⟨e, rfl⟩
theorem isCd_num {f : Nat → Int} {v : Int} {b : Nat} (h : 0 ≤ v) (e1 : f b = 1) (e2 : f (b + 1) = v) : isCd f b [v] (b + 2) := by
  unfold isCd
  rw [if_pos h]
  exact ⟨e1, e2, rfl⟩
theorem isCd_val {f : Nat → Int} {v : Int} {b : Nat} (h : 0 ≤ v ∧ v ≤ 5) (e1 : f b = 2) (e2 : f (b + 1) = v) : isCd f b [-1 - v] (b + 2) := by
  unfold isCd
  rw [if_neg (by omega), if_pos (by omega)]
  exact ⟨e1, by omega, rfl⟩
theorem exDr_cnt {l : Int} : ∀ (W o : List Int), (exDr l W o).1.count 14 = W.count 14 ∧ (∀ a ∈ (exDr l W o).1, a ∈ W) ∧ (exDr l W o).1.length ≤ W.length
  | [], o => ⟨rfl, fun a h => h, Nat.le_refl _⟩
  | a :: W, o => by
    unfold exDr
    split
    · exact ⟨rfl, fun a h => h, Nat.le_refl _⟩
    · split
      · rename_i n14 _
        have ih := exDr_cnt (l := l) W (o ++ [exOp a])
        refine ⟨?_, fun b hb => List.mem_cons_of_mem _ (ih.2.1 b hb), by have := ih.2.2; simp; omega⟩
        rw [ih.1, List.count_cons_of_ne (by omega)]
      · exact ⟨rfl, fun a h => h, Nat.le_refl _⟩
def mWp (W : List Int) (σ : slM) : Prop := σ 12 0 40 = W.length ∧ isWs W (σ 86 0) ∧ ∀ a ∈ W, 3 ≤ a ∧ a ≤ 14
def mTp (T : List Int) (σ : slM) : Prop := σ 12 0 41 = T.length ∧ isTs T (σ 87 0) ∧ (∀ t ∈ T, t = 0 ∨ t = 1) ∧ σ 12 0 22 = -1
def mEF (σ τ : slM) : Prop := mFr [85, 86, 87] [21, 22, 25, 26, 27, 28, 29, 30, 31, 39, 40, 41] σ τ ∧ (∀ k : Nat, (k : Int) < σ 12 0 39 → τ 85 0 k = σ 85 0 k) ∧ σ 12 0 39 ≤ τ 12 0 39
theorem mEF.id {σ : slM} : mEF σ σ := ⟨mFr.id, fun _ _ => rfl, Int.le_refl _⟩
theorem mEF.tr {σ τ υ : slM} (h : mEF σ τ) (g : mEF τ υ) : mEF σ υ := ⟨h.1.tr g.1, fun k hk => (g.2.1 k (by have := h.2.2; omega)).trans (h.2.1 k hk), Int.le_trans h.2.2 g.2.2⟩
theorem mEF.nx {σ τ : slM} (h : mTF σ τ) : mEF σ τ := ⟨h.mono (by decide) (by decide), fun k _ => by rw [h.1 85 0 (by decide) (by decide)], by rw [h.2 39 (by decide)]; exact Int.le_refl _⟩
theorem mEF.up {σ τ : slM} {k : Nat} {v : Int} (h : mEF σ τ) (hk : k ∈ [21, 22, 25, 26, 27, 28, 29, 30, 31, 40, 41]) : mEF σ (slU τ 12 0 k v) := by
  have n39 : k ≠ 39 := fun z => by rw [z] at hk; exact absurd hk (by decide)
  refine ⟨mFr.up12 h.1 (by
    have key : ∀ k ∈ [21, 22, 25, 26, 27, 28, 29, 30, 31, 40, 41], k ∈ [21, 22, 25, 26, 27, 28, 29, 30, 31, 39, 40, 41] := by decide
    exact key k hk), fun j hj => ?_, ?_⟩
  · rw [slU_else (by decide)]; exact h.2.1 j hj
  · rw [slU_ne (fun z => n39 z.symm)]; exact h.2.2
theorem mEF.up8 {σ τ : slM} {r k : Nat} {v : Int} (h : mEF σ τ) (hr : r = 86 ∨ r = 87) : mEF σ (slU τ r 0 k v) := by
  refine ⟨mFr.up h.1 (by rcases hr with e | e <;> rw [e] <;> decide) (by omega), fun j hj => ?_, ?_⟩
  · rw [slU_else (by omega)]; exact h.2.1 j hj
  · rw [slU_else (by omega)]; exact h.2.2
theorem mWp.c {W : List Int} {σ τ : slM} (h : mWp W σ) (e40 : τ 12 0 40 = σ 12 0 40) (e86 : τ 86 0 = σ 86 0) : mWp W τ := by
  unfold mWp
  rw [e40, e86]
  exact h
theorem mTp.c {T : List Int} {σ τ : slM} (h : mTp T σ) (e41 : τ 12 0 41 = σ 12 0 41) (e87 : τ 87 0 = σ 87 0) (e22 : τ 12 0 22 = σ 12 0 22) : mTp T τ := by
  unfold mTp
  rw [e41, e87, e22]
  exact h
set_option maxHeartbeats 1000000 in
set_option maxRecDepth 4000 in
theorem sp_X12_wrong {G : slG} (hG : slGood G) {d K : Nat} (hd : 0 ≤ d) (hK : 0 ≤ K) {Φ : slPost} {σ : slM} {x1 : Int} {q : Int} (g : σ 12 0 21 = 0) (e27 : σ 12 0 27 = q) (h : Φ (0, 0) (slU (slU σ 12 0 21 x1) 12 0 22 q)) :
    slCall G mX12_wrong d K [sR 12 0, sI x1] σ Φ := by
  refine vc_X12_wrong hG (by omega) hK  ?_
  rw [g, slU_ne (by decide), e27]
  exact ⟨⟨by decide, by decide⟩, fun _ => h, fun z => absurd rfl z⟩
theorem sp_wrongf {G : slG} (hG : slGood G) {d K : Nat} {Φ : slPost} {σ : slM} {x1 : Int} (g : σ 12 0 21 ≠ 0) (i : InR (σ 12 0 21)) (h : Φ (0, 0) σ) : slCall G mX12_wrong d K [sR 12 0, sI x1] σ Φ :=
  vc_X12_wrong hG (by omega) (by omega) ⟨i, fun z => absurd z g, fun _ => h⟩
set_option maxHeartbeats 1000000 in
set_option maxRecDepth 4000 in
theorem sp_X12_isGood {G : slG} (hG : slGood G) {d K : Nat} (hd : 0 ≤ d) (hK : 0 ≤ K) {Φ : slPost} {σ : slM}  (i : InR (σ 12 0 21)) (h1 : σ 12 0 21 = 0 → Φ (0, 1) σ) (h0 : ¬ σ 12 0 21 = 0 → Φ (0, 0) σ) :
    slCall G mX12_isGood d K [sR 12 0] σ Φ := by
  refine vc_X12_isGood hG (by omega) hK  ?_
  exact ⟨i, fun z => h0 z, fun z => h1 z⟩
theorem sp_good {G : slG} (hG : slGood G) {d K : Nat} {Φ : slPost} {σ : slM} (g : σ 12 0 21 = 0) (h : Φ (0, 1) σ) : slCall G mX12_isGood d K [sR 12 0] σ Φ :=
  sp_X12_isGood hG (by omega) (by omega) (by rw [g]; exact ⟨by decide, by decide⟩) (fun _ => h) (fun z => absurd g z)
theorem sp_bad {G : slG} (hG : slGood G) {d K : Nat} {Φ : slPost} {σ : slM} (g : 1 ≤ σ 12 0 21 ∧ σ 12 0 21 ≤ 5) (h : Φ (0, 0) σ) : slCall G mX12_isGood d K [sR 12 0] σ Φ :=
  sp_X12_isGood hG (by omega) (by omega) ⟨by omega, by omega⟩ (fun z => by omega) (fun _ => h)
set_option maxHeartbeats 1000000 in
set_option maxRecDepth 4000 in
theorem sp_X12_isSign {G : slG} (hG : slGood G) {d K : Nat} (hd : 0 ≤ d) (hK : 0 ≤ K) {Φ : slPost} {σ : slM} {x1 : Int} {X : abX} {p : Int} (T : isTm X p σ) (h1 : 40 ≤ x1 ∧ x1 ≤ 61) (h : Φ (0, abIf (lxK X p = x1) 1 0) σ) :
    slCall G mX12_isSign d K [sR 12 0, sI x1] σ Φ := by
  refine vc_X12_isSign hG (by omega) hK  ?_
  have r := lxK_r (X := X) (p := p)
  have s := mSo_r (k := lxK X p)
  rw [T.2.2.1]
  refine ⟨⟨by omega, by omega⟩, fun q => ?_, fun q => ?_⟩
  · rwa [abIf_f (fun z => q (mSo_3.mpr (by omega)))] at h
  · have k40 := mSo_3.mp q
    rw [T.2.2.2.2.2.2.1 k40]
    refine ⟨⟨⟨by omega, by omega⟩, by omega, by omega⟩, fun z => ?_, fun z => ?_⟩
    · rwa [abIf_f z] at h
    · rwa [abIf_t z] at h
set_option maxHeartbeats 1000000 in
set_option maxRecDepth 4000 in
theorem sp_X12_puts {G : slG} (hG : slGood G) {d K : Nat} (hd : 0 ≤ d) (hK : 0 ≤ K) {Φ : slPost} {σ : slM} {x1 : Int} (h0 : 0 ≤ σ 12 0 39 ∧ σ 12 0 39 < 2100) (h : ∀ τ, mEF σ τ → τ 12 0 39 = σ 12 0 39 + 1 → τ 85 0 (σ 12 0 39).toNat = x1 → (∀ k, k ≠ 39 → τ 12 0 k = σ 12 0 k) → τ 86 0 = σ 86 0 → τ 87 0 = σ 87 0 → τ 72 0 = σ 72 0 → Φ (0, 0) τ) :
    slCall G mX12_puts d K [sR 12 0, sI x1] σ Φ := by
  refine vc_X12_puts hG (by omega) hK  ?_
  refine ⟨h0, h _ ⟨mFr.up12 (mFr.up mFr.id (by decide) (by decide)) (by decide), fun k hk => ?_, ?_⟩ ?_ ?_ (fun k hk => ?_) ?_ ?_ ?_⟩
  · rw [slU_else (by decide), slU_ne (by omega)]
  · rw [slU_same, slU_else (by decide)]; omega
  · rw [slU_same, slU_else (by decide)]
  · rw [slU_else (by decide), slU_same]
  · rw [slU_ne hk, slU_else (by decide)]
  · rw [slU_else (by decide), slU_else (by decide)]
  · rw [slU_else (by decide), slU_else (by decide)]
  · rw [slU_else (by decide), slU_else (by decide)]
set_option maxHeartbeats 1000000 in
set_option maxRecDepth 4000 in
theorem sp_X12_isOpen {G : slG} (hG : slGood G) {d K : Nat} (hd : 0 ≤ d) (hK : 0 ≤ K) {Φ : slPost} {σ : slM} {x0 : Int} (i : InR x0) (h1 : 14 ≤ x0 → Φ (0, 1) σ) (h0 : ¬ 14 ≤ x0 → Φ (0, 0) σ) :
    slCall G mX12_isOpen d K [sI x0] σ Φ := by
  refine vc_X12_isOpen hG (by omega) hK  ?_
  exact ⟨i, fun z => h0 (by omega), fun z => h1 (by omega)⟩
set_option maxHeartbeats 1000000 in
set_option maxRecDepth 4000 in
theorem sp_X12_strength {G : slG} (hG : slGood G) {d K : Nat} (hd : 0 ≤ d) (hK : 0 ≤ K) {Φ : slPost} {σ : slM} {x0 : Int} (i : InR x0) (h : Φ (0, exSt x0) σ) :
    slCall G mX12_strength d K [sI x0] σ Φ := by
  refine vc_X12_strength hG (by omega) hK  ?_
  unfold exSt at h
  refine ⟨i, fun q5 => ⟨i, fun q4 => ⟨i, fun q3 => ⟨i, fun q6 => ?_, fun q6 => ⟨i, fun q7 => ⟨i, fun q8 => ?_, fun q8 => ⟨i, fun q9 => ?_, fun q9 => ?_⟩⟩, fun q7 => ?_⟩⟩, fun q3 => ?_⟩, fun q4 => ?_⟩, fun q5 => ?_⟩
  · rwa [if_neg q5, if_neg q4, if_neg q3, if_pos q6] at h
  · rwa [if_neg q5, if_neg q4, if_neg q3, if_neg q6, if_neg q7, if_pos q8] at h
  · rwa [if_neg q5, if_neg q4, if_neg q3, if_neg q6, if_neg q7, if_neg q8, if_neg q9] at h
  · rwa [if_neg q5, if_neg q4, if_neg q3, if_neg q6, if_neg q7, if_neg q8, if_pos q9] at h
  · rwa [if_neg q5, if_neg q4, if_neg q3, if_neg q6, if_pos q7] at h
  · rwa [if_neg q5, if_neg q4, if_pos q3] at h
  · rwa [if_neg q5, if_pos q4] at h
  · rwa [if_pos q5] at h
/-- all but waits and code stands -/
def mDF (σ τ : slM) : Prop := mEF σ τ ∧ (∀ k, k ≠ 39 → k ≠ 40 → τ 12 0 k = σ 12 0 k) ∧ τ 87 0 = σ 87 0 ∧ τ 72 0 = σ 72 0
theorem mDF.id {σ : slM} : mDF σ σ := ⟨mEF.id, fun _ _ _ => rfl, rfl, rfl⟩
set_option maxHeartbeats 1000000 in
set_option maxRecDepth 4000 in
theorem sp_X12_drops {G : slG} (hG : slGood G) {d K : Nat} (hd : 4 ≤ d) (hK : 0 ≤ K) {Φ : slPost} {σ : slM} {x1 : Int} {W o : List Int} {a0 : Nat} (hW : mWp W σ) (i1 : InR x1) (h0 : 0 ≤ σ 12 0 39 ∧ σ 12 0 39 + W.length ≤ 2000) (hl : W.length ≤ 800) (h : ∀ τ, mDF σ τ → mWp (exDr x1 W o).1 τ → τ 12 0 39 + (exDr x1 W o).1.length = σ 12 0 39 + W.length → (isCd (σ 85 0) a0 o (σ 12 0 39).toNat → isCd (τ 85 0) a0 (exDr x1 W o).2 (τ 12 0 39).toNat) → Φ (0, 0) τ) :
    slCall G mX12_drops d K [sR 12 0, sI x1] σ Φ := by
  refine vc_X12_drops hG (by omega) hK (fun μ σ' => mDF σ σ' ∧ ∃ V q, exDr x1 V q = exDr x1 W o ∧ mWp V σ' ∧ σ' 12 0 39 + V.length = σ 12 0 39 + W.length ∧ V.length ≤ W.length ∧ (isCd (σ 85 0) a0 o (σ 12 0 39).toNat → isCd (σ' 85 0) a0 q (σ' 12 0 39).toNat) ∧ μ = (V.length, 0, 0)) ?_ ?_
  · exact ⟨_, mDF.id, W, o, rfl, hW, rfl, Nat.le_refl _, id, rfl⟩
  · rintro μ σ' ⟨fr, V, q, e, hV, cs, vl, cd, rfl⟩
    have l39 := fr.1.2.2
    rw [hV.1]
    refine ⟨⟨by omega, by omega⟩, fun z => ?_, fun z => ?_⟩
    · have : V = [] := List.eq_nil_of_length_eq_zero (by omega)
      subst this
      have e : ([], q) = exDr x1 W o := e
      rw [← e] at h
      exact h σ' fr hV cs cd
    · match V, hV, e, cs, vl, z with
      | [], _, _, _, _, z => exact absurd (by decide) z
      | a :: V, hV, e, cs, vl, z =>
        have ea : σ' 86 0 (((a :: V).length : Nat) - 1 : Int).toNat = a := by
          have := hV.2.1.1
          rw [show ((((a :: V).length : Nat) : Int) - 1).toNat = V.length by simp]
          exact this
        have ra := hV.2.2 a List.mem_cons_self
        have lv : (((a :: V).length : Nat) : Int) = (V.length : Int) + 1 := by simp
        rw [ea]
        refine ⟨⟨by omega, by simp at vl; omega⟩, ?_⟩
        refine sp_X12_isOpen hG (by omega) (by omega) ⟨by omega, by omega⟩ (fun o14 => slKt.ok ⟨in1, fun _ => ?_, fun u => absurd u (by decide)⟩) (fun o14 => slKt.ok ⟨in0, fun u => absurd rfl u, fun _ => ⟨?_, ?_⟩⟩)
        · have e2 : exDr x1 (a :: V) q = (a :: V, q) := if_pos o14
          rw [← e, e2] at h
          exact h σ' fr hV cs cd
        · rw [hV.1]; exact ⟨by omega, by simp at vl; omega⟩
        · rw [hV.1, ea]
          refine sp_X12_strength hG (by omega) (by omega) ⟨by omega, by omega⟩ (slKt.ok ⟨⟨⟨by have := exSt_r (a := a); omega, by have := exSt_r (a := a); omega⟩, i1⟩, fun u => ?_, fun u => ?_⟩)
          · have e2 : exDr x1 (a :: V) q = (a :: V, q) := by
              show (if 14 ≤ a then _ else if x1 ≤ exSt a then _ else (a :: V, q)) = _
              rw [if_neg o14, if_neg (by omega)]
            rw [← e, e2] at h
            exact h σ' fr hV cs cd
          · have e2 : exDr x1 (a :: V) q = exDr x1 V (q ++ [exOp a]) := by
              show (if 14 ≤ a then _ else if x1 ≤ exSt a then exDr x1 V (q ++ [exOp a]) else _) = _
              rw [if_neg o14, if_pos (by omega)]
            rw [slU_same, hV.1, show (((a :: V).length : Nat) : Int) - 1 = (V.length : Int) by omega, Int.toNat_natCast, slU_else (by decide), hV.2.1.1]
            refine ⟨⟨by omega, by simp at vl; omega⟩, ?_⟩
            have q39 : slU σ' 12 0 40 (V.length : Int) 12 0 39 = σ' 12 0 39 := slU_ne (by decide)
            refine sp_X12_puts hG (by omega) (by omega) (by rw [q39]; exact ⟨by omega, by omega⟩) (fun τ f1 g1 g2 g3 g4 g5 g6 => slKt.ok ⟨_, Or.inl ?_, ⟨?_, fun k h1 h2 => ?_, ?_, ?_⟩, V, q ++ [exOp a], by rw [← e2]; exact e, ⟨?_, ?_, fun b hb => hV.2.2 b (List.mem_cons_of_mem _ hb)⟩, ?_, by simp at vl; omega, fun k => ?_, rfl⟩)
            · show V.length < (a :: V).length
              simp
            · exact (fr.1.up (k := 40) (by decide)).tr f1
            · rw [g3 k h1, slU_ne h2]; exact fr.2.1 k h1 h2
            · rw [g5, slU_else (by decide)]; exact fr.2.2.1
            · rw [g6, slU_else (by decide)]; exact fr.2.2.2
            · rw [g3 40 (by decide), slU_same]
            · rw [g4, slU_else (by decide)]; exact hV.2.1.2
            · rw [g1, q39]; omega
            · have k1 := cd k
              rw [q39] at g1 g2
              rw [g1, show (σ' 12 0 39 + 1).toNat = (σ' 12 0 39).toNat + 1 by omega]
              refine (k1.c (fun j h1 h2 => ?_)).app (isCd_op ⟨ra.1, by omega⟩ g2)
              rw [f1.2.1 j (by rw [q39]; omega), slU_else (by decide)]
set_option maxHeartbeats 1000000 in
set_option maxRecDepth 4000 in
theorem sp_X12_waitsFor {G : slG} (hG : slGood G) {d K : Nat} (hd : 0 ≤ d) (hK : 0 ≤ K) {Φ : slPost} {σ : slM} {x1 : Int} {W : List Int} (hW : mWp W σ) (hl : W.length < 900) (h1 : 3 ≤ x1 ∧ x1 ≤ 14) (h : ∀ τ, mEF σ τ → mWp (x1 :: W) τ → (∀ k, k ≠ 40 → τ 12 0 k = σ 12 0 k) → τ 85 0 = σ 85 0 → τ 87 0 = σ 87 0 → τ 72 0 = σ 72 0 → Φ (0, 0) τ) :
    slCall G mX12_waitsFor d K [sR 12 0, sI x1] σ Φ := by
  refine vc_X12_waitsFor hG (by omega) hK  ?_
  rw [hW.1, Int.toNat_natCast]
  refine ⟨⟨by omega, by omega⟩, h _ ((mEF.id.up8 (Or.inl rfl)).up (by decide)) ⟨?_, ⟨?_, ?_⟩, fun a ha => ?_⟩ (fun k hk => ?_) ?_ ?_ ?_⟩
  · rw [slU_same, slU_else (by decide), hW.1]
    simp
  · rw [slU_else (by decide), slU_same]
  · refine hW.2.1.c (fun k hk => ?_)
    rw [slU_else (by decide), slU_ne (by omega)]
  · rcases List.mem_cons.mp ha with z | z
    · rw [z]; exact h1
    · exact hW.2.2 a z
  · rw [slU_ne hk, slU_else (by decide)]
  · rw [slU_else (by decide), slU_else (by decide)]
  · rw [slU_else (by decide), slU_else (by decide)]
  · rw [slU_else (by decide), slU_else (by decide)]
