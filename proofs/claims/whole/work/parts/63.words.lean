/-! ===== known words ===== -/
def cdF (f : Nat → Int) : Nat → Int
  | 0 => 0
  | j + 1 => cdF f j * 32 + (f j - 96)
theorem cdF_r {f : Nat → Int} : ∀ {j : Nat}, (∀ i, i < j → 97 ≤ f i ∧ f i ≤ 122) → 0 ≤ cdF f j ∧ (1 ≤ j → 1 ≤ cdF f j)
  | 0, _ => ⟨Int.le_refl _, fun h => absurd h (by decide)⟩
  | j + 1, h => by
    have ih := cdF_r (f := f) (j := j) (fun i hi => h i (by omega))
    have d := h j (by omega)
    show 0 ≤ cdF f j * 32 + (f j - 96) ∧ (1 ≤ j + 1 → 1 ≤ cdF f j * 32 + (f j - 96))
    omega
theorem cdF_inj {f g : Nat → Int} : ∀ {j k : Nat}, (∀ i, i < j → 97 ≤ f i ∧ f i ≤ 122) → (∀ i, i < k → 97 ≤ g i ∧ g i ≤ 122) → cdF f j = cdF g k → j = k ∧ ∀ i, i < j → f i = g i
  | 0, 0, _, _, _ => ⟨rfl, fun i h => absurd h (by omega)⟩
  | 0, k + 1, _, hg, e => by
    have := (cdF_r (f := g) (j := k + 1) hg).2 (by omega)
    have e : 0 = cdF g (k + 1) := e
    omega
  | j + 1, 0, hf, _, e => by
    have := (cdF_r (f := f) (j := j + 1) hf).2 (by omega)
    have e : cdF f (j + 1) = 0 := e
    omega
  | j + 1, k + 1, hf, hg, e => by
    have e : cdF f j * 32 + (f j - 96) = cdF g k * 32 + (g k - 96) := e
    have a := hf j (by omega)
    have b := hg k (by omega)
    have ih := cdF_inj (f := f) (g := g) (j := j) (k := k) (fun i hi => hf i (by omega)) (fun i hi => hg i (by omega)) (by omega)
    obtain ⟨rfl, al⟩ := ih
    refine ⟨rfl, fun i hi => ?_⟩
    by_cases z : i = j
    · rw [z]; omega
    · exact al i (by omega)
theorem lxWd_c {X : abX} {q : Int} : ∀ {j : Nat}, lxWd X q j = cdF (fun i => X.1 (q + i).toNat) j
  | 0 => rfl
  | j + 1 => by
    show lxWd X q j * 32 + (X.1 (q + j).toNat - 96) = cdF (fun i => X.1 (q + i).toNat) j * 32 + (X.1 (q + j).toNat - 96)
    rw [lxWd_c]
def kwL : List (List Int) := [[114, 97, 110, 107], [111, 105, 108], [108, 105, 103, 104, 116], [104, 111, 117, 114], [114, 101, 97, 99, 104], [108, 105, 116], [115, 101, 97], [99, 97, 112, 101], [115, 104, 105, 112], [102, 111, 103], [121, 105, 101, 108, 100, 115], [97, 110, 100], [111, 114], [110, 111, 116]]
noncomputable def lxWf (X : abX) (p : Int) : List (List Int) → Int → Int
  | [], _ => -1
  | w :: ws, k => abIf (lxIs X p w) k (lxWf X p ws (k + 1))
/-- which known word stands there; -1 -/
noncomputable def lxW (X : abX) (p : Int) : Int := lxWf X p kwL 0
theorem getD_at {α : Type} {l : List α} {i : Nat} {d : α} (h : i < l.length) : l.getD i d = l[i] := by
  rw [List.getD_eq_getElem?_getD, List.getElem?_eq_getElem h]
  rfl
theorem lxIs_u {X : abX} {p : Int} {w v : List Int} (h : lxIs X p w) (g : lxIs X p v) : w = v := by
  have e : w.length = v.length := by have := h.2.1; have := g.2.1; omega
  refine List.ext_getElem e (fun i a b => ?_)
  have x := h.2.2 i a
  have y := g.2.2 i b
  rw [getD_at a] at x
  rw [getD_at b] at y
  rw [← x, ← y]
theorem lxWf_k {X : abX} {p : Int} : ∀ {L : List (List Int)} {k0 : Int} {j : Nat}, L.Nodup → j < L.length → lxIs X p (L.getD j []) → lxWf X p L k0 = k0 + j
  | [], k0, j, _, h, _ => absurd h (by simp)
  | w :: ws, k0, 0, _, _, h => by
    show abIf (lxIs X p w) k0 _ = _
    rw [abIf_t (show lxIs X p w from h)]
    omega
  | w :: ws, k0, j + 1, hn, hj, h => by
    have hj' : j < ws.length := by simpa using hj
    have h' : lxIs X p (ws.getD j []) := h
    show abIf (lxIs X p w) k0 (lxWf X p ws (k0 + 1)) = _
    rw [abIf_f (fun z => by
      have e := lxIs_u z h'
      rw [getD_at hj'] at e
      exact (List.nodup_cons.mp hn).1 (by rw [e]; exact List.getElem_mem hj')), lxWf_k (List.nodup_cons.mp hn).2 hj' h']
    omega
theorem lxWf_n {X : abX} {p : Int} : ∀ {L : List (List Int)} {k0 : Int}, (∀ j : Nat, j < L.length → ¬ lxIs X p (L.getD j [])) → lxWf X p L k0 = -1
  | [], _, _ => rfl
  | w :: ws, k0, h => by
    show abIf (lxIs X p w) k0 (lxWf X p ws (k0 + 1)) = -1
    rw [abIf_f (show ¬ lxIs X p w from h 0 (by simp))]
    exact lxWf_n (fun j hj => h (j + 1) (by simpa using hj))
theorem lxW_k {X : abX} {p : Int} {j : Nat} (hj : j < 14) (h : lxIs X p (kwL.getD j [])) : lxW X p = j := by
  have := lxWf_k (X := X) (p := p) (L := kwL) (k0 := 0) (by decide) hj h
  unfold lxW
  omega
theorem lxW_is {X : abX} {p : Int} {j : Nat} (hj : j < 14) : lxIs X p (kwL.getD j []) ↔ lxW X p = j := by
  refine ⟨lxW_k hj, fun h => ?_⟩
  by_cases z : ∃ i : Nat, i < 14 ∧ lxIs X p (kwL.getD i [])
  · obtain ⟨i, hi, w⟩ := z
    have := lxW_k hi w
    have : i = j := by omega
    rw [← this]; exact w
  · have : lxW X p = -1 := lxWf_n (fun i hi w => z ⟨i, hi, w⟩)
    omega
theorem lxW_r {X : abX} {p : Int} : lxW X p = -1 ∨ (0 ≤ lxW X p ∧ lxW X p < 14 ∧ lxIs X p (kwL.getD (lxW X p).toNat []) ∧ lxK X p = 2) := by
  by_cases z : ∃ i : Nat, i < 14 ∧ lxIs X p (kwL.getD i [])
  · obtain ⟨i, hi, w⟩ := z
    have e := lxW_k hi w
    rw [e]
    exact Or.inr ⟨by omega, by omega, by rw [Int.toNat_natCast]; exact w, w.1⟩
  · exact Or.inl (lxWf_n (fun i hi w => z ⟨i, hi, w⟩))
theorem lxW_2 {X : abX} {p : Int} (h : lxK X p ≠ 2) : lxW X p = -1 := by
  rcases lxW_r (X := X) (p := p) with z | z
  · exact z
  · exact absurd z.2.2.2 h
/-- a word of the class's constants -/
theorem sp_word {G : slG} (hG : slGood G) {d K : Nat} (hd : 12 ≤ d) {Φ : slPost} {σ : slM} {X : abX} {p : Int} (hX : gdX X) (hp : 0 ≤ p ∧ p ≤ X.2) (T : isTk X p σ) (w j : Nat) (hw : 107 ≤ w ∧ w < 136) (hj : j < 14) (e : slBy (w + 29) = kwL.getD j []) (h1 : lxW X p = j → Φ (0, 1) σ) (h0 : ¬ lxW X p = j → Φ (0, 0) σ) : slCall G mX9_isWord d K [sR 9 0, sR w 0] σ Φ := by
  refine sp_X9_isWord hG (by omega) (by omega) hw hX hp T ?_
  rw [e]
  by_cases z : lxW X p = j
  · rw [abIf_t ((lxW_is hj).mpr z)]; exact h1 z
  · rw [abIf_f (fun u => z ((lxW_is hj).mp u))]; exact h0 z
/-! the model's words -/
def spV (x0 x1 x2 x3 x4 x5 : Int) : Int :=
  if x2 = 0 then (x0 - 96) * 32 + (x1 - 96) else if x3 = 0 then ((x0 - 96) * 32 + (x1 - 96)) * 32 + (x2 - 96) else if x4 = 0 then (((x0 - 96) * 32 + (x1 - 96)) * 32 + (x2 - 96)) * 32 + (x3 - 96) else if x5 = 0 then ((((x0 - 96) * 32 + (x1 - 96)) * 32 + (x2 - 96)) * 32 + (x3 - 96)) * 32 + (x4 - 96) else (((((x0 - 96) * 32 + (x1 - 96)) * 32 + (x2 - 96)) * 32 + (x3 - 96)) * 32 + (x4 - 96)) * 32 + (x5 - 96)
def lt9 (x : Int) : Prop := 97 ≤ x ∧ x ≤ 122
set_option maxHeartbeats 4000000 in
set_option maxRecDepth 4000 in
theorem sp_X12_spelled {G : slG} (hG : slGood G) {d K : Nat} (hd : 0 ≤ d) (hK : 0 ≤ K) {Φ : slPost} {σ : slM} {x0 : Int} {x1 : Int} {x2 : Int} {x3 : Int} {x4 : Int} {x5 : Int} (h0 : lt9 x0) (h1 : lt9 x1) (h2 : x2 = 0 ∨ lt9 x2) (h3 : x3 = 0 ∨ lt9 x3) (h4 : x4 = 0 ∨ lt9 x4) (h5 : x5 = 0 ∨ lt9 x5) (z3 : x2 = 0 → x3 = 0) (z4 : x3 = 0 → x4 = 0) (z5 : x4 = 0 → x5 = 0) (h : Φ (0, spV x0 x1 x2 x3 x4 x5) σ) :
    slCall G mX12_spelled d K [sI x0, sI x1, sI x2, sI x3, sI x4, sI x5] σ Φ := by
  refine vc_X12_spelled hG (by omega) hK  ?_
  unfold lt9 at h0 h1 h2 h3 h4 h5
  unfold spV at h
  have e6 : (32 : Int) ^ 6 = 1073741824 := by decide
  have e1 : sLor (sLshl (x0 - 96) 5) (x1 - 96) = (x0 - 96) * 32 + (x1 - 96) := lor5i ⟨by omega, by omega⟩ ⟨by omega, by omega⟩
  rw [e1]
  have i2 : InR x2 := ⟨by omega, by omega⟩
  have i3 : InR x3 := ⟨by omega, by omega⟩
  have i4 : InR x4 := ⟨by omega, by omega⟩
  have i5 : InR x5 := ⟨by omega, by omega⟩
  refine ⟨⟨by omega, by omega⟩, ⟨by omega, by omega⟩, i2, fun q2 => ⟨i3, fun q3 => ⟨i4, fun q4 => ⟨i5, fun q5 => ?_, fun q5 => absurd (z5 q4) q5⟩, fun q4 => absurd (z4 q3) q4⟩, fun q3 => absurd (z3 q2) q3⟩, fun q2 => ⟨⟨by omega, by omega⟩, ?_⟩⟩
  · rwa [if_pos q2] at h
  · have l2 : 97 ≤ x2 ∧ x2 ≤ 122 := by omega
    have e2 : sLor (sLshl ((x0 - 96) * 32 + (x1 - 96)) 5) (x2 - 96) = ((x0 - 96) * 32 + (x1 - 96)) * 32 + (x2 - 96) := lor5i ⟨by omega, by omega⟩ ⟨by omega, by omega⟩
    rw [e2]
    rw [if_neg q2] at h
    refine ⟨i3, fun q3 => ⟨i4, fun q4 => ⟨i5, fun q5 => ?_, fun q5 => absurd (z5 q4) q5⟩, fun q4 => absurd (z4 q3) q4⟩, fun q3 => ⟨⟨by omega, by omega⟩, ?_⟩⟩
    · rwa [if_pos q3] at h
    · have l3 : 97 ≤ x3 ∧ x3 ≤ 122 := by omega
      have e3 : sLor (sLshl (((x0 - 96) * 32 + (x1 - 96)) * 32 + (x2 - 96)) 5) (x3 - 96) = (((x0 - 96) * 32 + (x1 - 96)) * 32 + (x2 - 96)) * 32 + (x3 - 96) := lor5i ⟨by omega, by omega⟩ ⟨by omega, by omega⟩
      rw [e3]
      rw [if_neg q3] at h
      refine ⟨i4, fun q4 => ⟨i5, fun q5 => ?_, fun q5 => absurd (z5 q4) q5⟩, fun q4 => ⟨⟨by omega, by omega⟩, ?_⟩⟩
      · rwa [if_pos q4] at h
      · have l4 : 97 ≤ x4 ∧ x4 ≤ 122 := by omega
        have e4 : sLor (sLshl ((((x0 - 96) * 32 + (x1 - 96)) * 32 + (x2 - 96)) * 32 + (x3 - 96)) 5) (x4 - 96) = ((((x0 - 96) * 32 + (x1 - 96)) * 32 + (x2 - 96)) * 32 + (x3 - 96)) * 32 + (x4 - 96) := lor5i ⟨by omega, by omega⟩ ⟨by omega, by omega⟩
        rw [e4]
        rw [if_neg q4] at h
        refine ⟨i5, fun q5 => ?_, fun q5 => ⟨⟨by omega, by omega⟩, ?_⟩⟩
        · rwa [if_pos q5] at h
        · have e5 : sLor (sLshl (((((x0 - 96) * 32 + (x1 - 96)) * 32 + (x2 - 96)) * 32 + (x3 - 96)) * 32 + (x4 - 96)) 5) (x5 - 96) = (((((x0 - 96) * 32 + (x1 - 96)) * 32 + (x2 - 96)) * 32 + (x3 - 96)) * 32 + (x4 - 96)) * 32 + (x5 - 96) := lor5i ⟨by omega, by omega⟩ ⟨by omega, by omega⟩
          rw [e5]
          rwa [if_neg q5] at h
def kwC (k : Int) : Int := cdF (fun i => (kwL.getD k.toNat []).getD i 0) (kwL.getD k.toNat []).length
theorem ltd {x : Int} (h : x = 0 ∨ lt9 x) : x = 0 ∨ lt9 x := h
set_option maxHeartbeats 4000000 in
set_option maxRecDepth 4000 in
theorem sp_X12_letters {G : slG} (hG : slGood G) {d K : Nat} (hd : 1 ≤ d) (hK : 0 ≤ K) {Φ : slPost} {σ : slM} {x0 : Int} (h0 : 0 ≤ x0 ∧ x0 < 14) (h : Φ (0, kwC x0) σ) :
    slCall G mX12_letters d K [sI x0] σ Φ := by
  refine vc_X12_letters hG (by omega) hK  ?_
  refine ⟨⟨by omega, by omega⟩, fun q => ?_, fun q => ?_, fun q => ?_, fun q => ?_, fun q => ?_, fun q => ?_, fun q => ?_, fun q => ?_, fun q => ?_, fun q => ?_, fun q => ?_, fun q => ?_, fun q => ?_, fun q => ?_⟩
  · have e : x0 = 0 := by omega
    rw [e] at h
    refine sp_X12_spelled hG (by omega) (by omega) (by unfold lt9; decide) (by unfold lt9; decide) (Or.inr (by unfold lt9; decide)) (Or.inr (by unfold lt9; decide)) (Or.inl rfl) (Or.inl rfl) (by decide) (by decide) (by decide) (slKt.ok ?_)
    exact h
  · have e : x0 = 1 := by omega
    rw [e] at h
    refine sp_X12_spelled hG (by omega) (by omega) (by unfold lt9; decide) (by unfold lt9; decide) (Or.inr (by unfold lt9; decide)) (Or.inl rfl) (Or.inl rfl) (Or.inl rfl) (by decide) (by decide) (by decide) (slKt.ok ?_)
    exact h
  · have e : x0 = 2 := by omega
    rw [e] at h
    refine sp_X12_spelled hG (by omega) (by omega) (by unfold lt9; decide) (by unfold lt9; decide) (Or.inr (by unfold lt9; decide)) (Or.inr (by unfold lt9; decide)) (Or.inr (by unfold lt9; decide)) (Or.inl rfl) (by decide) (by decide) (by decide) (slKt.ok ?_)
    exact h
  · have e : x0 = 3 := by omega
    rw [e] at h
    refine sp_X12_spelled hG (by omega) (by omega) (by unfold lt9; decide) (by unfold lt9; decide) (Or.inr (by unfold lt9; decide)) (Or.inr (by unfold lt9; decide)) (Or.inl rfl) (Or.inl rfl) (by decide) (by decide) (by decide) (slKt.ok ?_)
    exact h
  · have e : x0 = 4 := by omega
    rw [e] at h
    refine sp_X12_spelled hG (by omega) (by omega) (by unfold lt9; decide) (by unfold lt9; decide) (Or.inr (by unfold lt9; decide)) (Or.inr (by unfold lt9; decide)) (Or.inr (by unfold lt9; decide)) (Or.inl rfl) (by decide) (by decide) (by decide) (slKt.ok ?_)
    exact h
  · have e : x0 = 5 := by omega
    rw [e] at h
    refine sp_X12_spelled hG (by omega) (by omega) (by unfold lt9; decide) (by unfold lt9; decide) (Or.inr (by unfold lt9; decide)) (Or.inl rfl) (Or.inl rfl) (Or.inl rfl) (by decide) (by decide) (by decide) (slKt.ok ?_)
    exact h
  · have e : x0 = 6 := by omega
    rw [e] at h
    refine sp_X12_spelled hG (by omega) (by omega) (by unfold lt9; decide) (by unfold lt9; decide) (Or.inr (by unfold lt9; decide)) (Or.inl rfl) (Or.inl rfl) (Or.inl rfl) (by decide) (by decide) (by decide) (slKt.ok ?_)
    exact h
  · have e : x0 = 7 := by omega
    rw [e] at h
    refine sp_X12_spelled hG (by omega) (by omega) (by unfold lt9; decide) (by unfold lt9; decide) (Or.inr (by unfold lt9; decide)) (Or.inr (by unfold lt9; decide)) (Or.inl rfl) (Or.inl rfl) (by decide) (by decide) (by decide) (slKt.ok ?_)
    exact h
  · have e : x0 = 8 := by omega
    rw [e] at h
    refine sp_X12_spelled hG (by omega) (by omega) (by unfold lt9; decide) (by unfold lt9; decide) (Or.inr (by unfold lt9; decide)) (Or.inr (by unfold lt9; decide)) (Or.inl rfl) (Or.inl rfl) (by decide) (by decide) (by decide) (slKt.ok ?_)
    exact h
  · have e : x0 = 9 := by omega
    rw [e] at h
    refine sp_X12_spelled hG (by omega) (by omega) (by unfold lt9; decide) (by unfold lt9; decide) (Or.inr (by unfold lt9; decide)) (Or.inl rfl) (Or.inl rfl) (Or.inl rfl) (by decide) (by decide) (by decide) (slKt.ok ?_)
    exact h
  · have e : x0 = 10 := by omega
    rw [e] at h
    refine sp_X12_spelled hG (by omega) (by omega) (by unfold lt9; decide) (by unfold lt9; decide) (Or.inr (by unfold lt9; decide)) (Or.inr (by unfold lt9; decide)) (Or.inr (by unfold lt9; decide)) (Or.inr (by unfold lt9; decide)) (by decide) (by decide) (by decide) (slKt.ok ?_)
    exact h
  · have e : x0 = 11 := by omega
    rw [e] at h
    refine sp_X12_spelled hG (by omega) (by omega) (by unfold lt9; decide) (by unfold lt9; decide) (Or.inr (by unfold lt9; decide)) (Or.inl rfl) (Or.inl rfl) (Or.inl rfl) (by decide) (by decide) (by decide) (slKt.ok ?_)
    exact h
  · have e : x0 = 12 := by omega
    rw [e] at h
    refine sp_X12_spelled hG (by omega) (by omega) (by unfold lt9; decide) (by unfold lt9; decide) (Or.inl rfl) (Or.inl rfl) (Or.inl rfl) (Or.inl rfl) (by decide) (by decide) (by decide) (slKt.ok ?_)
    exact h
  · have e : x0 = 13 := by omega
    rw [e] at h
    refine sp_X12_spelled hG (by omega) (by omega) (by unfold lt9; decide) (by unfold lt9; decide) (Or.inr (by unfold lt9; decide)) (Or.inl rfl) (Or.inl rfl) (Or.inl rfl) (by decide) (by decide) (by decide) (slKt.ok ?_)
    exact h
theorem sCmp_0 {a b : Int} (ha : InL a) (hb : InL b) : sCmp a b = 0 ↔ a = b := by
  unfold sCmp lg_cmp
  have e : (Int64.ofInt a = Int64.ofInt b) ↔ a = b := by rw [← Int64.toInt_inj, i64_to ha, i64_to hb]
  by_cases g : Int64.ofInt a > Int64.ofInt b
  · rw [if_pos g]
    constructor
    · intro z; exact absurd z (by decide)
    · intro z
      rw [z] at g
      exact absurd g (Int64.lt_irrefl)
  · rw [if_neg g]
    by_cases q : Int64.ofInt a = Int64.ofInt b
    · rw [if_pos q]
      exact ⟨fun _ => e.mp q, fun _ => by decide⟩
    · rw [if_neg q]
      exact ⟨fun z => absurd z (by decide), fun z => absurd (e.mpr z) q⟩
theorem sCmp_in {a b : Int} : InR (sCmp a b) := ⟨Int32.le_toInt _, Int32.toInt_lt _⟩
theorem kw_lt : ∀ k, k < 14 → (kwL.getD k []).length ≤ 6 ∧ 1 ≤ (kwL.getD k []).length ∧ (∀ i, i < (kwL.getD k []).length → 97 ≤ (kwL.getD k []).getD i 0 ∧ (kwL.getD k []).getD i 0 ≤ 122) ∧ 0 ≤ kwC (k : Int) ∧ kwC (k : Int) < 1073741824 := by decide
theorem mSo_1 {k : Int} : mSo k = 1 ↔ k = 2 := by
  unfold mSo
  split
  · omega
  · split
    · omega
    · split
      · omega
      · split <;> omega
theorem mSo_2 {k : Int} : mSo k = 2 ↔ k = 3 := by
  unfold mSo
  split
  · omega
  · split
    · omega
    · split
      · omega
      · split <;> omega
theorem mSo_0 {k : Int} : mSo k = 0 ↔ k = 0 := by
  unfold mSo
  split
  · omega
  · split
    · omega
    · split
      · omega
      · split <;> omega
theorem mSo_r {k : Int} : 0 ≤ mSo k ∧ mSo k ≤ 4 := by
  unfold mSo
  split
  · omega
  · split
    · omega
    · split
      · omega
      · split <;> omega
theorem mSo_3 {X : abX} {p : Int} : mSo (lxK X p) = 3 ↔ 40 ≤ lxK X p := by
  have r := lxK_r (X := X) (p := p)
  by_cases z : 40 ≤ lxK X p
  · unfold mSo
    rw [if_neg (by omega), if_neg (by omega), if_neg (by omega), if_neg (by omega)]
    exact ⟨fun _ => z, fun _ => rfl⟩
  · refine ⟨fun w => ?_, fun w => absurd w z⟩
    exfalso
    have : lxK X p = 0 ∨ lxK X p = 1 ∨ lxK X p = 2 ∨ lxK X p = 3 := by
      by_cases u : 4 ≤ lxK X p
      · exfalso
        unfold lxK at u z
        split at u
        · omega
        · split at u
          · omega
          · split at u
            · omega
            · split at u
              · rename_i a b c s
                rw [if_neg a, if_neg b, if_neg c, if_pos s] at z
                have := isSg_i.mp s
                omega
              · omega
      · omega
    unfold mSo at w
    split at w
    · omega
    · split at w
      · omega
      · split at w
        · omega
        · split at w <;> omega
set_option maxHeartbeats 1000000 in
set_option maxRecDepth 4000 in
theorem sp_X12_knownWord {G : slG} (hG : slGood G) {d K : Nat} (hd : 3 ≤ d) (hK : 0 ≤ K) {Φ : slPost} {σ : slM}  {X : abX} {p : Int} (hX : gdX X) (hp : 0 ≤ p ∧ p ≤ X.2) (T : isTm X p σ) (h : Φ (0, lxW X p) σ) :
    slCall G mX12_knownWord d K [sR 12 0] σ Φ := by
  refine vc_X12_knownWord hG (by omega) hK (fun μ y1 σ' => σ' = σ ∧ lxK X p = 2 ∧ lxE X p - lxB X p ≤ 6 ∧ μ = ((14 - y1).toNat, 0, 0) ∧ (0 ≤ y1 ∧ y1 ≤ 14) ∧ ∀ k : Nat, (k : Int) < y1 → ¬ lxIs X p (kwL.getD k [])) ?_ ?_
  · have hx := hX.1
    have e := lxE_r (X := X) hp.2
    have b := lxB_r (X := X) hp.2
    have sr := mSo_r (k := lxK X p)
    rw [T.2.2.1, T.2.2.2.2.1]
    refine ⟨⟨by omega, by omega⟩, fun q => ?_, fun q => ⟨⟨by omega, by omega⟩, fun z => ⟨_, rfl, mSo_1.mp q, z, rfl, ⟨by omega, by omega⟩, fun k hk => by omega⟩, fun z => ?_⟩⟩
    · rwa [lxW_2 (fun z => q (mSo_1.mpr z))] at h
    · have : lxW X p = -1 := lxWf_n (fun i hi w => by
        have l := (kw_lt i hi).1
        have := w.2.1
        omega)
      rwa [this] at h
  · rintro μ y1 σ' ⟨rfl, k2, l6, rfl, hy, al⟩
    have e := lxE_r (X := X) hp.2
    have b := lxB_r (X := X) hp.2
    refine ⟨⟨by omega, by omega⟩, fun q => ?_, fun q => ?_⟩
    · have : lxW X p = -1 := lxWf_n (fun i hi w => al i (by have : i < 14 := hi; omega) w)
      rwa [this] at h
    · refine sp_X12_letters hG (by omega) (by omega) ⟨hy.1, by omega⟩ (slKt.ok ?_)
      have kt := kw_lt y1.toNat (by omega)
      rw [show ((y1.toNat : Nat) : Int) = y1 by omega] at kt
      have ew := T.2.2.2.2.2.2.2 k2
      rw [show min (lxE X p - lxB X p).toNat 6 = (lxE X p - lxB X p).toNat by omega] at ew
      obtain ⟨-, -, ke⟩ := lxK_2 k2
      have le : ∀ i : Nat, i < (lxE X p - lxB X p).toNat → 97 ≤ X.1 (lxB X p + i).toNat ∧ X.1 (lxB X p + i).toNat ≤ 122 := fun i hi => isLe_i.mp ((lxR_r (f := isLe) (X := X) (p := lxB X p)).2.2 (lxB X p + i) (by omega) (by omega))
      have wr := lxWd_r (X := X) (q := lxB X p) (j := (lxE X p - lxB X p).toNat) (by omega) le
      have p6 : (32 : Int) ^ (lxE X p - lxB X p).toNat ≤ 1073741824 := (by decide : ∀ j, j ≤ 6 → (32 : Int) ^ j ≤ 1073741824) _ (by omega)
      have c0 : sCmp (kwC y1) (σ' 12 0 31) = 0 ↔ lxIs X p (kwL.getD y1.toNat []) := by
        rw [ew, sCmp_0 ⟨by omega, by omega⟩ ⟨by omega, by omega⟩, lxWd_c]
        constructor
        · intro z
          have ij := cdF_inj (f := fun i => (kwL.getD y1.toNat []).getD i 0) (g := fun i => X.1 (lxB X p + i).toNat) kt.2.2.1 le z
          exact ⟨k2, by omega, fun i hi => (ij.2 i hi).symm⟩
        · intro z
          show cdF (fun i => (kwL.getD y1.toNat []).getD i 0) (kwL.getD y1.toNat []).length = _
          have el : (lxE X p - lxB X p).toNat = (kwL.getD y1.toNat []).length := by have := z.2.1; omega
          rw [el]
          have cg : ∀ n, n ≤ (kwL.getD y1.toNat []).length → cdF (fun i => (kwL.getD y1.toNat []).getD i 0) n = cdF (fun i => X.1 (lxB X p + i).toNat) n := by
            intro n
            induction n with
            | zero => intro _; rfl
            | succ n ih =>
              intro hn
              show cdF _ n * 32 + ((kwL.getD y1.toNat []).getD n 0 - 96) = cdF _ n * 32 + (X.1 (lxB X p + n).toNat - 96)
              rw [ih (by omega), z.2.2 n (by omega)]
          exact cg _ (Nat.le_refl _)
      refine ⟨sCmp_in, fun z => ⟨_, Or.inl (by show (14 - (y1 + 1)).toNat < (14 - y1).toNat; omega), rfl, k2, l6, rfl, ⟨by omega, by omega⟩, fun k hk => ?_⟩, fun z => ?_⟩
      · by_cases u : (k : Int) = y1
        · rw [show k = y1.toNat by omega]; exact fun w => z (c0.mpr w)
        · exact al k (by omega)
      · have := lxW_k (j := y1.toNat) (by omega) (c0.mp z)
        rw [this, show ((y1.toNat : Nat) : Int) = y1 by omega] at h
        exact h
