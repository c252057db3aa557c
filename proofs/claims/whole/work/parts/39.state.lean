/-! ===== the state that both hold ===== -/
/-- a stand: what is at (kind, which): 0 oil, 1 mooring, 2 begin, 3 law, 4 want; the acts, the latest first; the log, the latest first -/
abbrev abD : Type := (Int → Int → Int) × List (Int × Int × Int) × List (Int × Int × Int × Int)
/-- chart, stand, image, tape, its length, fault, refusals -/
abbrev abZ : Type := abP × abD × Option abD × (Nat → Int) × Int × Int × (Nat → Int)
def abAc (a b c : Nat → Int) : List (Int × Int × Int) → Prop
  | [] => True
  | e :: t => a t.length = e.1 ∧ b t.length = e.2.1 ∧ c t.length = e.2.2 ∧ abAc a b c t
def abPl (k w : Int) : Int := if k = 0 then w else if k = 1 then 5 + w else if k = 2 then 13 + w else if k = 3 then 18 else 19 + w
def abAm (a : Nat → Int) : List (Int × Int × Int) → Prop
  | [] => True
  | e :: t => a (2 * t.length) = abPl e.1 e.2.1 ∧ a (2 * t.length + 1) = e.2.2 ∧ abAm a t
def abLc (a b c d : Nat → Int) : List (Int × Int × Int × Int) → Prop
  | [] => True
  | e :: t => a t.length = e.1 ∧ b t.length = e.2.1 ∧ c t.length = e.2.2.1 ∧ d t.length = e.2.2.2 ∧ abLc a b c d t
def abLm (a : Nat → Int) : List (Int × Int × Int × Int) → Prop
  | [] => True
  | e :: t => a (4 * t.length) = e.1 ∧ a (4 * t.length + 1) = e.2.1 ∧ a (4 * t.length + 2) = e.2.2.1 ∧ a (4 * t.length + 3) = e.2.2.2 ∧ abLm a t
/-- which are there of a kind -/
def abMany (P : abP) (k : Int) : Int := if k = 0 then P 1 3 else if k = 1 then P 1 4 else if k = 2 then P 1 3 else if k = 3 then 1 else P 1 4
def isS (s : Nat) (P : abP) (D : abD) (σ : slM) : Prop :=
  (∀ l : Int, 0 ≤ l → l < P 1 3 → σ 52 s l.toNat = D.1 0 l) ∧ (∀ l : Int, 0 ≤ l → l < P 1 4 → σ 53 s l.toNat = D.1 1 l) ∧ (∀ l : Int, 0 ≤ l → l < P 1 3 → σ 51 s l.toNat = D.1 2 l) ∧ σ 8 s 6 = D.1 3 0 ∧ (∀ l : Int, 0 ≤ l → l < P 1 4 → σ 54 s l.toNat = D.1 4 l)
  ∧ σ 0 s 3 = D.2.1.length ∧ abAc (σ 20 s) (σ 21 s) (σ 22 s) D.2.1 ∧ σ 5 s 4 = D.2.2.length ∧ abLc (σ 40 s) (σ 41 s) (σ 42 s) (σ 43 s) D.2.2
def isN (rN rA rL sA sL : Nat) (P : abP) (D : abD) (σ : slM) : Prop :=
  (∀ l : Int, 0 ≤ l → l < P 1 3 → σ rN 0 (0 + l).toNat = D.1 0 l) ∧ (∀ l : Int, 0 ≤ l → l < P 1 4 → σ rN 0 (5 + l).toNat = D.1 1 l) ∧ (∀ l : Int, 0 ≤ l → l < P 1 3 → σ rN 0 (13 + l).toNat = D.1 2 l) ∧ σ rN 0 18 = D.1 3 0 ∧ (∀ l : Int, 0 ≤ l → l < P 1 4 → σ rN 0 (19 + l).toNat = D.1 4 l)
  ∧ σ 12 0 sA = D.2.1.length ∧ abAm (σ rA 0) D.2.1 ∧ σ 12 0 sL = D.2.2.length ∧ abLm (σ rL 0) D.2.2
def abUnd (T : Int → Int → Int) (k w v : Int) : Int → Int → Int := fun k' w' => if k' = k ∧ w' = w then v else T k' w'
def gdV (P : abP) (T : Int → Int → Int) : Prop := gdP P (T 2) ∧ (∀ l : Int, 0 ≤ l → l < P 1 3 → 0 ≤ T 0 l ∧ T 0 l ≤ 200) ∧ gdM P (T 1) ∧ (∀ l : Int, 0 ≤ l → l < P 1 4 → 0 ≤ T 4 l ∧ T 4 l ≤ 12) ∧ (T 3 0 = -1 ∨ (0 ≤ T 3 0 ∧ T 3 0 < P 4 4))
def gdU (P : abP) : List (Int × Int × Int) → (Int → Int → Int) → Prop
  | [], T => gdV P T
  | e :: t, T => gdV P T ∧ (0 ≤ e.1 ∧ e.1 ≤ 4) ∧ (0 ≤ e.2.1 ∧ e.2.1 < abMany P e.1) ∧ gdU P t (abUnd T e.1 e.2.1 e.2.2)
theorem gdU.v {P : abP} : ∀ {A : List (Int × Int × Int)} {T : Int → Int → Int}, gdU P A T → gdV P T
  | [], _, h => h
  | _ :: _, _, h => h.1
def gdL (P : abP) (L : List (Int × Int × Int × Int)) : Prop := ∀ e ∈ L, (0 ≤ e.1 ∧ e.1 < P 1 4) ∧ (0 ≤ e.2.1 ∧ e.2.1 < 240) ∧ (0 ≤ e.2.2.1 ∧ e.2.2.1 < P 1 3) ∧ (e.2.2.2 = 0 ∨ e.2.2.2 = 1)
def gdD (P : abP) (D : abD) : Prop := gdU P D.2.1 D.1 ∧ gdL P D.2.2 ∧ D.2.1.length ≤ 40 ∧ D.2.2.length ≤ 8
noncomputable def abC (P : abP) (T : Int → Int → Int) (h l : Int) : Int := (abCrs P (abOrd P (T 3 0) (T 0)) (T 2) h.toNat).1 l
/-- all is reckoned for the stand T -/
def isStl (P : abP) (T : Int → Int → Int) (σ : slM) : Prop :=
  isW P (T 1) σ ∧ (∀ n : Nat, (n : Int) < 240 → abSeg (σ 56 0) (n * 5) (P 1 3).toNat = abOrd P (T 3 0) (T 0) n) ∧ (∀ h l : Int, 0 ≤ h → h < 240 → 0 ≤ l → l < P 1 3 → σ 35 0 (l * 240 + h).toNat = abC P T h l)
  ∧ ∀ s h : Int, 0 ≤ s → s < P 1 4 → 0 ≤ h → h < 240 → σ 36 0 (s * 240 + h).toNat = abNow P (abC P T) (T 0) (T 1) s h
def isK (P : abP) (K : Option abD) (σ : slM) : Prop := match K with | none => σ 11 0 8 = 0 | some D => σ 11 0 8 = 1 ∧ isS 2 P D σ
def isKm (P : abP) (K : Option abD) (σ : slM) : Prop := match K with | none => σ 12 0 76 = 0 | some D => σ 12 0 76 = 1 ∧ isN 104 105 106 77 78 P D σ
def gdO (P : abP) (K : Option abD) : Prop := match K with | none => True | some D => gdD P D
/-- the class holds Z: chart c, stand s -/
def isX (c s : Nat) (Z : abZ) (σ : slM) : Prop :=
  (c ≤ 1 ∧ s ≤ 1) ∧ σ 11 0 4 = c ∧ σ 11 0 5 = s ∧ σ 7 0 2 = ((1 - c : Nat) : Int) ∧ σ 7 0 3 = ((1 - s : Nat) : Int) ∧ isC c Z.1 σ ∧ isS s Z.1 Z.2.1 σ ∧ isK Z.1 Z.2.2.1 σ
  ∧ (σ 11 0 12 = 0 ∨ (σ 11 0 12 = 1 ∧ isStl Z.1 Z.2.1.1 σ)) ∧ (∀ i : Nat, i ≤ 1 → ∀ k : Nat, k % 240 % 24 < 12 → σ 36 i k = 0)
  ∧ σ 11 0 1 = Z.2.2.2.2.1 ∧ (∀ k : Nat, (k : Int) < Z.2.2.2.2.1 → σ 58 0 k = Z.2.2.2.1 k) ∧ σ 11 0 2 = Z.2.2.2.2.2.1 ∧ ∀ k : Nat, k < 3 → σ 59 0 k = Z.2.2.2.2.2.2 k
/-- the model holds Z -/
def isY (Z : abZ) (σ : slM) : Prop :=
  isM Z.1 σ ∧ isN 88 89 102 58 72 Z.1 Z.2.1 σ ∧ isKm Z.1 Z.2.2.1 σ
  ∧ σ 12 0 20 = Z.2.2.2.2.1 ∧ (∀ k : Nat, (k : Int) < Z.2.2.2.2.1 → σ 72 0 k = Z.2.2.2.1 k) ∧ σ 12 0 22 = Z.2.2.2.2.2.1 ∧ ∀ k : Nat, k < 3 → σ 73 0 k = Z.2.2.2.2.2.2 k
def gdZ (N : Nat) (Z : abZ) : Prop :=
  gdC Z.1 ∧ gdD Z.1 Z.2.1 ∧ gdO Z.1 Z.2.2.1 ∧ (0 ≤ Z.2.2.2.2.1 ∧ Z.2.2.2.2.1 ≤ 700) ∧ (∀ k : Nat, 0 ≤ Z.2.2.2.1 k ∧ Z.2.2.2.1 k < 256) ∧ (-1 ≤ Z.2.2.2.2.2.1 ∧ Z.2.2.2.2.2.1 ≤ 700) ∧ ∀ k : Nat, 0 ≤ Z.2.2.2.2.2.2 k ∧ Z.2.2.2.2.2.2 k ≤ N
/-- the class has run: nothing of the model changed; and the other way round -/
def clF (σ τ : slM) : Prop := ∀ r, r = 12 ∨ 61 ≤ r → τ r = σ r
def mdF (σ τ : slM) : Prop := ∀ r, ¬ (r = 12 ∨ 61 ≤ r) → τ r = σ r
theorem clF.id {σ : slM} : clF σ σ := fun _ _ => rfl
theorem clF.tr {σ τ υ : slM} (h1 : clF σ τ) (h2 : clF τ υ) : clF σ υ := fun r h => (h2 r h).trans (h1 r h)
theorem mdF.id {σ : slM} : mdF σ σ := fun _ _ => rfl
theorem mdF.tr {σ τ υ : slM} (h1 : mdF σ τ) (h2 : mdF τ υ) : mdF σ υ := fun r h => (h2 r h).trans (h1 r h)
theorem slFr.cl {L : List (Nat × Nat)} {σ τ : slM} (h : slFr L σ τ) (hL : ∀ p ∈ L, ¬ (p.1 = 12 ∨ 61 ≤ p.1)) : clF σ τ := fun r hr => by
  funext i
  exact h r i (fun z => hL _ z hr)
theorem clF.up {σ τ : slM} {r i k : Nat} {v : Int} (h : clF σ τ) (hr : ¬ (r = 12 ∨ 61 ≤ r)) : clF σ (slU τ r i k v) := fun r' h' => by
  have : slU τ r i k v r' = τ r' := by
    funext i'
    exact slU_else (fun z => hr (by rw [← z.1]; exact h'))
  rw [this]
  exact h r' h'
theorem mdF.up {σ τ : slM} {r i k : Nat} {v : Int} (h : mdF σ τ) (hr : r = 12 ∨ 61 ≤ r) : mdF σ (slU τ r i k v) := fun r' h' => by
  have : slU τ r i k v r' = τ r' := by
    funext i'
    exact slU_else (fun z => h' (by rw [z.1]; exact hr))
  rw [this]
  exact h r' h'
theorem mFr.md {L S : List Nat} {σ τ : slM} (h : mFr L S σ τ) (hL : ∀ r ∈ L, 61 ≤ r) : mdF σ τ := fun r hr => by
  funext i
  exact h.1 r i (fun z => hr (Or.inl z)) (fun z => hr (Or.inr (hL _ z)))
theorem isN.c {rN rA rL sA sL : Nat} {P : abP} {D : abD} {σ τ : slM} (h : isN rN rA rL sA sL P D σ) (h1 : τ rN 0 = σ rN 0) (h2 : τ rA 0 = σ rA 0) (h3 : τ rL 0 = σ rL 0) (h4 : τ 12 0 sA = σ 12 0 sA) (h5 : τ 12 0 sL = σ 12 0 sL) : isN rN rA rL sA sL P D τ := by
  unfold isN
  rw [h1, h2, h3, h4, h5]
  exact h
theorem isKm.c {P : abP} {K : Option abD} {σ τ : slM} (h : isKm P K σ) (h1 : τ 104 0 = σ 104 0) (h2 : τ 105 0 = σ 105 0) (h3 : τ 106 0 = σ 106 0) (h4 : ∀ k, 76 ≤ k → k ≤ 78 → τ 12 0 k = σ 12 0 k) : isKm P K τ := by
  match K, h with
  | none, h => exact (h4 76 (by omega) (by omega)).trans h
  | some D, h => exact ⟨(h4 76 (by omega) (by omega)).trans h.1, h.2.c h1 h2 h3 (h4 77 (by omega) (by omega)) (h4 78 (by omega) (by omega))⟩
theorem isM.c {P : abP} {σ τ : slM} (h : isM P σ) (q : ∀ r, 61 ≤ r → r ≤ 71 → τ r 0 = σ r 0) (s : ∀ k, 1 ≤ k → k ≤ 7 → τ 12 0 k = σ 12 0 k) : isM P τ := by
  unfold isM
  rw [q 61 (by omega) (by omega), q 62 (by omega) (by omega), q 63 (by omega) (by omega), q 64 (by omega) (by omega), q 65 (by omega) (by omega), q 66 (by omega) (by omega), q 67 (by omega) (by omega), q 68 (by omega) (by omega), q 69 (by omega) (by omega), q 70 (by omega) (by omega), q 71 (by omega) (by omega)]
  rw [s 1 (by omega) (by omega), s 2 (by omega) (by omega), s 3 (by omega) (by omega), s 4 (by omega) (by omega), s 5 (by omega) (by omega), s 6 (by omega) (by omega), s 7 (by omega) (by omega)]
  exact h
theorem isY.fr {Z : abZ} {σ τ : slM} (h : isY Z σ) (f : clF σ τ) : isY Z τ := by
  have q : ∀ r, 61 ≤ r → τ r = σ r := fun r a => f r (Or.inr a)
  have q12 : τ 12 = σ 12 := f 12 (Or.inl rfl)
  obtain ⟨h1, h2, h3, h4, h5, h6, h7⟩ := h
  exact ⟨h1.c (fun r a _ => by rw [q r a]) (fun k _ _ => by rw [q12]), h2.c (by rw [q 88 (by omega)]) (by rw [q 89 (by omega)]) (by rw [q 102 (by omega)]) (by rw [q12]) (by rw [q12]), h3.c (by rw [q 104 (by omega)]) (by rw [q 105 (by omega)]) (by rw [q 106 (by omega)]) (fun k _ _ => by rw [q12]), by rw [q12]; exact h4, by rw [q 72 (by omega)]; exact h5, by rw [q12]; exact h6, by rw [q 73 (by omega)]; exact h7⟩
/-- the model has asked and changed nothing that lasts -/
def mQ (σ τ : slM) : Prop := mFr [90, 91, 92, 93, 94, 95, 96, 97, 98, 99, 100, 101, 103] [0, 65, 74] σ τ
theorem mFr.q {L S : List Nat} {σ τ : slM} (h : mFr L S σ τ) (hL : ∀ r ∈ L, r ∈ [90, 91, 92, 93, 94, 95, 96, 97, 98, 99, 100, 101, 103]) (hS : ∀ r ∈ S, r ∈ [0, 65, 74]) : mQ σ τ := h.mono hL hS
theorem isY.q {Z : abZ} {σ τ : slM} (h : isY Z σ) (f : mQ σ τ) : isY Z τ := by
  obtain ⟨h1, h2, h3, h4, h5, h6, h7⟩ := h
  exact ⟨h1.fr f (by decide) (by decide), h2.c (f.1 88 0 (by decide) (by decide)) (f.1 89 0 (by decide) (by decide)) (f.1 102 0 (by decide) (by decide)) (f.2 58 (by decide)) (f.2 72 (by decide)), h3.c (f.1 104 0 (by decide) (by decide)) (f.1 105 0 (by decide) (by decide)) (f.1 106 0 (by decide) (by decide)) (fun k a b => f.2 k (by simp; omega)), by rw [f.2 20 (by decide)]; exact h4, by rw [f.1 72 0 (by decide) (by decide)]; exact h5, by rw [f.2 22 (by decide)]; exact h6, by rw [f.1 73 0 (by decide) (by decide)]; exact h7⟩
theorem isS.c {s : Nat} {P : abP} {D : abD} {σ τ : slM} (h : isS s P D σ) (q : ∀ r, r = 51 ∨ r = 52 ∨ r = 53 ∨ r = 54 ∨ r = 8 ∨ r = 0 ∨ r = 20 ∨ r = 21 ∨ r = 22 ∨ r = 5 ∨ r = 40 ∨ r = 41 ∨ r = 42 ∨ r = 43 → τ r s = σ r s) : isS s P D τ := by
  unfold isS
  rw [q 51 (by decide), q 52 (by decide), q 53 (by decide), q 54 (by decide), q 8 (by decide), q 0 (by decide), q 20 (by decide), q 21 (by decide), q 22 (by decide), q 5 (by decide), q 40 (by decide), q 41 (by decide), q 42 (by decide), q 43 (by decide)]
  exact h
theorem isC.c {c : Nat} {P : abP} {σ τ : slM} (h : isC c P σ) (q : ∀ r, r ∈ chR → τ r c = σ r c) : isC c P τ := by
  obtain ⟨h1, h2, h3, h4, h5, h6, h7, h8, h9, h10, h11, h12, h13, h14⟩ := h
  exact ⟨(q 1 (by decide)).trans h1, (q 23 (by decide)).trans h2, (q 24 (by decide)).trans h3, (q 25 (by decide)).trans h4, (q 26 (by decide)).trans h5, (q 27 (by decide)).trans h6, (q 28 (by decide)).trans h7, (q 29 (by decide)).trans h8, (q 30 (by decide)).trans h9, (q 31 (by decide)).trans h10, (q 32 (by decide)).trans h11, (q 4 (by decide)).trans h12, (q 37 (by decide)).trans h13, (q 38 (by decide)).trans h14⟩
theorem isStl.c {P : abP} {T : Int → Int → Int} {σ τ : slM} (h : isStl P T σ) (q : ∀ r, r = 60 ∨ r = 56 ∨ r = 35 ∨ r = 36 → τ r 0 = σ r 0) : isStl P T τ := by
  unfold isStl isW
  rw [q 60 (by decide), q 56 (by decide), q 35 (by decide), q 36 (by decide)]
  exact h
theorem isK.c {P : abP} {K : Option abD} {σ τ : slM} (h : isK P K σ) (h8 : τ 11 0 8 = σ 11 0 8) (q : ∀ r, r = 51 ∨ r = 52 ∨ r = 53 ∨ r = 54 ∨ r = 8 ∨ r = 0 ∨ r = 20 ∨ r = 21 ∨ r = 22 ∨ r = 5 ∨ r = 40 ∨ r = 41 ∨ r = 42 ∨ r = 43 → τ r 2 = σ r 2) : isK P K τ := by
  match K, h with
  | none, h => exact h8.trans h
  | some D, h => exact ⟨h8.trans h.1, h.2.c q⟩
theorem isX.fr {c s : Nat} {Z : abZ} {σ τ : slM} (h : isX c s Z σ) (f : mdF σ τ) : isX c s Z τ := by
  have q : ∀ r, r < 61 → r ≠ 12 → τ r = σ r := fun r a b => f r (by omega)
  obtain ⟨h1, h2, h3, h4, h5, h6, h7, h8, h9, h10, h11, h12, h13, h14⟩ := h
  have e11 := q 11 (by decide) (by decide)
  refine ⟨h1, by rw [e11]; exact h2, by rw [e11]; exact h3, by rw [q 7 (by decide) (by decide)]; exact h4, by rw [q 7 (by decide) (by decide)]; exact h5, h6.c (fun r hr => ?_), h7.c (fun r hr => by rw [q r (by omega) (by omega)]), h8.c (by rw [e11]) (fun r hr => by rw [q r (by omega) (by omega)]), ?_, ?_, by rw [e11]; exact h11, by rw [q 58 (by decide) (by decide)]; exact h12, by rw [e11]; exact h13, by rw [q 59 (by decide) (by decide)]; exact h14⟩
  · rw [q r ((by decide : ∀ r ∈ chR, r < 61) r hr) ((by decide : ∀ r ∈ chR, r ≠ 12) r hr)]
  · rw [e11]
    rcases h9 with z | z
    · exact Or.inl z
    · exact Or.inr ⟨z.1, z.2.c (fun r hr => by rw [q r (by omega) (by omega)])⟩
  · rw [q 36 (by decide) (by decide)]; exact h10
/-- places that a question may use -/
def slSc (r i : Nat) : Bool := [3, 6, 33, 34, 35, 36, 39, 44, 45, 46, 47, 48, 49, 55, 56, 57, 60].contains r || ([51, 52, 53, 54, 8, 0, 20, 21, 22, 5, 40, 41, 42, 43].contains r && i == 3)
def cQ (σ τ : slM) : Prop := (∀ r i, r ≠ 11 → slSc r i = false → τ r i = σ r i) ∧ ∀ k, k ≠ 12 → k ≠ 18 → τ 11 0 k = σ 11 0 k
theorem cQ.id {σ : slM} : cQ σ σ := ⟨fun _ _ _ _ => rfl, fun _ _ _ => rfl⟩
theorem cQ.tr {σ τ υ : slM} (h1 : cQ σ τ) (h2 : cQ τ υ) : cQ σ υ := ⟨fun r i a b => (h2.1 r i a b).trans (h1.1 r i a b), fun k a b => (h2.2 k a b).trans (h1.2 k a b)⟩
theorem slFr.cq {L : List (Nat × Nat)} {σ τ : slM} (h : slFr L σ τ) (hL : ∀ p ∈ L, slSc p.1 p.2 = true) : cQ σ τ := ⟨fun r i _ b => h r i (fun z => by have := hL _ z; rw [b] at this; exact absurd this (by decide)), fun k _ _ => by
  rw [h 11 0 (fun z => absurd (hL _ z) (by decide))]⟩
theorem cQ.up {σ τ : slM} {r i k : Nat} {v : Int} (h : cQ σ τ) (hr : slSc r i = true) (h11 : r ≠ 11) : cQ σ (slU τ r i k v) := ⟨fun r' i' a b => by
    rw [slU_else (fun z => by rw [z.1, z.2, hr] at b; exact absurd b (by decide))]
    exact h.1 r' i' a b, fun k' a b => by
    rw [slU_else (fun z => h11 z.1.symm)]
    exact h.2 k' a b⟩
theorem cQ.up11 {σ τ : slM} {k : Nat} {v : Int} (h : cQ σ τ) (hk : k = 12 ∨ k = 18) : cQ σ (slU τ 11 0 k v) := ⟨fun r' i' a b => by
    rw [slU_else (fun z => a z.1)]
    exact h.1 r' i' a b, fun k' a b => by
    rw [slU_ne (by omega)]
    exact h.2 k' a b⟩
theorem cQ.cl {σ τ : slM} (h : cQ σ τ) : clF σ τ := fun r hr => by
  funext i
  refine h.1 r i (by omega) ?_
  have : ∀ L : List Nat, (∀ x ∈ L, ¬ (x = 12 ∨ 61 ≤ x)) → L.contains r = false := fun L hL => by
    cases e : L.contains r with
    | false => rfl
    | true => exact absurd hr (hL r (List.contains_iff_mem.mp e))
  unfold slSc
  rw [this _ (by decide), this _ (by decide)]
  rfl
theorem isX.q {c s : Nat} {Z : abZ} {σ τ : slM} (h : isX c s Z σ) (f : cQ σ τ) (hs : τ 11 0 12 = 0 ∨ (τ 11 0 12 = 1 ∧ isStl Z.1 Z.2.1.1 τ)) (hd : ∀ i : Nat, i ≤ 1 → ∀ k : Nat, k % 240 % 24 < 12 → τ 36 i k = 0) : isX c s Z τ := by
  obtain ⟨h1, h2, h3, h4, h5, h6, h7, h8, h9, h10, h11, h12, h13, h14⟩ := h
  have st : ∀ r i, i ≠ 3 → r = 51 ∨ r = 52 ∨ r = 53 ∨ r = 54 ∨ r = 8 ∨ r = 0 ∨ r = 20 ∨ r = 21 ∨ r = 22 ∨ r = 5 ∨ r = 40 ∨ r = 41 ∨ r = 42 ∨ r = 43 → τ r i = σ r i := fun r i hi hr => by
    refine f.1 r i (by omega) ?_
    have : (i == 3) = false := by simp [hi]
    unfold slSc
    rw [this, Bool.and_false, Bool.or_false]
    rcases hr with e | e | e | e | e | e | e | e | e | e | e | e | e | e <;> rw [e] <;> rfl
  refine ⟨h1, by rw [f.2 4 (by decide) (by decide)]; exact h2, by rw [f.2 5 (by decide) (by decide)]; exact h3, by rw [f.1 7 0 (by decide) (by decide)]; exact h4, by rw [f.1 7 0 (by decide) (by decide)]; exact h5, h6.c (fun r hr => ?_), h7.c (fun r hr => st r s (by omega) hr), h8.c (f.2 8 (by decide) (by decide)) (fun r hr => st r 2 (by decide) hr), hs, hd, by rw [f.2 1 (by decide) (by decide)]; exact h11, by rw [f.1 58 0 (by decide) (by decide)]; exact h12, by rw [f.2 2 (by decide) (by decide)]; exact h13, by rw [f.1 59 0 (by decide) (by decide)]; exact h14⟩
  have key : ∀ r ∈ chR, r ≠ 11 ∧ [3, 6, 33, 34, 35, 36, 39, 44, 45, 46, 47, 48, 49, 55, 56, 57, 60].contains r = false ∧ [51, 52, 53, 54, 8, 0, 20, 21, 22, 5, 40, 41, 42, 43].contains r = false := by decide
  have k := key r hr
  refine f.1 r c k.1 ?_
  unfold slSc
  rw [k.2.1, k.2.2]
  rfl
set_option maxHeartbeats 1000000 in
set_option maxRecDepth 4000 in
theorem sp_X11_measureViews {G : slG} (hG : slGood G) {d K : Nat} (hd : 3 ≤ d) (hK : 0 ≤ K) {Φ : slPost} {σ : slM}  {P : abP} {mo : Int → Int} {c s : Nat} (hP : isC c P σ) (hC : gdC P) (e4 : σ 11 0 4 = c) (e5 : σ 11 0 5 = s) (hm : ∀ l : Int, 0 ≤ l → l < P 1 4 → σ 53 s l.toNat = mo l) (gm : gdM P mo) (h : ∀ τ, slFr [(60, 0)] σ τ → isW P mo τ → Φ (0, 0) τ) :
    slCall G mX11_measureViews d K [sR 11 0] σ Φ := by
  refine vc_X11_measureViews hG (by omega) hK (fun μ y1 y2 σ' => slFr [(60, 0)] σ σ' ∧ μ = ((P 1 4 - y2).toNat, 1000, 0) ∧ y1 = P 1 0 * P 1 1 ∧ (0 ≤ y2 ∧ y2 ≤ P 1 4) ∧ ∀ l c : Int, 0 ≤ l → l < y2 → gc P c → σ' 60 0 (l * 144 + c).toNat = abSight P (mo l) c) (fun μ y1 y2 y3 σ' => slFr [(60, 0)] σ σ' ∧ μ = ((P 1 4 - y2).toNat, 0, (P 1 0 * P 1 1 - y3).toNat) ∧ y1 = P 1 0 * P 1 1 ∧ (0 ≤ y2 ∧ y2 < P 1 4) ∧ (0 ≤ y3 ∧ y3 ≤ P 1 0 * P 1 1) ∧ (∀ l c : Int, 0 ≤ l → l < y2 → gc P c → σ' 60 0 (l * 144 + c).toNat = abSight P (mo l) c) ∧ ∀ c : Int, 0 ≤ c → c < y3 → σ' 60 0 (y2 * 144 + c).toNat = abSight P (mo y2) c) ?_ ?_ ?_
  · have a4 := hC.2.2.2.2.1
    rw [e4, Int.toNat_natCast]
    refine sp_X1_cells hG (by omega) (by omega) (slKt.ok ?_)
    rw [hP.1]
    exact ⟨_, slFr.id, rfl, rfl, ⟨by omega, by omega⟩, fun l c a b => by omega⟩
  · have a4 := hC.2.2.2.2.1
    have wh := hC.wh
    rintro μ y1 y2 σ' ⟨fr, rfl, rfl, hy, ct⟩
    rw [fr 11 0 (by simp), e4, Int.toNat_natCast, (hP.fr fr (by simp [chR])).1]
    exact ⟨⟨⟨by omega, by omega⟩, by omega, by omega⟩, fun q => h σ' fr (fun l c a b g => ct l c a (by omega) g), fun q => ⟨((P 1 4 - y2).toNat, 0, (P 1 0 * P 1 1 - 0).toNat), Or.inr ⟨rfl, Or.inl (by decide : 0 < 1000)⟩, fr, rfl, rfl, ⟨by omega, by omega⟩, ⟨by omega, by omega⟩, ct, fun c a b => by omega⟩⟩
  · have a4 := hC.2.2.2.2.1
    have wh := hC.wh
    rintro μ y1 y2 y3 σ' ⟨fr, rfl, rfl, hy, hy3, ct, cu⟩
    have hP' : isC c P σ' := hP.fr fr (by simp [chR])
    rw [fr 11 0 (by simp), e4, e5, Int.toNat_natCast, Int.toNat_natCast, fr 53 s (by simp)]
    refine ⟨⟨⟨by omega, by omega⟩, by omega, by omega⟩, fun q => ⟨((P 1 4 - (y2 + 1)).toNat, 1000, 0), Or.inl (by show (P 1 4 - (y2 + 1)).toNat < (P 1 4 - y2).toNat; omega), fr, rfl, rfl, ⟨by omega, by omega⟩, fun l c a b g => ?_⟩, fun q => ⟨⟨by omega, by omega⟩, ?_⟩⟩
    · by_cases z : l = y2
      · rw [z]; exact cu c g.1 (by have := g.2; omega)
      · exact ct l c a (by omega) g
    · rw [hm y2 hy.1 hy.2]
      refine sp_X1_sight hG (by omega) (by omega) hP' hC (gm y2 hy.1 hy.2).1 ⟨by omega, by omega⟩ (slKt.ok ⟨⟨by omega, by omega⟩, ((P 1 4 - y2).toNat, 0, (P 1 0 * P 1 1 - (y3 + 1)).toNat), Or.inr ⟨rfl, Or.inr ⟨rfl, by show (P 1 0 * P 1 1 - (y3 + 1)).toNat < (P 1 0 * P 1 1 - y3).toNat; omega⟩⟩, fr.up (by simp), rfl, rfl, hy, ⟨by omega, by omega⟩, fun l c a b g => ?_, fun c a b => ?_⟩)
      · have := g.1
        have := g.2
        rw [slU_ne (by omega)]; exact ct l c a b g
      · by_cases z : c = y3
        · rw [z, slU_same]
        · rw [slU_ne (by omega)]; exact cu c a (by omega)
theorem abC_cell {P : abP} {T : Int → Int → Int} (hV : gdV P T) {h l : Int} (hl : 0 ≤ l) (hl' : l < P 1 3) : gc P (abC P T h l) := ((hV.1.crs h.toNat) l hl hl').1
set_option maxHeartbeats 1000000 in
set_option maxRecDepth 4000 in
theorem sp_X11_settle {G : slG} (hG : slGood G) {d K : Nat} (hd : 5 ≤ d) (hK : 0 ≤ K) {Φ : slPost} {σ : slM}  {c s N : Nat} {Z : abZ} (hX : isX c s Z σ) (hZ : gdZ N Z) (h : ∀ τ, cQ σ τ → isX c s Z τ → isStl Z.1 Z.2.1.1 τ → Φ (0, 0) τ) :
    slCall G mX11_settle d K [sR 11 0] σ Φ := by
  refine vc_X11_settle hG (by omega) hK  ?_
  have hX0 := hX
  obtain ⟨h1, h2, h3, h4, h5, h6, h7, h8, h9, h10, h11, h12, h13, h14⟩ := hX
  obtain ⟨hC, hD, -⟩ := hZ
  have hV := hD.1.v
  refine ⟨⟨by omega, by omega⟩, fun q => ?_, fun q => ?_⟩
  · refine sp_X11_measureViews hG (by omega) (by omega) (mo := Z.2.1.1 1) h6 hC h2 h3 h7.2.1 hV.2.2.1 (fun τ1 f1 w1 => slKt.ok ?_)
    have x1 := f1.cq (by decide)
    have e11 : τ1 11 0 = σ 11 0 := f1 11 0 (by simp)
    have c1 : isC c Z.1 τ1 := h6.fr f1 (by simp [chR])
    have s1 : isS s Z.1 Z.2.1 τ1 := h7.c (fun r hr => f1 r s (by simp; omega))
    rw [e11, h2, h3, Int.toNat_natCast, Int.toNat_natCast, s1.2.2.2.1]
    refine sp_X10_plan hG (by omega) (by omega) c1 hC (fun l a b => by rw [s1.1 l a b]; exact hV.2.1 l a b) hV.2.2.2.2 (fun τ2 f2 t2 => slKt.ok ?_)
    have x2 : cQ σ τ2 := x1.tr (f2.cq (by simp [slSc]))
    have e11 : τ2 11 0 = σ 11 0 := (f2 11 0 (by simp)).trans e11
    have c2 : isC c Z.1 τ2 := c1.fr f2 (by simp [chR])
    have s2 : isS s Z.1 Z.2.1 τ2 := s1.c (fun r hr => f2 r s (by simp; omega))
    rw [e11, h2, h3, Int.toNat_natCast, Int.toNat_natCast]
    have ao : ∀ n : Nat, (n : Int) < 240 → abSeg (τ2 56 0) (n * 5) (Z.1 1 3).toNat = abOrd Z.1 (Z.2.1.1 3 0) (Z.2.1.1 0) n := fun n hn => by
      have := t2.2 n (by omega) hn
      rw [show ((n : Int) * 5).toNat = n * 5 by omega] at this
      rw [this]
      exact abSort_c (fun l a b => by show abG _ _ (τ1 52 s l.toNat) _ _ = _; rw [s1.1 l a (by omega)])
    refine sp_X3_sail hG (by omega) (by omega) (ord := abOrd Z.1 (Z.2.1.1 3 0) (Z.2.1.1 0)) c2 hC ⟨by decide, by decide⟩ (fun l a b => s2.2.2.1 l a b) hV.1 (fun n hn => ao n (by omega)) (fun n l hl => abOrd_mem hC hl) (fun τ3 f3 t3 _ => slKt.ok ?_)
    have x3 : cQ σ τ3 := x2.tr (f3.cq (by decide))
    have e11 : τ3 11 0 = σ 11 0 := (f3 11 0 (by simp)).trans e11
    have c3 : isC c Z.1 τ3 := c2.fr f3 (by simp [chR])
    have s3 : isS s Z.1 Z.2.1 τ3 := s2.c (fun r hr => f3 r s (by simp; omega))
    rw [e11, h2, h3, Int.toNat_natCast, Int.toNat_natCast]
    have t3' : ∀ h l : Int, 0 ≤ h → h < 240 → 0 ≤ l → l < Z.1 1 3 → τ3 35 0 (l * 240 + h).toNat = abC Z.1 Z.2.1.1 h l := fun h l a b c d => by
      have := t3 h.toNat l (by omega) c d
      rw [show ((h.toNat : Nat) : Int) = h by omega] at this
      exact this
    have w3 : isW Z.1 (Z.2.1.1 1) τ3 := fun l c a b g => by
      rw [f3 60 0 (by simp), f2 60 0 (by simp)]
      exact w1 l c a b g
    refine sp_X3_look hG (by omega) (by omega) (C := abC Z.1 Z.2.1.1) (oil := Z.2.1.1 0) c3 hC (fun h l a b c d => ⟨t3' h l a b c d, abC_cell hV c d⟩) w3 hV.2.2.1 (fun l a b => ⟨s3.1 l a b, hV.2.1 l a b⟩) (fun k hk => ?_) (fun τ4 f4 t4 z4 => slKt.ok ?_)
    · rw [f3 36 0 (by simp), f2 36 0 (by simp), f1 36 0 (by simp)]
      exact h10 0 (by decide) k hk
    have st : isStl Z.1 Z.2.1.1 (slU τ4 11 0 12 1) := by
      refine ⟨fun l c a b g => ?_, fun n hn => ?_, fun h l a b c d => ?_, fun l h a b c d => ?_⟩
      · rw [slU_else (by decide), f4 60 0 (by simp)]; exact w3 l c a b g
      · rw [slU_else (by decide), f4 56 0 (by simp), f3 56 0 (by simp)]; exact ao n hn
      · rw [slU_else (by decide), f4 35 0 (by simp)]; exact t3' h l a b c d
      · rw [slU_else (by decide)]; exact t4 l h a b c d
    have x4 : cQ σ (slU τ4 11 0 12 1) := (x3.tr (f4.cq (by decide))).up11 (Or.inl rfl)
    refine h _ x4 (hX0.q x4 (Or.inr ⟨slU_same _ _ _ _ _, st⟩) (fun i hi k hk => ?_)) st
    rw [slU_else (by omega)]
    by_cases z : i = 0
    · rw [z]; exact z4 k hk
    · rw [f4 36 i (by simp; omega), f3 36 i (by simp), f2 36 i (by simp), f1 36 i (by simp)]
      exact h10 i hi k hk
  · exact h σ cQ.id hX0 (h9.resolve_left q).2
