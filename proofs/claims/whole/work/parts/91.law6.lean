/-! ===== the law: calls that don't throw, and a coast ===== -/
def lwR (G : slG) (Mm : slMt) (am : List slV) (N : Nat) : slPost := slKn (fun v1 τ2 => slCall G Mm 100 0 am τ2 (slKn (fun v4 τ5 => ((InR v1) ∧ (InR v4)) ∧ (v1 = v4 → lwI N τ5) ∧ (¬ (v1 = v4) → False))))
def lwR0 (G : slG) (Mm : slMt) (am : List slV) (N : Nat) : slPost := slKn (fun _ τ2 => slCall G Mm 100 0 am τ2 (slKn (fun _ τ5 => lwI N τ5)))
theorem lwS {G : slG} {N c s : Nat} {Z Z' : abZ} {σ : slM} {M Mm : slMt} {ac am : List slV} {a : Int} (hM : M.2.2.2 ≠ some .long) (hMm : Mm.2.2.2 ≠ some .long) (hZ' : gdZ N Z') (hY : isY Z σ) (hc : ∀ Φ : slPost, (∀ τ, clF σ τ → isX c s Z' τ → Φ (0, a) τ) → slCall G M 100 0 ac σ Φ) (hm : ∀ (Φ : slPost) (σ' : slM), isY Z σ' → (∀ τ, mdF σ' τ → isY Z' τ → Φ (0, a) τ) → slCall G Mm 100 0 am σ' Φ) : slCall G M 100 0 ac σ (lwR G Mm am N) := by
  refine slCall.wr hM (hc (fun r τ => r = (0, a) ∧ clF σ τ ∧ isX c s Z' τ) (fun τ f h => ⟨rfl, f, h⟩)) (fun v τ h => slKn.ok (slCall.wr hMm (hm (fun r τ' => r = (0, a) ∧ mdF τ τ' ∧ isY Z' τ') τ (hY.fr h.2.1) (fun τ' f h => ⟨rfl, f, h⟩)) (fun v' τ' h' => slKn.ok ⟨⟨w32_r, w32_r⟩, fun _ => ⟨c, s, Z', h.2.2.fr h'.2.1, h'.2.2, hZ'⟩, fun n => n ?_⟩) (fun k τ hk h => ?_))) (fun k τ hk h => ?_)
  · have e1 : v = a := congrArg Prod.snd h.1
    have e2 : v' = a := congrArg Prod.snd h'.1
    rw [e1, e2]
  · have : k = 0 := congrArg Prod.fst h.1
    omega
  · have : k = 0 := congrArg Prod.fst h.1
    omega
theorem lwS0 {G : slG} {N c s : Nat} {Z Z' : abZ} {σ : slM} {M Mm : slMt} {ac am : List slV} (hM : M.2.2.2 ≠ some .long) (hMm : Mm.2.2.2 ≠ some .long) (hZ' : gdZ N Z') (hY : isY Z σ) (hc : ∀ Φ : slPost, (∀ τ, clF σ τ → isX c s Z' τ → Φ (0, 0) τ) → slCall G M 100 0 ac σ Φ) (hm : ∀ (Φ : slPost) (σ' : slM), isY Z σ' → (∀ τ, mdF σ' τ → isY Z' τ → Φ (0, 0) τ) → slCall G Mm 100 0 am σ' Φ) : slCall G M 100 0 ac σ (lwR0 G Mm am N) :=
  hc _ (fun τ f hX' => slKn.ok (hm _ τ (hY.fr f) (fun τ' f' hY' => slKn.ok ⟨c, s, Z', hX'.fr f', hY', hZ'⟩)))
theorem lc_feed {G : slG} (hG : slGood G) {N : Nat} {σ : slM} {x1 x2 x3 x4 x5 : Int} (I : lwI N σ) : slCall G mX11_feed 100 0 [sR 11 0, sI x1, sI x2, sI x3, sI x4, sI x5] σ (lwR G mX12_feed [sR 12 0, sI x1, sI x2, sI x3, sI x4, sI x5] (N + 1)) := by
  obtain ⟨c, s, Z, hX, hY, hZ⟩ := I
  exact lwS (by decide) (by decide) (hZ.feed (a := x1) (b := x2) (c := x3) (d := x4) (e := x5)) hY (fun Φ k => sp_X11_feed hG (by omega) (by omega) hX hZ k) (fun Φ σ' hY' k => sp_X12_feed hG (by omega) (by omega) hY' hZ (fun τ f h _ => k τ f h))
theorem lc_fault {G : slG} (hG : slGood G) {N : Nat} {σ : slM} (I : lwI N σ) : slCall G mX11_fault 100 0 [sR 11 0] σ (lwR G mX12_fault [sR 12 0] (N + 1)) := by
  obtain ⟨c, s, Z, hX, hY, hZ⟩ := I
  exact lwS (by decide) (by decide) hZ.s hY (fun Φ k => sp_X11_fault hG (by omega) (by omega) hX (k σ clF.id hX)) (fun Φ σ' hY' k => sp_X12_fault hG (by omega) (by omega) hY' (fun τ f h _ => k τ f h))
theorem lc_undo {G : slG} (hG : slGood G) {N : Nat} {σ : slM} (I : lwI N σ) : slCall G mX11_undo 100 0 [sR 11 0] σ (lwR G mX12_undo [sR 12 0] (N + 1)) := by
  obtain ⟨c, s, Z, hX, hY, hZ⟩ := I
  exact lwS (by decide) (by decide) hZ.undo hY (fun Φ k => sp_X11_undo hG (by omega) (by omega) hX hZ k) (fun Φ σ' hY' k => sp_X12_undo hG (by omega) (by omega) hY' hZ k)
theorem lc_restore {G : slG} (hG : slGood G) {N : Nat} {σ : slM} (I : lwI N σ) : slCall G mX11_restore 100 0 [sR 11 0] σ (lwR G mX12_restore [sR 12 0] (N + 1)) := by
  obtain ⟨c, s, Z, hX, hY, hZ⟩ := I
  exact lwS (by decide) (by decide) hZ.rest hY (fun Φ k => sp_X11_restore hG (by omega) (by omega) hX hZ k) (fun Φ σ' hY' k => sp_X12_restore hG (by omega) (by omega) hY' hZ k)
theorem lc_image {G : slG} (hG : slGood G) {N : Nat} {σ : slM} (I : lwI N σ) : slCall G mX11_image 100 0 [sR 11 0] σ (lwR0 G mX12_image [sR 12 0] (N + 1)) := by
  obtain ⟨c, s, Z, hX, hY, hZ⟩ := I
  exact lwS0 (by decide) (by decide) hZ.image hY (fun Φ k => sp_X11_image hG (by omega) (by omega) hX hZ k) (fun Φ σ' hY' k => sp_X12_image hG (by omega) (by omega) hY' hZ k)
theorem lc_forget {G : slG} (hG : slGood G) {N : Nat} {σ : slM} (I : lwI N σ) : slCall G mX11_forget 100 0 [sR 11 0] σ (lwR0 G mX12_forget [sR 12 0] (N + 1)) := by
  obtain ⟨c, s, Z, hX, hY, hZ⟩ := I
  exact lwS0 (by decide) (by decide) hZ.forget hY (fun Φ k => sp_X11_forget hG (by omega) (by omega) hX k) (fun Φ σ' hY' k => sp_X12_forget hG (by omega) (by omega) hY' k)
theorem lc_best {G : slG} (hG : slGood G) {N : Nat} {σ : slM} (I : lwI N σ) : slCall G mX11_best 100 0 [sR 11 0] σ (lwR G mX12_best [sR 12 0] (N + 1)) := by
  obtain ⟨c, s, Z, hX, hY, hZ⟩ := I
  exact lwS (by decide) (by decide) hZ.s hY (fun Φ k => sp_X11_best hG (by omega) (by omega) hX hZ (fun τ f h => k τ f.cl h)) (fun Φ σ' hY' k => sp_X12_best hG (by omega) (by omega) hY' hZ (fun τ f h _ => k τ (mFr.md f (by decide)) h))
theorem lc_brightest {G : slG} (hG : slGood G) {N : Nat} {σ : slM} (I : lwI N σ) : slCall G mX11_brightest 100 0 [sR 11 0] σ (lwR G mX12_brightest [sR 12 0] (N + 1)) := by
  obtain ⟨c, s, Z, hX, hY, hZ⟩ := I
  exact lwS (by decide) (by decide) hZ.s hY (fun Φ k => sp_X11_brightest hG (by omega) (by omega) hX hZ (fun τ f h => k τ f.cl h)) (fun Φ σ' hY' k => sp_X12_brightest hG (by omega) (by omega) hY' hZ (fun τ f h _ => k τ (mFr.md f (by decide)) h))
theorem lc_falsely {G : slG} (hG : slGood G) {N : Nat} {σ : slM} (I : lwI N σ) : slCall G mX11_falsely 100 0 [sR 11 0] σ (lwR G mX12_falsely [sR 12 0] (N + 1)) := by
  obtain ⟨c, s, Z, hX, hY, hZ⟩ := I
  exact lwS (by decide) (by decide) hZ.s hY (fun Φ k => sp_X11_falsely hG (by omega) (by omega) hX hZ (fun τ f h => k τ f.cl h)) (fun Φ σ' hY' k => sp_X12_falsely hG (by omega) (by omega) hY' hZ (fun τ f h _ => k τ (mFr.md f (by decide)) h))
theorem lc_coast {G : slG} (hG : slGood G) {N : Nat} {σ : slM} {x1 : Int} (i1 : InR x1) (hN : N ≤ 1000) (I : lwI N σ) : slCallH G mL_coast hL_coast 100 1 [sR 11 0, sI x1, sR 14 0] σ (lwP G mX12_coast [sR 12 0, sI x1] (N + 1)) := by
  obtain ⟨c, s, Z, hX, hY, hZ⟩ := I
  have lw : ∀ (k : Int) (τ : slM), lwP G mX12_coast [sR 12 0, sI x1] (N + 1) (0, 0) (slU τ 14 0 0 (w32 k)) → (InR (w32 k) ∧ lwP G mX12_coast [sR 12 0, sI x1] (N + 1) (0, 0) (slU τ 14 0 0 (w32 k))) := fun k τ h => ⟨w32_r, h⟩
  refine vw_coast hG (by decide) (by decide) (slCall.wr (by decide) (sp_X11_coast hG (by omega) (by omega) (Φ := fun r τ => (r.1 = 0 → lwP G mX12_coast [sR 12 0, sI x1] (N + 1) (0, 0) (slU τ 14 0 0 (w32 r.2))) ∧ (r.1 = 2 → lwP G mX12_coast [sR 12 0, sI x1] (N + 1) (0, 1) τ) ∧ r.1 ≠ 1) hX hZ hN i1 (fun b => ⟨fun z => absurd z (by show ¬ (2 : Nat) = 0; decide), fun _ => ?_, by show (2 : Nat) ≠ 1; decide⟩) (fun k q b ec hk τ f hX' => ⟨fun _ => ?_, fun z => absurd z (by show ¬ (0 : Nat) = 2; decide), by show (0 : Nat) ≠ 1; decide⟩) (fun Q p P b ec g hP τ f hX' => ⟨fun _ => ?_, fun z => absurd z (by show ¬ (0 : Nat) = 2; decide), by show (0 : Nat) ≠ 1; decide⟩)) (fun v τ h => ⟨fun _ => lw v τ (h.1 rfl), fun z => absurd z (by show ¬ (0 : Nat) = 2; decide), by show (0 : Nat) ≠ 1; decide⟩) (fun k τ hk h => ⟨fun z => by have z : k = 0 := z; omega, h.2.1, h.2.2⟩))
  · refine lwE hG (a := 0) (by decide) (Or.inr (Or.inl rfl)) (fun z => absurd z (by decide)) (sp_mcoast hG (by omega) hY hZ hN i1 (fun _ => ⟨rfl, rfl, (mdF.id.up (Or.inl rfl)).up (Or.inl rfl), ⟨c, s, Z, hX.fr ((mdF.id.up (Or.inl rfl)).up (Or.inl rfl)), ?_, hZ.s⟩, slU_same _ _ _ _ _⟩) (fun k q b' => absurd b' b) (fun Q p b' => absurd b' b))
    exact hY.q ((mFr.up12 (mFr.up12 mFr.id (by decide)) (by decide)))
  · refine lwE hG (a := k) (by decide) (Or.inl rfl) (fun _ => slU_same _ _ _ _ _) (sp_mcoast hG (by omega) ((hY.fr f).o) hZ hN i1 (fun b' => absurd b b') (fun k' q' b' ec' hq υ g' hY' e0 => ?_) (fun Q p b' ec' => by rw [ec] at ec'; cases ec'))
    have ee : (k', q') = (k, q) := by
      rw [ec] at ec'
      injection ec' with ec'
      exact ec'.symm
    have e1 : k' = k := congrArg Prod.fst ee
    have e2 : q' = q := congrArg Prod.snd ee
    subst e1 e2
    exact ⟨rfl, rfl, g', ⟨c, s, nxBad Z q', (hX'.o).fr g', hY', hZ.bad hq⟩, e0⟩
  · refine lwE hG (a := 0) (by decide) (Or.inl rfl) (fun _ => slU_same _ _ _ _ _) (sp_mcoast hG (by omega) ((hY.fr f).o) hZ hN i1 (fun b' => absurd b b') (fun k' q' b' ec' => by rw [ec] at ec'; cases ec') (fun Q' p' b' ec' g' υ g2 hY' e0 => ?_))
    have ee : (Q', p') = (Q, p) := by
      rw [ec] at ec'
      injection ec' with ec'
      exact ec'.symm
    have e1 : Q' = Q := congrArg Prod.fst ee
    subst e1
    exact ⟨rfl, rfl, g2, ⟨1 - c, 1 - s, nxNew Z P Q', (hX'.o).fr g2, hY' P hP, hZ.new hP g⟩, e0⟩
