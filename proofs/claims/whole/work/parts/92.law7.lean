/-! ===== the law: acts ===== -/
theorem abUnd_y {T : Int → Int → Int} {k w v l : Int} : abUnd T k w v k l = if l = w then v else T k l := by
  unfold abUnd
  by_cases z : l = w
  · rw [if_pos ⟨rfl, z⟩, if_pos z]
  · rw [if_neg (fun y => z y.2), if_neg z]
theorem gdV.f {P : abP} {T : Int → Int → Int} {l v : Int} (h : gdV P T) (hv : 0 ≤ v ∧ v ≤ 200) : gdV P (abUnd T 0 l v) := by
  refine ⟨?_, fun k a b => ?_, ?_, ?_, ?_⟩
  · rw [abUnd_o (by decide)]; exact h.1
  · rw [abUnd_y]
    split
    · exact hv
    · exact h.2.1 k a b
  · rw [abUnd_o (by decide)]; exact h.2.2.1
  · rw [abUnd_o (by decide)]; exact h.2.2.2.1
  · rw [abUnd_o (by decide)]; exact h.2.2.2.2
theorem gdV.w {P : abP} {T : Int → Int → Int} {l v : Int} (h : gdV P T) (hv : 0 ≤ v ∧ v ≤ 12) : gdV P (abUnd T 4 l v) := by
  refine ⟨?_, ?_, ?_, fun k a b => ?_, ?_⟩
  · rw [abUnd_o (by decide)]; exact h.1
  · rw [abUnd_o (by decide)]; exact h.2.1
  · rw [abUnd_o (by decide)]; exact h.2.2.1
  · rw [abUnd_y]
    split
    · exact hv
    · exact h.2.2.2.1 k a b
  · rw [abUnd_o (by decide)]; exact h.2.2.2.2
theorem gdV.m {P : abP} {T : Int → Int → Int} {l v : Int} (h : gdV P T) (hv : abOpen P v) : gdV P (abUnd T 1 l v) := by
  refine ⟨?_, ?_, fun k a b => ?_, ?_, ?_⟩
  · rw [abUnd_o (by decide)]; exact h.1
  · rw [abUnd_o (by decide)]; exact h.2.1
  · rw [abUnd_y]
    split
    · exact ⟨⟨hv.1, hv.2.1⟩, hv.2.2⟩
    · exact h.2.2.1 k a b
  · rw [abUnd_o (by decide)]; exact h.2.2.2.1
  · rw [abUnd_o (by decide)]; exact h.2.2.2.2
theorem gdV.l {P : abP} {T : Int → Int → Int} {v : Int} (h : gdV P T) (hv : -1 ≤ v ∧ v < P 4 4) : gdV P (abUnd T 3 0 v) := by
  refine ⟨?_, ?_, ?_, ?_, ?_⟩
  · rw [abUnd_o (by decide)]; exact h.1
  · rw [abUnd_o (by decide)]; exact h.2.1
  · rw [abUnd_o (by decide)]; exact h.2.2.1
  · rw [abUnd_o (by decide)]; exact h.2.2.2.1
  · rw [abUnd_y, if_pos rfl]
    omega
theorem anDo_n2 {Z : abZ} {p q : Prop} {k w : Int} : (anDo Z p q k w).1 ≠ 2 := by
  unfold anDo
  exact abOk_n2
theorem lc_obey {G : slG} (hG : slGood G) {N : Nat} {σ : slM} {x1 : Int} (i1 : InR x1) (I : lwI N σ) : slCall G mX11_obey 100 0 [sR 11 0, sI x1] σ (lwR G mX12_obey [sR 12 0, sI x1] (N + 1)) := by
  obtain ⟨c, s, Z, hX, hY, hZ⟩ := I
  exact lwS (by decide) (by decide) (hZ.do (p := True) (q := -1 ≤ x1 ∧ x1 < Z.1 4 4) (k := 3) (w := 0) (v := x1) (by decide) (fun _ => by unfold abMany; simp) (fun _ h => hZ.v.l h)) hY (fun Φ k => sp_X11_obey hG (by omega) (by omega) hX hZ i1 k) (fun Φ σ' hY' k => sp_X12_obey hG (by omega) (by omega) hY' hZ i1 k)
theorem lc_fill {G : slG} (hG : slGood G) {N : Nat} {σ : slM} {x1 x2 : Int} (i1 : InR x1) (i2 : InR x2) (I : lwI N σ) : slCallH G mL_fill hL_fill 100 1 [sR 11 0, sI x1, sI x2, sR 14 0] σ (lwP G mX12_fill [sR 12 0, sI x1, sI x2] (N + 1)) := by
  obtain ⟨c, s, Z, hX, hY, hZ⟩ := I
  have gz : gdZ (N + 1) (nxDo Z (0 ≤ x1 ∧ x1 < Z.1 1 3) (0 ≤ x2 ∧ x2 ≤ 200) 0 x1 x2) := hZ.do (by decide) (fun h => by unfold abMany; simpa using h) (fun _ h => hZ.v.f h)
  have Q := fun (τ : slM) (f : clF σ τ) (hX' : isX c s (nxDo Z (0 ≤ x1 ∧ x1 < Z.1 1 3) (0 ≤ x2 ∧ x2 ≤ 200) 0 x1 x2) τ) => lwQ hG (Mm := mX12_fill) (am := [sR 12 0, sI x1, sI x2]) (a := anDo Z (0 ≤ x1 ∧ x1 < Z.1 1 3) (0 ≤ x2 ∧ x2 ≤ 200) 0 x1) (Y0 := isY Z) (N := N + 1) (by decide) gz (fun τ f => hY.fr f) (fun Φ σ' hY' k => sp_X12_fill hG (by omega) (by omega) hY' hZ i1 i2 (fun τ f hY'' e => k τ f hY'' e)) f hX'
  refine vw_fill hG (by decide) (by decide) (slCall.wr (by decide) (sp_X11_fill hG (by omega) (by omega) (Φ := fun r τ => r = anDo Z (0 ≤ x1 ∧ x1 < Z.1 1 3) (0 ≤ x2 ∧ x2 ≤ 200) 0 x1 ∧ clF σ τ ∧ isX c s (nxDo Z (0 ≤ x1 ∧ x1 < Z.1 1 3) (0 ≤ x2 ∧ x2 ≤ 200) 0 x1 x2) τ) hX hZ i1 i2 (fun τ f hX' => ⟨rfl, f, hX'⟩)) (fun v τ h => ?_) (fun k τ hk h => ?_))
  · have q := Q τ h.2.1 h.2.2
    rw [← h.1] at q
    exact ⟨fun _ => ⟨w32_r, q.1 rfl⟩, fun z => absurd z (by show ¬ (0 : Nat) = 1; decide), by show (0 : Nat) ≠ 2; decide⟩
  · have q := Q τ h.2.1 h.2.2
    have n2 : k ≠ 2 := fun z => anDo_n2 (by rw [← h.1]; exact z)
    rw [← h.1] at q
    exact ⟨fun z => by have z : k = 0 := z; omega, fun z => q.2.1 z, n2⟩
theorem lc_moor {G : slG} (hG : slGood G) {N : Nat} {σ : slM} {x1 x2 : Int} (i1 : InR x1) (i2 : InR x2) (I : lwI N σ) : slCallH G mL_moor hL_moor 100 1 [sR 11 0, sI x1, sI x2, sR 14 0] σ (lwP G mX12_moor [sR 12 0, sI x1, sI x2] (N + 1)) := by
  obtain ⟨c, s, Z, hX, hY, hZ⟩ := I
  have gz : gdZ (N + 1) (nxDo Z (0 ≤ x1 ∧ x1 < Z.1 1 4) (abFree Z.1 (Z.2.1.1 1) (Z.1 1 4) x1 x2) 1 x1 x2) := hZ.do (by decide) (fun h => by unfold abMany; simpa using h) (fun _ h => hZ.v.m h.1)
  have Q := fun (τ : slM) (f : clF σ τ) (hX' : isX c s (nxDo Z (0 ≤ x1 ∧ x1 < Z.1 1 4) (abFree Z.1 (Z.2.1.1 1) (Z.1 1 4) x1 x2) 1 x1 x2) τ) => lwQ hG (Mm := mX12_moor) (am := [sR 12 0, sI x1, sI x2]) (a := anDo Z (0 ≤ x1 ∧ x1 < Z.1 1 4) (abFree Z.1 (Z.2.1.1 1) (Z.1 1 4) x1 x2) 1 x1) (Y0 := isY Z) (N := N + 1) (by decide) gz (fun τ f => hY.fr f) (fun Φ σ' hY' k => sp_X12_moor hG (by omega) (by omega) hY' hZ i1 i2 (fun τ f hY'' e => k τ f hY'' e)) f hX'
  refine vw_moor hG (by decide) (by decide) (slCall.wr (by decide) (sp_X11_moor hG (by omega) (by omega) (Φ := fun r τ => r = anDo Z (0 ≤ x1 ∧ x1 < Z.1 1 4) (abFree Z.1 (Z.2.1.1 1) (Z.1 1 4) x1 x2) 1 x1 ∧ clF σ τ ∧ isX c s (nxDo Z (0 ≤ x1 ∧ x1 < Z.1 1 4) (abFree Z.1 (Z.2.1.1 1) (Z.1 1 4) x1 x2) 1 x1 x2) τ) hX hZ i1 i2 (fun τ f hX' => ⟨rfl, f, hX'⟩)) (fun v τ h => ?_) (fun k τ hk h => ?_))
  · have q := Q τ h.2.1 h.2.2
    rw [← h.1] at q
    exact ⟨fun _ => ⟨w32_r, q.1 rfl⟩, fun z => absurd z (by show ¬ (0 : Nat) = 1; decide), by show (0 : Nat) ≠ 2; decide⟩
  · have q := Q τ h.2.1 h.2.2
    have n2 : k ≠ 2 := fun z => anDo_n2 (by rw [← h.1]; exact z)
    rw [← h.1] at q
    exact ⟨fun z => by have z : k = 0 := z; omega, fun z => q.2.1 z, n2⟩
theorem lc_push {G : slG} (hG : slGood G) {N : Nat} {σ : slM} {x1 x2 : Int} (i1 : InR x1) (i2 : InR x2) (I : lwI N σ) : slCallH G mL_push hL_push 100 1 [sR 11 0, sI x1, sI x2, sR 14 0] σ (lwP G mX12_push [sR 12 0, sI x1, sI x2] (N + 1)) := by
  obtain ⟨c, s, Z, hX, hY, hZ⟩ := I
  have gz : gdZ (N + 1) (nxDo Z (0 ≤ x1 ∧ x1 < Z.1 1 3) (abFree Z.1 (Z.2.1.1 2) (Z.1 1 3) x1 x2) 2 x1 x2) := hZ.do (by decide) (fun h => by unfold abMany; simpa using h) (fun _ h => hZ.v.b h)
  have Q := fun (τ : slM) (f : clF σ τ) (hX' : isX c s (nxDo Z (0 ≤ x1 ∧ x1 < Z.1 1 3) (abFree Z.1 (Z.2.1.1 2) (Z.1 1 3) x1 x2) 2 x1 x2) τ) => lwQ hG (Mm := mX12_push) (am := [sR 12 0, sI x1, sI x2]) (a := anDo Z (0 ≤ x1 ∧ x1 < Z.1 1 3) (abFree Z.1 (Z.2.1.1 2) (Z.1 1 3) x1 x2) 2 x1) (Y0 := isY Z) (N := N + 1) (by decide) gz (fun τ f => hY.fr f) (fun Φ σ' hY' k => sp_X12_push hG (by omega) (by omega) hY' hZ i1 i2 (fun τ f hY'' e => k τ f hY'' e)) f hX'
  refine vw_push hG (by decide) (by decide) (slCall.wr (by decide) (sp_X11_push hG (by omega) (by omega) (Φ := fun r τ => r = anDo Z (0 ≤ x1 ∧ x1 < Z.1 1 3) (abFree Z.1 (Z.2.1.1 2) (Z.1 1 3) x1 x2) 2 x1 ∧ clF σ τ ∧ isX c s (nxDo Z (0 ≤ x1 ∧ x1 < Z.1 1 3) (abFree Z.1 (Z.2.1.1 2) (Z.1 1 3) x1 x2) 2 x1 x2) τ) hX hZ i1 i2 (fun τ f hX' => ⟨rfl, f, hX'⟩)) (fun v τ h => ?_) (fun k τ hk h => ?_))
  · have q := Q τ h.2.1 h.2.2
    rw [← h.1] at q
    exact ⟨fun _ => ⟨w32_r, q.1 rfl⟩, fun z => absurd z (by show ¬ (0 : Nat) = 1; decide), by show (0 : Nat) ≠ 2; decide⟩
  · have q := Q τ h.2.1 h.2.2
    have n2 : k ≠ 2 := fun z => anDo_n2 (by rw [← h.1]; exact z)
    rw [← h.1] at q
    exact ⟨fun z => by have z : k = 0 := z; omega, fun z => q.2.1 z, n2⟩
theorem lc_want {G : slG} (hG : slGood G) {N : Nat} {σ : slM} {x1 x2 : Int} (i1 : InR x1) (i2 : InR x2) (I : lwI N σ) : slCallH G mL_want hL_want 100 1 [sR 11 0, sI x1, sI x2, sR 14 0] σ (lwP G mX12_want [sR 12 0, sI x1, sI x2] (N + 1)) := by
  obtain ⟨c, s, Z, hX, hY, hZ⟩ := I
  have gz : gdZ (N + 1) (nxDo Z (0 ≤ x1 ∧ x1 < Z.1 1 4) (0 ≤ x2 ∧ x2 ≤ 12) 4 x1 x2) := hZ.do (by decide) (fun h => by unfold abMany; simpa using h) (fun _ h => hZ.v.w h)
  have Q := fun (τ : slM) (f : clF σ τ) (hX' : isX c s (nxDo Z (0 ≤ x1 ∧ x1 < Z.1 1 4) (0 ≤ x2 ∧ x2 ≤ 12) 4 x1 x2) τ) => lwQ hG (Mm := mX12_want) (am := [sR 12 0, sI x1, sI x2]) (a := anDo Z (0 ≤ x1 ∧ x1 < Z.1 1 4) (0 ≤ x2 ∧ x2 ≤ 12) 4 x1) (Y0 := isY Z) (N := N + 1) (by decide) gz (fun τ f => hY.fr f) (fun Φ σ' hY' k => sp_X12_want hG (by omega) (by omega) hY' hZ i1 i2 (fun τ f hY'' e => k τ f hY'' e)) f hX'
  refine vw_want hG (by decide) (by decide) (slCall.wr (by decide) (sp_X11_want hG (by omega) (by omega) (Φ := fun r τ => r = anDo Z (0 ≤ x1 ∧ x1 < Z.1 1 4) (0 ≤ x2 ∧ x2 ≤ 12) 4 x1 ∧ clF σ τ ∧ isX c s (nxDo Z (0 ≤ x1 ∧ x1 < Z.1 1 4) (0 ≤ x2 ∧ x2 ≤ 12) 4 x1 x2) τ) hX hZ i1 i2 (fun τ f hX' => ⟨rfl, f, hX'⟩)) (fun v τ h => ?_) (fun k τ hk h => ?_))
  · have q := Q τ h.2.1 h.2.2
    rw [← h.1] at q
    exact ⟨fun _ => ⟨w32_r, q.1 rfl⟩, fun z => absurd z (by show ¬ (0 : Nat) = 1; decide), by show (0 : Nat) ≠ 2; decide⟩
  · have q := Q τ h.2.1 h.2.2
    have n2 : k ≠ 2 := fun z => anDo_n2 (by rw [← h.1]; exact z)
    rw [← h.1] at q
    exact ⟨fun z => by have z : k = 0 := z; omega, fun z => q.2.1 z, n2⟩
