/-! ===== the law's questions ===== -/
theorem abOk_n2 {p : Prop} {v : Int} : (abOk p v).1 ≠ 2 := by
  by_cases h : p
  · rw [abOk_t h]; show (0 : Nat) ≠ 2; decide
  · rw [abOk_f h]; show (1 : Nat) ≠ 2; decide
theorem lc_light {G : slG} (hG : slGood G) {N : Nat} {σ : slM} {x1 x2 : Int} (i1 : InR x1) (i2 : InR x2) (I : lwI N σ) : slCallH G mL_light hL_light 100 2 [sR 11 0, sI x1, sI x2, sR 14 0] σ (lwP G mX12_light [sR 12 0, sI x1, sI x2] (N + 1)) := by
  obtain ⟨c, s, Z, hX, hY, hZ⟩ := I
  have Q := fun (τ : slM) (f : clF σ τ) (hX' : isX c s Z τ) => lwQ hG (Mm := mX12_light) (am := [sR 12 0, sI x1, sI x2]) (a := (abOk ((0 ≤ x1 ∧ x1 < Z.1 1 3) ∧ 0 ≤ x2 ∧ x2 < 7) (abLgt Z.1 Z.2.1.1 x1 x2))) (Y0 := isY Z) (N := N + 1) (by decide) hZ.s (fun τ f => hY.fr f) (fun Φ σ' hY' k => sp_X12_light hG (by omega) (by omega) hY' hZ i1 i2 (fun τ f hY'' e => k τ (mFr.md f (by decide)) hY'' e)) f hX'
  refine vw_light hG (by decide) (by decide) (slCall.wr (by decide) (sp_X11_light hG (by omega) (by omega) (Φ := fun r τ => r = (abOk ((0 ≤ x1 ∧ x1 < Z.1 1 3) ∧ 0 ≤ x2 ∧ x2 < 7) (abLgt Z.1 Z.2.1.1 x1 x2)) ∧ clF σ τ ∧ isX c s Z τ) hX hZ i1 i2 (fun τ f hX' => ⟨rfl, f.cl, hX'⟩)) (fun v τ h => ?_) (fun k τ hk h => ?_))
  · have q := Q τ h.2.1 h.2.2
    rw [← h.1] at q
    exact ⟨fun _ => ⟨w32_r, q.1 rfl⟩, fun z => absurd z (by show ¬ (0 : Nat) = 1; decide), by show (0 : Nat) ≠ 2; decide⟩
  · have q := Q τ h.2.1 h.2.2
    have n2 : k ≠ 2 := fun z => abOk_n2 (by rw [← h.1]; exact z)
    rw [← h.1] at q
    exact ⟨fun z => by have z : k = 0 := z; omega, fun z => q.2.1 z, n2⟩
theorem lc_ship {G : slG} (hG : slGood G) {N : Nat} {σ : slM} {x1 x2 : Int} (i1 : InR x1) (i2 : InR x2) (I : lwI N σ) : slCallH G mL_ship hL_ship 100 2 [sR 11 0, sI x1, sI x2, sR 14 0] σ (lwP G mX12_ship [sR 12 0, sI x1, sI x2] (N + 1)) := by
  obtain ⟨c, s, Z, hX, hY, hZ⟩ := I
  have Q := fun (τ : slM) (f : clF σ τ) (hX' : isX c s Z τ) => lwQ hG (Mm := mX12_ship) (am := [sR 12 0, sI x1, sI x2]) (a := (abOk ((0 ≤ x1 ∧ x1 < Z.1 1 4) ∧ 0 ≤ x2 ∧ x2 < 4) (abShip Z.1 Z.2.1.1 x1 x2))) (Y0 := isY Z) (N := N + 1) (by decide) hZ.s (fun τ f => hY.fr f) (fun Φ σ' hY' k => sp_X12_ship hG (by omega) (by omega) hY' hZ i1 i2 (fun τ f hY'' e => k τ (mFr.md f (by decide)) hY'' e)) f hX'
  refine vw_ship hG (by decide) (by decide) (slCall.wr (by decide) (sp_X11_ship hG (by omega) (by omega) (Φ := fun r τ => r = (abOk ((0 ≤ x1 ∧ x1 < Z.1 1 4) ∧ 0 ≤ x2 ∧ x2 < 4) (abShip Z.1 Z.2.1.1 x1 x2)) ∧ clF σ τ ∧ isX c s Z τ) hX hZ i1 i2 (fun τ f hX' => ⟨rfl, f.cl, hX'⟩)) (fun v τ h => ?_) (fun k τ hk h => ?_))
  · have q := Q τ h.2.1 h.2.2
    rw [← h.1] at q
    exact ⟨fun _ => ⟨w32_r, q.1 rfl⟩, fun z => absurd z (by show ¬ (0 : Nat) = 1; decide), by show (0 : Nat) ≠ 2; decide⟩
  · have q := Q τ h.2.1 h.2.2
    have n2 : k ≠ 2 := fun z => abOk_n2 (by rw [← h.1]; exact z)
    rw [← h.1] at q
    exact ⟨fun z => by have z : k = 0 := z; omega, fun z => q.2.1 z, n2⟩
theorem lc_where {G : slG} (hG : slGood G) {N : Nat} {σ : slM} {x1 x2 : Int} (i1 : InR x1) (i2 : InR x2) (I : lwI N σ) : slCallH G mL_where hL_where 100 2 [sR 11 0, sI x1, sI x2, sR 14 0] σ (lwP G mX12_where [sR 12 0, sI x1, sI x2] (N + 1)) := by
  obtain ⟨c, s, Z, hX, hY, hZ⟩ := I
  have Q := fun (τ : slM) (f : clF σ τ) (hX' : isX c s Z τ) => lwQ hG (Mm := mX12_where) (am := [sR 12 0, sI x1, sI x2]) (a := (abOk ((0 ≤ x1 ∧ x1 < Z.1 1 3) ∧ 0 ≤ x2 ∧ x2 < 240) (abC Z.1 Z.2.1.1 x2 x1))) (Y0 := isY Z) (N := N + 1) (by decide) hZ.s (fun τ f => hY.fr f) (fun Φ σ' hY' k => sp_X12_where hG (by omega) (by omega) hY' hZ i1 i2 (fun τ f hY'' e => k τ (mFr.md f (by decide)) hY'' e)) f hX'
  refine vw_where hG (by decide) (by decide) (slCall.wr (by decide) (sp_X11_where hG (by omega) (by omega) (Φ := fun r τ => r = (abOk ((0 ≤ x1 ∧ x1 < Z.1 1 3) ∧ 0 ≤ x2 ∧ x2 < 240) (abC Z.1 Z.2.1.1 x2 x1)) ∧ clF σ τ ∧ isX c s Z τ) hX hZ i1 i2 (fun τ f hX' => ⟨rfl, f.cl, hX'⟩)) (fun v τ h => ?_) (fun k τ hk h => ?_))
  · have q := Q τ h.2.1 h.2.2
    rw [← h.1] at q
    exact ⟨fun _ => ⟨w32_r, q.1 rfl⟩, fun z => absurd z (by show ¬ (0 : Nat) = 1; decide), by show (0 : Nat) ≠ 2; decide⟩
  · have q := Q τ h.2.1 h.2.2
    have n2 : k ≠ 2 := fun z => abOk_n2 (by rw [← h.1]; exact z)
    rw [← h.1] at q
    exact ⟨fun z => by have z : k = 0 := z; omega, fun z => q.2.1 z, n2⟩
theorem lc_lamp {G : slG} (hG : slGood G) {N : Nat} {σ : slM} {x1 x2 x3 : Int} (i1 : InR x1) (i2 : InR x2) (i3 : InR x3) (I : lwI N σ) : slCallH G mL_lamp hL_lamp 100 3 [sR 11 0, sI x1, sI x2, sI x3, sR 14 0] σ (lwP G mX12_lamp [sR 12 0, sI x1, sI x2, sI x3] (N + 1)) := by
  obtain ⟨c, s, Z, hX, hY, hZ⟩ := I
  have Q := fun (τ : slM) (f : clF σ τ) (hX' : isX c s Z τ) => lwQ hG (Mm := mX12_lamp) (am := [sR 12 0, sI x1, sI x2, sI x3]) (a := (abOk ((0 ≤ x1 ∧ x1 < Z.1 1 3) ∧ (0 ≤ x2 ∧ x2 < 240) ∧ 0 ≤ x3 ∧ x3 < 2) (abLamp Z.2.1.1 x1 x2 x3))) (Y0 := isY Z) (N := N + 1) (by decide) hZ.s (fun τ f => hY.fr f) (fun Φ σ' hY' k => sp_X12_lamp hG (by omega) (by omega) hY' hZ i1 i2 i3 (fun τ f hY'' e => k τ (mFr.md f (by decide)) hY'' e)) f hX'
  refine vw_lamp hG (by decide) (by decide) (slCall.wr (by decide) (sp_X11_lamp hG (by omega) (by omega) (Φ := fun r τ => r = (abOk ((0 ≤ x1 ∧ x1 < Z.1 1 3) ∧ (0 ≤ x2 ∧ x2 < 240) ∧ 0 ≤ x3 ∧ x3 < 2) (abLamp Z.2.1.1 x1 x2 x3)) ∧ clF σ τ ∧ isX c s Z τ) hX hZ i1 i2 i3 (fun τ f hX' => ⟨rfl, f.cl, hX'⟩)) (fun v τ h => ?_) (fun k τ hk h => ?_))
  · have q := Q τ h.2.1 h.2.2
    rw [← h.1] at q
    exact ⟨fun _ => ⟨w32_r, q.1 rfl⟩, fun z => absurd z (by show ¬ (0 : Nat) = 1; decide), by show (0 : Nat) ≠ 2; decide⟩
  · have q := Q τ h.2.1 h.2.2
    have n2 : k ≠ 2 := fun z => abOk_n2 (by rw [← h.1]; exact z)
    rw [← h.1] at q
    exact ⟨fun z => by have z : k = 0 := z; omega, fun z => q.2.1 z, n2⟩
theorem lc_seen {G : slG} (hG : slGood G) {N : Nat} {σ : slM} {x1 x2 : Int} (i1 : InR x1) (i2 : InR x2) (I : lwI N σ) : slCallH G mL_seen hL_seen 100 2 [sR 11 0, sI x1, sI x2, sR 14 0] σ (lwP G mX12_seen [sR 12 0, sI x1, sI x2] (N + 1)) := by
  obtain ⟨c, s, Z, hX, hY, hZ⟩ := I
  have Q := fun (τ : slM) (f : clF σ τ) (hX' : isX c s Z τ) => lwQ hG (Mm := mX12_seen) (am := [sR 12 0, sI x1, sI x2]) (a := (abOk ((0 ≤ x1 ∧ x1 < Z.1 1 4) ∧ 0 ≤ x2 ∧ x2 < 240) (abNow Z.1 (abC Z.1 Z.2.1.1) (Z.2.1.1 0) (Z.2.1.1 1) x1 x2))) (Y0 := isY Z) (N := N + 1) (by decide) hZ.s (fun τ f => hY.fr f) (fun Φ σ' hY' k => sp_X12_seen hG (by omega) (by omega) hY' hZ i1 i2 (fun τ f hY'' e => k τ (mFr.md f (by decide)) hY'' e)) f hX'
  refine vw_seen hG (by decide) (by decide) (slCall.wr (by decide) (sp_X11_seen hG (by omega) (by omega) (Φ := fun r τ => r = (abOk ((0 ≤ x1 ∧ x1 < Z.1 1 4) ∧ 0 ≤ x2 ∧ x2 < 240) (abNow Z.1 (abC Z.1 Z.2.1.1) (Z.2.1.1 0) (Z.2.1.1 1) x1 x2)) ∧ clF σ τ ∧ isX c s Z τ) hX hZ i1 i2 (fun τ f hX' => ⟨rfl, f.cl, hX'⟩)) (fun v τ h => ?_) (fun k τ hk h => ?_))
  · have q := Q τ h.2.1 h.2.2
    rw [← h.1] at q
    exact ⟨fun _ => ⟨w32_r, q.1 rfl⟩, fun z => absurd z (by show ¬ (0 : Nat) = 1; decide), by show (0 : Nat) ≠ 2; decide⟩
  · have q := Q τ h.2.1 h.2.2
    have n2 : k ≠ 2 := fun z => abOk_n2 (by rw [← h.1]; exact z)
    rw [← h.1] at q
    exact ⟨fun z => by have z : k = 0 := z; omega, fun z => q.2.1 z, n2⟩
theorem lc_watch {G : slG} (hG : slGood G) {N : Nat} {σ : slM} {x1 x2 : Int} (i1 : InR x1) (i2 : InR x2) (I : lwI N σ) : slCallH G mL_watch hL_watch 100 2 [sR 11 0, sI x1, sI x2, sR 14 0] σ (lwP G mX12_watch [sR 12 0, sI x1, sI x2] (N + 1)) := by
  obtain ⟨c, s, Z, hX, hY, hZ⟩ := I
  have Q := fun (τ : slM) (f : clF σ τ) (hX' : isX c s Z τ) => lwQ hG (Mm := mX12_watch) (am := [sR 12 0, sI x1, sI x2]) (a := (abOk ((0 ≤ x1 ∧ x1 < Z.1 1 4) ∧ 0 ≤ x2 ∧ x2 < 10) (abHrs (abNow Z.1 (abC Z.1 Z.2.1.1) (Z.2.1.1 0) (Z.2.1.1 1) x1) x2 31))) (Y0 := isY Z) (N := N + 1) (by decide) hZ.s (fun τ f => hY.fr f) (fun Φ σ' hY' k => sp_X12_watch hG (by omega) (by omega) hY' hZ i1 i2 (fun τ f hY'' e => k τ (mFr.md f (by decide)) hY'' e)) f hX'
  refine vw_watch hG (by decide) (by decide) (slCall.wr (by decide) (sp_X11_watch hG (by omega) (by omega) (Φ := fun r τ => r = (abOk ((0 ≤ x1 ∧ x1 < Z.1 1 4) ∧ 0 ≤ x2 ∧ x2 < 10) (abHrs (abNow Z.1 (abC Z.1 Z.2.1.1) (Z.2.1.1 0) (Z.2.1.1 1) x1) x2 31)) ∧ clF σ τ ∧ isX c s Z τ) hX hZ i1 i2 (fun τ f hX' => ⟨rfl, f.cl, hX'⟩)) (fun v τ h => ?_) (fun k τ hk h => ?_))
  · have q := Q τ h.2.1 h.2.2
    rw [← h.1] at q
    exact ⟨fun _ => ⟨w32_r, q.1 rfl⟩, fun z => absurd z (by show ¬ (0 : Nat) = 1; decide), by show (0 : Nat) ≠ 2; decide⟩
  · have q := Q τ h.2.1 h.2.2
    have n2 : k ≠ 2 := fun z => abOk_n2 (by rw [← h.1]; exact z)
    rw [← h.1] at q
    exact ⟨fun z => by have z : k = 0 := z; omega, fun z => q.2.1 z, n2⟩
theorem lc_content {G : slG} (hG : slGood G) {N : Nat} {σ : slM} {x1 : Int} (i1 : InR x1) (I : lwI N σ) : slCallH G mL_content hL_content 100 1 [sR 11 0, sI x1, sR 14 0] σ (lwP G mX12_content [sR 12 0, sI x1] (N + 1)) := by
  obtain ⟨c, s, Z, hX, hY, hZ⟩ := I
  have Q := fun (τ : slM) (f : clF σ τ) (hX' : isX c s Z τ) => lwQ hG (Mm := mX12_content) (am := [sR 12 0, sI x1]) (a := (abOk (0 ≤ x1 ∧ x1 < 10) (abCon Z.1 Z.2.1.1 x1 31))) (Y0 := isY Z) (N := N + 1) (by decide) hZ.s (fun τ f => hY.fr f) (fun Φ σ' hY' k => sp_X12_content hG (by omega) (by omega) hY' hZ i1 (fun τ f hY'' e => k τ (mFr.md f (by decide)) hY'' e)) f hX'
  refine vw_content hG (by decide) (by decide) (slCall.wr (by decide) (sp_X11_content hG (by omega) (by omega) (Φ := fun r τ => r = (abOk (0 ≤ x1 ∧ x1 < 10) (abCon Z.1 Z.2.1.1 x1 31)) ∧ clF σ τ ∧ isX c s Z τ) hX hZ i1 (fun τ f hX' => ⟨rfl, f.cl, hX'⟩)) (fun v τ h => ?_) (fun k τ hk h => ?_))
  · have q := Q τ h.2.1 h.2.2
    rw [← h.1] at q
    exact ⟨fun _ => ⟨w32_r, q.1 rfl⟩, fun z => absurd z (by show ¬ (0 : Nat) = 1; decide), by show (0 : Nat) ≠ 2; decide⟩
  · have q := Q τ h.2.1 h.2.2
    have n2 : k ≠ 2 := fun z => abOk_n2 (by rw [← h.1]; exact z)
    rw [← h.1] at q
    exact ⟨fun z => by have z : k = 0 := z; omega, fun z => q.2.1 z, n2⟩
theorem lc_lamps {G : slG} (hG : slGood G) {N : Nat} {σ : slM} {x1 : Int} (i1 : InR x1) (I : lwI N σ) : slCallH G mL_lamps hL_lamps 100 1 [sR 11 0, sI x1, sR 14 0] σ (lwP G mX12_lamps [sR 12 0, sI x1] (N + 1)) := by
  obtain ⟨c, s, Z, hX, hY, hZ⟩ := I
  have Q := fun (τ : slM) (f : clF σ τ) (hX' : isX c s Z τ) => lwQ hG (Mm := mX12_lamps) (am := [sR 12 0, sI x1]) (a := (abOk (0 ≤ x1 ∧ x1 < 10) (abLamps Z.1 Z.2.1.1 x1))) (Y0 := isY Z) (N := N + 1) (by decide) hZ.s (fun τ f => hY.fr f) (fun Φ σ' hY' k => sp_X12_lamps hG (by omega) (by omega) hY' hZ i1 (fun τ f hY'' e => k τ (mFr.md f (by decide)) hY'' e)) f hX'
  refine vw_lamps hG (by decide) (by decide) (slCall.wr (by decide) (sp_X11_lamps hG (by omega) (by omega) (Φ := fun r τ => r = (abOk (0 ≤ x1 ∧ x1 < 10) (abLamps Z.1 Z.2.1.1 x1)) ∧ clF σ τ ∧ isX c s Z τ) hX hZ i1 (fun τ f hX' => ⟨rfl, f.cl, hX'⟩)) (fun v τ h => ?_) (fun k τ hk h => ?_))
  · have q := Q τ h.2.1 h.2.2
    rw [← h.1] at q
    exact ⟨fun _ => ⟨w32_r, q.1 rfl⟩, fun z => absurd z (by show ¬ (0 : Nat) = 1; decide), by show (0 : Nat) ≠ 2; decide⟩
  · have q := Q τ h.2.1 h.2.2
    have n2 : k ≠ 2 := fun z => abOk_n2 (by rw [← h.1]; exact z)
    rw [← h.1] at q
    exact ⟨fun z => by have z : k = 0 := z; omega, fun z => q.2.1 z, n2⟩
theorem lc_signs {G : slG} (hG : slGood G) {N : Nat} {σ : slM} {x1 x2 : Int} (i1 : InR x1) (i2 : InR x2) (I : lwI N σ) : slCallH G mL_signs hL_signs 100 2 [sR 11 0, sI x1, sI x2, sR 14 0] σ (lwP G mX12_signs [sR 12 0, sI x1, sI x2] (N + 1)) := by
  obtain ⟨c, s, Z, hX, hY, hZ⟩ := I
  have Q := fun (τ : slM) (f : clF σ τ) (hX' : isX c s Z τ) => lwQ hG (Mm := mX12_signs) (am := [sR 12 0, sI x1, sI x2]) (a := (abOk ((0 ≤ x1 ∧ x1 < 10) ∧ 0 ≤ x2 ∧ x2 < 2) (abSgn Z x1 x2))) (Y0 := isY Z) (N := N + 1) (by decide) hZ.s (fun τ f => hY.fr f) (fun Φ σ' hY' k => sp_X12_signs hG (by omega) (by omega) hY' hZ i1 i2 (fun τ f hY'' e => k τ (mFr.md f (by decide)) hY'' e)) f hX'
  refine vw_signs hG (by decide) (by decide) (slCall.wr (by decide) (sp_X11_signs hG (by omega) (by omega) (Φ := fun r τ => r = (abOk ((0 ≤ x1 ∧ x1 < 10) ∧ 0 ≤ x2 ∧ x2 < 2) (abSgn Z x1 x2)) ∧ clF σ τ ∧ isX c s Z τ) hX hZ i1 i2 (fun τ f hX' => ⟨rfl, f.cl, hX'⟩)) (fun v τ h => ?_) (fun k τ hk h => ?_))
  · have q := Q τ h.2.1 h.2.2
    rw [← h.1] at q
    exact ⟨fun _ => ⟨w32_r, q.1 rfl⟩, fun z => absurd z (by show ¬ (0 : Nat) = 1; decide), by show (0 : Nat) ≠ 2; decide⟩
  · have q := Q τ h.2.1 h.2.2
    have n2 : k ≠ 2 := fun z => abOk_n2 (by rw [← h.1]; exact z)
    rw [← h.1] at q
    exact ⟨fun z => by have z : k = 0 := z; omega, fun z => q.2.1 z, n2⟩
theorem lc_visits {G : slG} (hG : slGood G) {N : Nat} {σ : slM} {x1 : Int} (i1 : InR x1) (I : lwI N σ) : slCallH G mL_visits hL_visits 100 1 [sR 11 0, sI x1, sR 14 0] σ (lwP G mX12_visits [sR 12 0, sI x1] (N + 1)) := by
  obtain ⟨c, s, Z, hX, hY, hZ⟩ := I
  have Q := fun (τ : slM) (f : clF σ τ) (hX' : isX c s Z τ) => lwQ hG (Mm := mX12_visits) (am := [sR 12 0, sI x1]) (a := (abOk (0 ≤ x1 ∧ x1 < 240) (abVis Z x1))) (Y0 := isY Z) (N := N + 1) (by decide) hZ.s (fun τ f => hY.fr f) (fun Φ σ' hY' k => sp_X12_visits hG (by omega) (by omega) hY' hZ i1 (fun τ f hY'' e => k τ (mFr.md f (by decide)) hY'' e)) f hX'
  refine vw_visits hG (by decide) (by decide) (slCall.wr (by decide) (sp_X11_visits hG (by omega) (by omega) (Φ := fun r τ => r = (abOk (0 ≤ x1 ∧ x1 < 240) (abVis Z x1)) ∧ clF σ τ ∧ isX c s Z τ) hX hZ i1 (fun τ f hX' => ⟨rfl, f.cl, hX'⟩)) (fun v τ h => ?_) (fun k τ hk h => ?_))
  · have q := Q τ h.2.1 h.2.2
    rw [← h.1] at q
    exact ⟨fun _ => ⟨w32_r, q.1 rfl⟩, fun z => absurd z (by show ¬ (0 : Nat) = 1; decide), by show (0 : Nat) ≠ 2; decide⟩
  · have q := Q τ h.2.1 h.2.2
    have n2 : k ≠ 2 := fun z => abOk_n2 (by rw [← h.1]; exact z)
    rw [← h.1] at q
    exact ⟨fun z => by have z : k = 0 := z; omega, fun z => q.2.1 z, n2⟩
theorem lc_visit {G : slG} (hG : slGood G) {N : Nat} {σ : slM} {x1 x2 : Int} (i1 : InR x1) (i2 : InR x2) (I : lwI N σ) : slCallH G mL_visit hL_visit 100 2 [sR 11 0, sI x1, sI x2, sR 14 0] σ (lwP G mX12_visit [sR 12 0, sI x1, sI x2] (N + 1)) := by
  obtain ⟨c, s, Z, hX, hY, hZ⟩ := I
  have Q := fun (τ : slM) (f : clF σ τ) (hX' : isX c s Z τ) => lwQ hG (Mm := mX12_visit) (am := [sR 12 0, sI x1, sI x2]) (a := (abOk ((0 ≤ x1 ∧ x1 < Z.1 1 3) ∧ 0 ≤ x2 ∧ x2 < 240) (abVst Z x1 x2))) (Y0 := isY Z) (N := N + 1) (by decide) hZ.s (fun τ f => hY.fr f) (fun Φ σ' hY' k => sp_X12_visit hG (by omega) (by omega) hY' hZ i1 i2 (fun τ f hY'' e => k τ (mFr.md f (by decide)) hY'' e)) f hX'
  refine vw_visit hG (by decide) (by decide) (slCall.wr (by decide) (sp_X11_visit hG (by omega) (by omega) (Φ := fun r τ => r = (abOk ((0 ≤ x1 ∧ x1 < Z.1 1 3) ∧ 0 ≤ x2 ∧ x2 < 240) (abVst Z x1 x2)) ∧ clF σ τ ∧ isX c s Z τ) hX hZ i1 i2 (fun τ f hX' => ⟨rfl, f.cl, hX'⟩)) (fun v τ h => ?_) (fun k τ hk h => ?_))
  · have q := Q τ h.2.1 h.2.2
    rw [← h.1] at q
    exact ⟨fun _ => ⟨w32_r, q.1 rfl⟩, fun z => absurd z (by show ¬ (0 : Nat) = 1; decide), by show (0 : Nat) ≠ 2; decide⟩
  · have q := Q τ h.2.1 h.2.2
    have n2 : k ≠ 2 := fun z => abOk_n2 (by rw [← h.1]; exact z)
    rw [← h.1] at q
    exact ⟨fun z => by have z : k = 0 := z; omega, fun z => q.2.1 z, n2⟩
theorem lc_compared {G : slG} (hG : slGood G) {N : Nat} {σ : slM} {x1 : Int} (i1 : InR x1) (I : lwI N σ) : slCallH G mL_compared hL_compared 100 1 [sR 11 0, sI x1, sR 14 0] σ (lwP G mX12_compared [sR 12 0, sI x1] (N + 1)) := by
  obtain ⟨c, s, Z, hX, hY, hZ⟩ := I
  have Q := fun (τ : slM) (f : clF σ τ) (hX' : isX c s Z τ) => lwQ hG (Mm := mX12_compared) (am := [sR 12 0, sI x1]) (a := (abOk (-1 ≤ x1 ∧ x1 < Z.1 4 4) (abSW Z.1 (abCL Z.1 x1 (Z.2.1.1 0) (Z.2.1.1 2)) (Z.2.1.1 0) (Z.2.1.1 1)))) (Y0 := isY Z) (N := N + 1) (by decide) hZ.s (fun τ f => hY.fr f) (fun Φ σ' hY' k => sp_X12_compared hG (by omega) (by omega) hY' hZ i1 (fun τ f hY'' e => k τ (mFr.md f (by decide)) hY'' e)) f hX'
  refine vw_compared hG (by decide) (by decide) (slCall.wr (by decide) (sp_X11_compared hG (by omega) (by omega) (Φ := fun r τ => r = (abOk (-1 ≤ x1 ∧ x1 < Z.1 4 4) (abSW Z.1 (abCL Z.1 x1 (Z.2.1.1 0) (Z.2.1.1 2)) (Z.2.1.1 0) (Z.2.1.1 1))) ∧ clF σ τ ∧ isX c s Z τ) hX hZ i1 (fun τ f hX' => ⟨rfl, f.cl, hX'⟩)) (fun v τ h => ?_) (fun k τ hk h => ?_))
  · have q := Q τ h.2.1 h.2.2
    rw [← h.1] at q
    exact ⟨fun _ => ⟨w32_r, q.1 rfl⟩, fun z => absurd z (by show ¬ (0 : Nat) = 1; decide), by show (0 : Nat) ≠ 2; decide⟩
  · have q := Q τ h.2.1 h.2.2
    have n2 : k ≠ 2 := fun z => abOk_n2 (by rw [← h.1]; exact z)
    rw [← h.1] at q
    exact ⟨fun z => by have z : k = 0 := z; omega, fun z => q.2.1 z, n2⟩
theorem lc_mooring {G : slG} (hG : slGood G) {N : Nat} {σ : slM} {x1 x2 x3 : Int} (i1 : InR x1) (i2 : InR x2) (i3 : InR x3) (I : lwI N σ) : slCallH G mL_mooring hL_mooring 100 3 [sR 11 0, sI x1, sI x2, sI x3, sR 14 0] σ (lwP G mX12_mooring [sR 12 0, sI x1, sI x2, sI x3] (N + 1)) := by
  obtain ⟨c, s, Z, hX, hY, hZ⟩ := I
  have Q := fun (τ : slM) (f : clF σ τ) (hX' : isX c s Z τ) => lwQ hG (Mm := mX12_mooring) (am := [sR 12 0, sI x1, sI x2, sI x3]) (a := (abOk ((0 ≤ x1 ∧ x1 < Z.1 1 4) ∧ (0 ≤ x2 ∧ x2 < 10) ∧ 0 ≤ x3 ∧ x3 < 2) (abMr Z x1 x2 x3))) (Y0 := isY Z) (N := N + 1) (by decide) hZ.s (fun τ f => hY.fr f) (fun Φ σ' hY' k => sp_X12_mooring hG (by omega) (by omega) hY' hZ i1 i2 i3 (fun τ f hY'' e => k τ (mFr.md f (by decide)) hY'' e)) f hX'
  refine vw_mooring hG (by decide) (by decide) (slCall.wr (by decide) (sp_X11_mooring hG (by omega) (by omega) (Φ := fun r τ => r = (abOk ((0 ≤ x1 ∧ x1 < Z.1 1 4) ∧ (0 ≤ x2 ∧ x2 < 10) ∧ 0 ≤ x3 ∧ x3 < 2) (abMr Z x1 x2 x3)) ∧ clF σ τ ∧ isX c s Z τ) hX hZ i1 i2 i3 (fun τ f hX' => ⟨rfl, f.cl, hX'⟩)) (fun v τ h => ?_) (fun k τ hk h => ?_))
  · have q := Q τ h.2.1 h.2.2
    rw [← h.1] at q
    exact ⟨fun _ => ⟨w32_r, q.1 rfl⟩, fun z => absurd z (by show ¬ (0 : Nat) = 1; decide), by show (0 : Nat) ≠ 2; decide⟩
  · have q := Q τ h.2.1 h.2.2
    have n2 : k ≠ 2 := fun z => abOk_n2 (by rw [← h.1]; exact z)
    rw [← h.1] at q
    exact ⟨fun z => by have z : k = 0 := z; omega, fun z => q.2.1 z, n2⟩
theorem lc_father {G : slG} (hG : slGood G) {N : Nat} {σ : slM} {x1 x2 : Int} (i1 : InR x1) (i2 : InR x2) (I : lwI N σ) : slCallH G mL_father hL_father 100 2 [sR 11 0, sI x1, sI x2, sR 14 0] σ (lwP G mX12_father [sR 12 0, sI x1, sI x2] (N + 1)) := by
  obtain ⟨c, s, Z, hX, hY, hZ⟩ := I
  have Q := fun (τ : slM) (f : clF σ τ) (hX' : isX c s Z τ) => lwQ hG (Mm := mX12_father) (am := [sR 12 0, sI x1, sI x2]) (a := (abOk ((0 ≤ x1 ∧ x1 < Z.1 1 4) ∧ 0 ≤ x2 ∧ x2 < 240) (abFather Z.1 Z.2.1.1 x1 x2))) (Y0 := isY Z) (N := N + 1) (by decide) hZ.s (fun τ f => hY.fr f) (fun Φ σ' hY' k => sp_X12_father hG (by omega) (by omega) hY' hZ i1 i2 (fun τ f hY'' e => k τ (mFr.md f (by decide)) hY'' e)) f hX'
  refine vw_father hG (by decide) (by decide) (slCall.wr (by decide) (sp_X11_father hG (by omega) (by omega) (Φ := fun r τ => r = (abOk ((0 ≤ x1 ∧ x1 < Z.1 1 4) ∧ 0 ≤ x2 ∧ x2 < 240) (abFather Z.1 Z.2.1.1 x1 x2)) ∧ clF σ τ ∧ isX c s Z τ) hX hZ i1 i2 (fun τ f hX' => ⟨rfl, f.cl, hX'⟩)) (fun v τ h => ?_) (fun k τ hk h => ?_))
  · have q := Q τ h.2.1 h.2.2
    rw [← h.1] at q
    exact ⟨fun _ => ⟨w32_r, q.1 rfl⟩, fun z => absurd z (by show ¬ (0 : Nat) = 1; decide), by show (0 : Nat) ≠ 2; decide⟩
  · have q := Q τ h.2.1 h.2.2
    have n2 : k ≠ 2 := fun z => abOk_n2 (by rw [← h.1]; exact z)
    rw [← h.1] at q
    exact ⟨fun z => by have z : k = 0 := z; omega, fun z => q.2.1 z, n2⟩
theorem lc_journey {G : slG} (hG : slGood G) {N : Nat} {σ : slM} {x1 x2 : Int} (i1 : InR x1) (i2 : InR x2) (I : lwI N σ) : slCallH G mL_journey hL_journey 100 2 [sR 11 0, sI x1, sI x2, sR 14 0] σ (lwP G mX12_journey [sR 12 0, sI x1, sI x2] (N + 1)) := by
  obtain ⟨c, s, Z, hX, hY, hZ⟩ := I
  have Q := fun (τ : slM) (f : clF σ τ) (hX' : isX c s Z τ) => lwQ hG (Mm := mX12_journey) (am := [sR 12 0, sI x1, sI x2]) (a := (abOk ((0 ≤ x1 ∧ x1 < Z.1 1 3) ∧ 0 ≤ x2 ∧ x2 < 3) (abJrn Z x1 x2))) (Y0 := isY Z) (N := N + 1) (by decide) hZ.s (fun τ f => hY.fr f) (fun Φ σ' hY' k => sp_X12_journey hG (by omega) (by omega) hY' hZ i1 i2 (fun τ f hY'' e => k τ (mFr.md f (by decide)) hY'' e)) f hX'
  refine vw_journey hG (by decide) (by decide) (slCall.wr (by decide) (sp_X11_journey hG (by omega) (by omega) (Φ := fun r τ => r = (abOk ((0 ≤ x1 ∧ x1 < Z.1 1 3) ∧ 0 ≤ x2 ∧ x2 < 3) (abJrn Z x1 x2)) ∧ clF σ τ ∧ isX c s Z τ) hX hZ i1 i2 (fun τ f hX' => ⟨rfl, f.cl, hX'⟩)) (fun v τ h => ?_) (fun k τ hk h => ?_))
  · have q := Q τ h.2.1 h.2.2
    rw [← h.1] at q
    exact ⟨fun _ => ⟨w32_r, q.1 rfl⟩, fun z => absurd z (by show ¬ (0 : Nat) = 1; decide), by show (0 : Nat) ≠ 2; decide⟩
  · have q := Q τ h.2.1 h.2.2
    have n2 : k ≠ 2 := fun z => abOk_n2 (by rw [← h.1]; exact z)
    rw [← h.1] at q
    exact ⟨fun z => by have z : k = 0 := z; omega, fun z => q.2.1 z, n2⟩
theorem lc_alone {G : slG} (hG : slGood G) {N : Nat} {σ : slM} {x1 : Int} (i1 : InR x1) (I : lwI N σ) : slCallH G mL_alone hL_alone 100 1 [sR 11 0, sI x1, sR 14 0] σ (lwP G mX12_alone [sR 12 0, sI x1] (N + 1)) := by
  obtain ⟨c, s, Z, hX, hY, hZ⟩ := I
  have Q := fun (τ : slM) (f : clF σ τ) (hX' : isX c s Z τ) => lwQ hG (Mm := mX12_alone) (am := [sR 12 0, sI x1]) (a := (abOk (0 ≤ x1 ∧ x1 < 10) (abAln Z x1))) (Y0 := isY Z) (N := N + 1) (by decide) hZ.s (fun τ f => hY.fr f) (fun Φ σ' hY' k => sp_X12_alone hG (by omega) (by omega) hY' hZ i1 (fun τ f hY'' e => k τ (mFr.md f (by decide)) hY'' e)) f hX'
  refine vw_alone hG (by decide) (by decide) (slCall.wr (by decide) (sp_X11_alone hG (by omega) (by omega) (Φ := fun r τ => r = (abOk (0 ≤ x1 ∧ x1 < 10) (abAln Z x1)) ∧ clF σ τ ∧ isX c s Z τ) hX hZ i1 (fun τ f hX' => ⟨rfl, f.cl, hX'⟩)) (fun v τ h => ?_) (fun k τ hk h => ?_))
  · have q := Q τ h.2.1 h.2.2
    rw [← h.1] at q
    exact ⟨fun _ => ⟨w32_r, q.1 rfl⟩, fun z => absurd z (by show ¬ (0 : Nat) = 1; decide), by show (0 : Nat) ≠ 2; decide⟩
  · have q := Q τ h.2.1 h.2.2
    have n2 : k ≠ 2 := fun z => abOk_n2 (by rw [← h.1]; exact z)
    rw [← h.1] at q
    exact ⟨fun z => by have z : k = 0 := z; omega, fun z => q.2.1 z, n2⟩
theorem lc_quarrels {G : slG} (hG : slGood G) {N : Nat} {σ : slM} {x1 : Int} (i1 : InR x1) (I : lwI N σ) : slCallH G mL_quarrels hL_quarrels 100 1 [sR 11 0, sI x1, sR 14 0] σ (lwP G mX12_quarrels [sR 12 0, sI x1] (N + 1)) := by
  obtain ⟨c, s, Z, hX, hY, hZ⟩ := I
  have Q := fun (τ : slM) (f : clF σ τ) (hX' : isX c s Z τ) => lwQ hG (Mm := mX12_quarrels) (am := [sR 12 0, sI x1]) (a := (abOk (-1 ≤ x1 ∧ x1 < Z.1 4 4) (abQua Z.1 Z.2.1.1 x1))) (Y0 := isY Z) (N := N + 1) (by decide) hZ.s (fun τ f => hY.fr f) (fun Φ σ' hY' k => sp_X12_quarrels hG (by omega) (by omega) hY' hZ i1 (fun τ f hY'' e => k τ (mFr.md f (by decide)) hY'' e)) f hX'
  refine vw_quarrels hG (by decide) (by decide) (slCall.wr (by decide) (sp_X11_quarrels hG (by omega) (by omega) (Φ := fun r τ => r = (abOk (-1 ≤ x1 ∧ x1 < Z.1 4 4) (abQua Z.1 Z.2.1.1 x1)) ∧ clF σ τ ∧ isX c s Z τ) hX hZ i1 (fun τ f hX' => ⟨rfl, f.cl, hX'⟩)) (fun v τ h => ?_) (fun k τ hk h => ?_))
  · have q := Q τ h.2.1 h.2.2
    rw [← h.1] at q
    exact ⟨fun _ => ⟨w32_r, q.1 rfl⟩, fun z => absurd z (by show ¬ (0 : Nat) = 1; decide), by show (0 : Nat) ≠ 2; decide⟩
  · have q := Q τ h.2.1 h.2.2
    have n2 : k ≠ 2 := fun z => abOk_n2 (by rw [← h.1]; exact z)
    rw [← h.1] at q
    exact ⟨fun z => by have z : k = 0 := z; omega, fun z => q.2.1 z, n2⟩
theorem lc_begun {G : slG} (hG : slGood G) {N : Nat} {σ : slM} {x1 x2 : Int} (i1 : InR x1) (i2 : InR x2) (I : lwI N σ) : slCallH G mL_begun hL_begun 100 2 [sR 11 0, sI x1, sI x2, sR 14 0] σ (lwP G mX12_begun [sR 12 0, sI x1, sI x2] (N + 1)) := by
  obtain ⟨c, s, Z, hX, hY, hZ⟩ := I
  have Q := fun (τ : slM) (f : clF σ τ) (hX' : isX c s Z τ) => lwQ hG (Mm := mX12_begun) (am := [sR 12 0, sI x1, sI x2]) (a := (abOk ((0 ≤ x1 ∧ x1 < Z.1 1 3) ∧ 0 ≤ x2 ∧ x2 < 3) (abBgn Z x1 x2))) (Y0 := isY Z) (N := N + 1) (by decide) hZ.s (fun τ f => hY.fr f) (fun Φ σ' hY' k => sp_X12_begun hG (by omega) (by omega) hY' hZ i1 i2 (fun τ f hY'' e => k τ f hY'' e)) f hX'
  refine vw_begun hG (by decide) (by decide) (slCall.wr (by decide) (sp_X11_begun hG (by omega) (by omega) (Φ := fun r τ => r = (abOk ((0 ≤ x1 ∧ x1 < Z.1 1 3) ∧ 0 ≤ x2 ∧ x2 < 3) (abBgn Z x1 x2)) ∧ clF σ τ ∧ isX c s Z τ) hX hZ i1 i2 (fun τ f hX' => ⟨rfl, f.cl, hX'⟩)) (fun v τ h => ?_) (fun k τ hk h => ?_))
  · have q := Q τ h.2.1 h.2.2
    rw [← h.1] at q
    exact ⟨fun _ => ⟨w32_r, q.1 rfl⟩, fun z => absurd z (by show ¬ (0 : Nat) = 1; decide), by show (0 : Nat) ≠ 2; decide⟩
  · have q := Q τ h.2.1 h.2.2
    have n2 : k ≠ 2 := fun z => abOk_n2 (by rw [← h.1]; exact z)
    rw [← h.1] at q
    exact ⟨fun z => by have z : k = 0 := z; omega, fun z => q.2.1 z, n2⟩
theorem lc_sparing {G : slG} (hG : slGood G) {N : Nat} {σ : slM} {x1 : Int} (i1 : InR x1) (I : lwI N σ) : slCallH G mL_sparing hL_sparing 100 1 [sR 11 0, sI x1, sR 14 0] σ (lwP G mX12_sparing [sR 12 0, sI x1] (N + 1)) := by
  obtain ⟨c, s, Z, hX, hY, hZ⟩ := I
  have Q := fun (τ : slM) (f : clF σ τ) (hX' : isX c s Z τ) => lwQ hG (Mm := mX12_sparing) (am := [sR 12 0, sI x1]) (a := (abOk (0 ≤ x1 ∧ x1 < Z.1 1 3) (abSpr Z x1))) (Y0 := isY Z) (N := N + 1) (by decide) hZ.s (fun τ f => hY.fr f) (fun Φ σ' hY' k => sp_X12_sparing hG (by omega) (by omega) hY' hZ i1 (fun τ f hY'' e => k τ f hY'' e)) f hX'
  refine vw_sparing hG (by decide) (by decide) (slCall.wr (by decide) (sp_X11_sparing hG (by omega) (by omega) (Φ := fun r τ => r = (abOk (0 ≤ x1 ∧ x1 < Z.1 1 3) (abSpr Z x1)) ∧ clF σ τ ∧ isX c s Z τ) hX hZ i1 (fun τ f hX' => ⟨rfl, f.cl, hX'⟩)) (fun v τ h => ?_) (fun k τ hk h => ?_))
  · have q := Q τ h.2.1 h.2.2
    rw [← h.1] at q
    exact ⟨fun _ => ⟨w32_r, q.1 rfl⟩, fun z => absurd z (by show ¬ (0 : Nat) = 1; decide), by show (0 : Nat) ≠ 2; decide⟩
  · have q := Q τ h.2.1 h.2.2
    have n2 : k ≠ 2 := fun z => abOk_n2 (by rw [← h.1]; exact z)
    rw [← h.1] at q
    exact ⟨fun z => by have z : k = 0 := z; omega, fun z => q.2.1 z, n2⟩
theorem lc_start {G : slG} (hG : slGood G) {N : Nat} {σ : slM} {x1 x2 : Int} (i1 : InR x1) (i2 : InR x2) (I : lwI N σ) : slCallH G mL_start hL_start 100 2 [sR 11 0, sI x1, sI x2, sR 14 0] σ (lwP G mX12_start [sR 12 0, sI x1, sI x2] (N + 1)) := by
  obtain ⟨c, s, Z, hX, hY, hZ⟩ := I
  have Q := fun (τ : slM) (f : clF σ τ) (hX' : isX c s Z τ) => lwQ hG (Mm := mX12_start) (am := [sR 12 0, sI x1, sI x2]) (a := (abOk ((0 ≤ x1 ∧ x1 < Z.1 1 3) ∧ 0 ≤ x2 ∧ x2 < 2) (abSt Z x1 x2))) (Y0 := isY Z) (N := N + 1) (by decide) hZ.s (fun τ f => hY.fr f) (fun Φ σ' hY' k => sp_X12_start hG (by omega) (by omega) hY' hZ i1 i2 (fun τ f hY'' e => k τ f hY'' e)) f hX'
  refine vw_start hG (by decide) (by decide) (slCall.wr (by decide) (sp_X11_start hG (by omega) (by omega) (Φ := fun r τ => r = (abOk ((0 ≤ x1 ∧ x1 < Z.1 1 3) ∧ 0 ≤ x2 ∧ x2 < 2) (abSt Z x1 x2)) ∧ clF σ τ ∧ isX c s Z τ) hX hZ i1 i2 (fun τ f hX' => ⟨rfl, f.cl, hX'⟩)) (fun v τ h => ?_) (fun k τ hk h => ?_))
  · have q := Q τ h.2.1 h.2.2
    rw [← h.1] at q
    exact ⟨fun _ => ⟨w32_r, q.1 rfl⟩, fun z => absurd z (by show ¬ (0 : Nat) = 1; decide), by show (0 : Nat) ≠ 2; decide⟩
  · have q := Q τ h.2.1 h.2.2
    have n2 : k ≠ 2 := fun z => abOk_n2 (by rw [← h.1]; exact z)
    rw [← h.1] at q
    exact ⟨fun z => by have z : k = 0 := z; omega, fun z => q.2.1 z, n2⟩
