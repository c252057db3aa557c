/-! ===== the law: questions with two exceptions, the log, calls that don't throw ===== -/
theorem lc_met {G : slG} (hG : slGood G) {N : Nat} {σ : slM} {x1 x2 : Int} (i1 : InR x1) (i2 : InR x2) (I : lwI N σ) : slCallH G mL_met hL_met 100 3 [sR 11 0, sI x1, sI x2, sR 14 0] σ (lwP G mX12_met [sR 12 0, sI x1, sI x2] (N + 1)) := by
  obtain ⟨c, s, Z, hX, hY, hZ⟩ := I
  have Q := fun (τ : slM) (f : clF σ τ) (hX' : isX c s Z τ) => lwQ hG (Mm := mX12_met) (am := [sR 12 0, sI x1, sI x2]) (a := (abOk2 ((0 ≤ x1 ∧ x1 < Z.1 1 3) ∧ 0 ≤ x2 ∧ x2 < Z.1 1 3) (¬ x1 = x2) (abMet Z.1 Z.2.1.1 x1 x2))) (Y0 := isY Z) (N := N + 1) (by decide) hZ.s (fun τ f => hY.fr f) (fun Φ σ' hY' k => sp_X12_met hG (by omega) (by omega) hY' hZ i1 i2 (fun τ f hY'' e => k τ (mFr.md f (by decide)) hY'' e)) f hX'
  refine vw_met hG (by decide) (by decide) (slCall.wr (by decide) (sp_X11_met hG (by omega) (by omega) (Φ := fun r τ => r = (abOk2 ((0 ≤ x1 ∧ x1 < Z.1 1 3) ∧ 0 ≤ x2 ∧ x2 < Z.1 1 3) (¬ x1 = x2) (abMet Z.1 Z.2.1.1 x1 x2)) ∧ clF σ τ ∧ isX c s Z τ) hX hZ i1 i2 (fun τ f hX' => ⟨rfl, f.cl, hX'⟩)) (fun v τ h => ?_) (fun k τ hk h => ?_))
  · have q := Q τ h.2.1 h.2.2
    rw [← h.1] at q
    exact ⟨fun _ => ⟨w32_r, q.1 rfl⟩, fun z => absurd z (by show ¬ (0 : Nat) = 1; decide), fun z => absurd z (by show ¬ (0 : Nat) = 2; decide), trivial⟩
  · have q := Q τ h.2.1 h.2.2
    rw [← h.1] at q
    exact ⟨fun z => by have z : k = 0 := z; omega, fun z => q.2.1 z, fun z => q.2.2 z, trivial⟩
theorem lc_game {G : slG} (hG : slGood G) {N : Nat} {σ : slM} {x1 x2 x3 x4 x5 : Int} (i1 : InR x1) (i2 : InR x2) (i3 : InR x3) (i4 : InR x4) (i5 : InR x5) (I : lwI N σ) : slCallH G mL_game hL_game 100 6 [sR 11 0, sI x1, sI x2, sI x3, sI x4, sI x5, sR 14 0] σ (lwP G mX12_game [sR 12 0, sI x1, sI x2, sI x3, sI x4, sI x5] (N + 1)) := by
  obtain ⟨c, s, Z, hX, hY, hZ⟩ := I
  have Q := fun (τ : slM) (f : clF σ τ) (hX' : isX c s Z τ) => lwQ hG (Mm := mX12_game) (am := [sR 12 0, sI x1, sI x2, sI x3, sI x4, sI x5]) (a := (abOk2 (gmP Z x1 x2 x3 x5) (gmQ x1 x2 x4) (abGame Z x1 x2 x3 x4 x5))) (Y0 := isY Z) (N := N + 1) (by decide) hZ.s (fun τ f => hY.fr f) (fun Φ σ' hY' k => sp_X12_game hG (by omega) (by omega) hY' hZ i1 i2 i3 i4 i5 (fun τ f hY'' e => k τ (mFr.md f (by decide)) hY'' e)) f hX'
  refine vw_game hG (by decide) (by decide) (slCall.wr (by decide) (sp_X11_game hG (by omega) (by omega) (Φ := fun r τ => r = (abOk2 (gmP Z x1 x2 x3 x5) (gmQ x1 x2 x4) (abGame Z x1 x2 x3 x4 x5)) ∧ clF σ τ ∧ isX c s Z τ) hX hZ i1 i2 i3 i4 i5 (fun τ f hX' => ⟨rfl, f.cl, hX'⟩)) (fun v τ h => ?_) (fun k τ hk h => ?_))
  · have q := Q τ h.2.1 h.2.2
    rw [← h.1] at q
    exact ⟨fun _ => ⟨w32_r, q.1 rfl⟩, fun z => absurd z (by show ¬ (0 : Nat) = 1; decide), fun z => absurd z (by show ¬ (0 : Nat) = 2; decide), trivial⟩
  · have q := Q τ h.2.1 h.2.2
    rw [← h.1] at q
    exact ⟨fun z => by have z : k = 0 := z; omega, fun z => q.2.1 z, fun z => q.2.2 z, trivial⟩
theorem lc_years {G : slG} (hG : slGood G) {N : Nat} {σ : slM} {x1 x2 x3 : Int} (i1 : InR x1) (i2 : InR x2) (i3 : InR x3) (I : lwI N σ) : slCallH G mL_years hL_years 100 2 [sR 11 0, sI x1, sI x2, sI x3, sR 14 0] σ (lwP G mX12_years [sR 12 0, sI x1, sI x2, sI x3] (N + 1)) := by
  obtain ⟨c, s, Z, hX, hY, hZ⟩ := I
  have Q := fun (τ : slM) (f : clF σ τ) (hX' : isX c s Z τ) => lwQ hG (Mm := mX12_years) (am := [sR 12 0, sI x1, sI x2, sI x3]) (a := (abOk2 (0 ≤ x3 ∧ x3 < 3) (0 ≤ x2 ∧ x2 ≤ 40) (abYears Z x1 x2 x3))) (Y0 := isY Z) (N := N + 1) (by decide) hZ.s (fun τ f => hY.fr f) (fun Φ σ' hY' k => sp_X12_years hG (by omega) (by omega) hY' hZ i2 i3 (fun τ f hY'' e => k τ f hY'' e)) f hX'
  refine vw_years hG (by decide) (by decide) (slCall.wr (by decide) (sp_X11_years hG (by omega) (by omega) (Φ := fun r τ => r = (abOk2 (0 ≤ x3 ∧ x3 < 3) (0 ≤ x2 ∧ x2 ≤ 40) (abYears Z x1 x2 x3)) ∧ clF σ τ ∧ isX c s Z τ) hX hZ i2 i3 (fun τ f hX' => ⟨rfl, f.cl, hX'⟩)) (fun v τ h => ?_) (fun k τ hk h => ?_))
  · have q := Q τ h.2.1 h.2.2
    rw [← h.1] at q
    exact ⟨fun _ => ⟨w32_r, q.1 rfl⟩, fun z => absurd z (by show ¬ (0 : Nat) = 1; decide), fun z => absurd z (by show ¬ (0 : Nat) = 2; decide), trivial⟩
  · have q := Q τ h.2.1 h.2.2
    rw [← h.1] at q
    exact ⟨fun z => by have z : k = 0 := z; omega, fun z => q.2.1 z, fun z => q.2.2 z, trivial⟩
theorem lc_count {G : slG} (hG : slGood G) {N : Nat} {σ : slM} {x1 : Int} (i1 : InR x1) (I : lwI N σ) : slCallH G mL_count hL_count 100 1 [sR 11 0, sI x1, sR 14 0] σ (lwP G mX12_count [sR 12 0, sI x1] (N + 1)) := by
  obtain ⟨c, s, Z, hX, hY, hZ⟩ := I
  have Q := fun (τ : slM) (f : clF σ τ) (hX' : isX c s Z τ) => lwQ hG (Mm := mX12_count) (am := [sR 12 0, sI x1]) (a := (abOk (0 ≤ x1 ∧ x1 ≤ 12) (abCnt Z x1))) (Y0 := isY Z) (N := N + 1) (by decide) hZ.s (fun τ f => hY.fr f) (fun Φ σ' hY' k => sp_X12_count hG (by omega) (by omega) hY' hZ i1 (fun τ f hY'' e => k τ f hY'' e)) f hX'
  refine vw_count hG (by decide) (by decide) (slCall.wr (by decide) (sp_X11_count hG (by omega) (by omega) (Φ := fun r τ => r = (abOk (0 ≤ x1 ∧ x1 ≤ 12) (abCnt Z x1)) ∧ clF σ τ ∧ isX c s Z τ) hX hZ i1 ⟨rfl, clF.id, hX⟩) (fun v τ h => ?_) (fun k τ hk h => ?_))
  · have q := Q τ h.2.1 h.2.2
    rw [← h.1] at q
    exact ⟨fun _ => ⟨w32_r, q.1 rfl⟩, fun z => absurd z (by show ¬ (0 : Nat) = 1; decide), by show (0 : Nat) ≠ 2; decide⟩
  · have q := Q τ h.2.1 h.2.2
    have n2 : k ≠ 2 := fun z => abOk_n2 (by rw [← h.1]; exact z)
    rw [← h.1] at q
    exact ⟨fun z => by have z : k = 0 := z; omega, fun z => q.2.1 z, n2⟩
theorem lc_who {G : slG} (hG : slGood G) {N : Nat} {σ : slM} {x1 x2 : Int} (i1 : InR x1) (i2 : InR x2) (I : lwI N σ) : slCallH G mL_who hL_who 100 1 [sR 11 0, sI x1, sI x2, sR 14 0] σ (lwP G mX12_who [sR 12 0, sI x1, sI x2] (N + 1)) := by
  obtain ⟨c, s, Z, hX, hY, hZ⟩ := I
  have Q := fun (τ : slM) (f : clF σ τ) (hX' : isX c s Z τ) => lwQ hG (Mm := mX12_who) (am := [sR 12 0, sI x1, sI x2]) (a := abOk (whoP x1 x2) (abWho Z.1 x1 x2)) (Y0 := isY Z) (N := N + 1) (by decide) hZ.s (fun τ f => hY.fr f) (fun Φ σ' hY' k => sp_X12_who hG (by omega) (by omega) hY' hZ i1 i2 (fun τ f hY'' e => k τ (mFr.md f (by decide)) hY'' e)) f hX'
  refine vw_who hG (by decide) (by decide) (slCall.wr (by decide) (sp_X11_who hG (by omega) (by omega) (Φ := fun r τ => (r = (0, abWho Z.1 x1 x2) ∧ whoP x1 x2 ∨ r = (2, 0) ∧ ¬ whoP x1 x2) ∧ clF σ τ ∧ isX c s Z τ) hX hZ i1 i2 (fun h => ⟨Or.inr ⟨rfl, h⟩, clF.id, hX⟩) (fun h => ⟨Or.inl ⟨rfl, h⟩, clF.id, hX⟩)) (fun v τ h => ?_) (fun k τ hk h => ?_))
  · have q := Q τ h.2.1 h.2.2
    rcases h.1 with ⟨e, w⟩ | ⟨e, w⟩
    · rw [abOk_t w, ← e] at q
      exact ⟨fun _ => ⟨w32_r, q.1 rfl⟩, fun z => absurd z (by show ¬ (0 : Nat) = 2; decide), by show (0 : Nat) ≠ 1; decide⟩
    · exact absurd (congrArg Prod.fst e) (by show ¬ (0 : Nat) = 2; decide)
  · have q := Q τ h.2.1 h.2.2
    rcases h.1 with ⟨e, w⟩ | ⟨e, w⟩
    · have e : k = 0 := congrArg Prod.fst e
      omega
    · have e : k = 2 := congrArg Prod.fst e
      rw [abOk_f w] at q
      exact ⟨fun z => by have z : k = 0 := z; omega, fun _ => q.2.1 rfl, fun z => by have z : k = 1 := z; omega⟩
theorem anLog_n2 {Z : abZ} {a b c : Int} : (anLog Z a b c).1 ≠ 2 := by
  unfold anLog
  exact abOk_n2
theorem lc_log {G : slG} (hG : slGood G) {N : Nat} {σ : slM} {x1 x2 x3 x4 : Int} (i1 : InR x1) (i2 : InR x2) (i3 : InR x3) (i4 : InR x4) (I : lwI N σ) : slCallH G mL_log hL_log 100 3 [sR 11 0, sI x1, sI x2, sI x3, sI x4, sR 14 0] σ (lwP G mX12_log [sR 12 0, sI x1, sI x2, sI x3, sI x4] (N + 1)) := by
  obtain ⟨c, s, Z, hX, hY, hZ⟩ := I
  have Q := fun (τ : slM) (f : clF σ τ) (hX' : isX c s (nxLog Z x1 x2 x3 x4) τ) => lwQ hG (Mm := mX12_log) (am := [sR 12 0, sI x1, sI x2, sI x3, sI x4]) (a := anLog Z x1 x2 x3) (Y0 := isY Z) (N := N + 1) (by decide) hZ.log (fun τ f => hY.fr f) (fun Φ σ' hY' k => sp_X12_log hG (by omega) (by omega) hY' hZ i1 i2 i3 i4 (fun τ f hY'' e => k τ f hY'' e)) f hX'
  refine vw_log hG (by decide) (by decide) (slCall.wr (by decide) (sp_X11_log hG (by omega) (by omega) (Φ := fun r τ => r = anLog Z x1 x2 x3 ∧ clF σ τ ∧ isX c s (nxLog Z x1 x2 x3 x4) τ) hX hZ i1 i2 i3 i4 (fun τ f hX' => ⟨rfl, f, hX'⟩)) (fun v τ h => ?_) (fun k τ hk h => ?_))
  · have q := Q τ h.2.1 h.2.2
    rw [← h.1] at q
    exact ⟨fun _ => ⟨w32_r, q.1 rfl⟩, fun z => absurd z (by show ¬ (0 : Nat) = 1; decide), by show (0 : Nat) ≠ 2; decide⟩
  · have q := Q τ h.2.1 h.2.2
    have n2 : k ≠ 2 := fun z => anLog_n2 (by rw [← h.1]; exact z)
    rw [← h.1] at q
    exact ⟨fun z => by have z : k = 0 := z; omega, fun z => q.2.1 z, n2⟩
