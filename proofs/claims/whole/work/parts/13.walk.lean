/-! ===== the rows that the printed walks use ===== -/
/-- behind a call: A of its answer; an exception goes on -/
def slKt (A : Int → slM → Prop) (Φ : slPost) : slPost := fun r τ => (r.1 = 0 → A r.2 τ) ∧ (r.1 ≠ 0 → Φ (r.1, 0) τ)
theorem slKt.ok {A : Int → slM → Prop} {Φ : slPost} {v : Int} {τ : slM} (h : A v τ) : slKt A Φ (0, v) τ := ⟨fun _ => h, fun q => absurd rfl q⟩
theorem slKt.ex {A : Int → slM → Prop} {Φ : slPost} {k : Nat} {v : Int} {τ : slM} (hk : k = 1 ∨ k = 2) (h : Φ (k, 0) τ) : slKt A Φ (k, v) τ := ⟨fun q => by have : k = 0 := q; omega, fun _ => h⟩
/-- .. of a callee that doesn't throw -/
def slKn (A : Int → slM → Prop) : slPost := fun r τ => r.1 = 0 ∧ A r.2 τ
theorem slKn.ok {A : Int → slM → Prop} {v : Int} {τ : slM} (h : A v τ) : slKn A (0, v) τ := ⟨rfl, h⟩
/-- three numbers that fall, the first first -/
abbrev slMu : Type := Nat × Nat × Nat
def slLt (a b : slMu) : Prop := a.1 < b.1 ∨ (a.1 = b.1 ∧ (a.2.1 < b.2.1 ∨ (a.2.1 = b.2.1 ∧ a.2.2 < b.2.2)))
theorem slLt_ind {P : slMu → Prop} (h : ∀ b, (∀ a, slLt a b → P a) → P b) : ∀ b, P b := by
  have h3 : ∀ x y z : Nat, P (x, y, z) := by
    intro x
    induction x using Nat.strongRecOn with
    | _ x ihx =>
      intro y
      induction y using Nat.strongRecOn with
      | _ y ihy =>
        intro z
        induction z using Nat.strongRecOn with
        | _ z ihz =>
          refine h _ ?_
          rintro ⟨a, b, c⟩ (q | ⟨rfl, q | ⟨rfl, q⟩⟩)
          · exact ihx a q b c
          · exact ihy b q c
          · exact ihz c q
  rintro ⟨x, y, z⟩
  exact h3 x y z
/-- fewer locals are known -/
def slLess : List (Option slV) → List (Option slV) → Prop
  | [], _ => True
  | none :: t, [] => slLess t []
  | some _ :: _, [] => False
  | none :: t, _ :: t' => slLess t t'
  | some v :: t, o :: t' => o = some v ∧ slLess t t'
theorem slLess_at : ∀ {a b : List (Option slV)}, slLess a b → ∀ k v, slAtL a k = some v → slAtL b k = some v
  | [], b, _, k, v, h => by simp [slAtL] at h
  | none :: t, [], h, 0, v, h2 => by simp [slAtL] at h2
  | none :: t, [], h, k + 1, v, h2 => by
    have := slLess_at (a := t) (b := []) h k v h2
    simp [slAtL] at this
  | some _ :: _, [], h, _, _, _ => h.elim
  | none :: t, _ :: t', h, 0, v, h2 => by simp [slAtL] at h2
  | none :: t, _ :: t', h, k + 1, v, h2 => slLess_at (a := t) (b := t') h k v h2
  | some w :: t, o :: t', h, 0, v, h2 => by
    have h3 : some w = some v := h2
    show o = some v
    rw [h.1, h3]
  | some w :: t, o :: t', h, k + 1, v, h2 => slLess_at (a := t) (b := t') h.2 k v h2
section Walk9
variable {X : slX} {u pc K d nL d' K' n idx : Nat} {ls : List (Option slV)} {st stk : List slV} {σ : slM} {own : String} {cc : ByteArray} {M : slMt} {Φ : slPost} {ret : Option FieldType} {A : Int → slM → Prop}
theorem st_cV (hX : slCx X own cc) (hB : slBd X ret nL d K) {r i : Nat} (As : List slV) (hS : slSiteV own idx r M n) (hd' : d' + 1 ≤ d) (hu : u + K' ≤ K) (hn : As.length = n) (hst : slW st ≤ 8) (hstk : As.reverse ++ sR r i :: st = stk) (hd : decode cc pc = .ok (.invokevirtual idx, 3))
    (hC : slCall (xG X) M d' K' (sR r i :: As) σ (slKt A Φ)) (kk : ∀ v τ, A v τ → slOK X (slQ X ret Φ K) (u + K') (pc + 3) ls (slPush M.2.2.2 v st) τ) : slOK X (slQ X ret Φ K) u pc ls stk σ := by
  subst hstk
  exact st_callV hX hS hB.room hd' hu hn hst hd hC (fun v τ h => kk v τ (h.1 rfl)) (fun k τ hk h => slOX.out hB (by omega) hk (h.2 (by show k ≠ 0; omega)))
theorem st_cS (hX : slCx X own cc) (hB : slBd X ret nL d K) (As : List slV) (hS : slSiteS own idx M n) (hd' : d' + 1 ≤ d) (hu : u + K' ≤ K) (hn : As.length = n) (hst : slW st ≤ 8) (hstk : As.reverse ++ st = stk) (hd : decode cc pc = .ok (.invokestatic idx, 3))
    (hC : slCall (xG X) M d' K' As σ (slKt A Φ)) (kk : ∀ v τ, A v τ → slOK X (slQ X ret Φ K) (u + K') (pc + 3) ls (slPush M.2.2.2 v st) τ) : slOK X (slQ X ret Φ K) u pc ls stk σ := by
  subst hstk
  exact st_callS hX hS hB.room hd' hu hn hst hd hC (fun v τ h => kk v τ (h.1 rfl)) (fun k τ hk h => slOX.out hB (by omega) hk (h.2 (by show k ≠ 0; omega)))
theorem st_cN (hX : slCx X own cc) (hB : slBd X ret nL d K) (As : List slV) {host : String} (hS : slSiteN own idx M host n) (hd' : d' + 1 ≤ d) (hu : u + K' ≤ K) (hn : As.length = n) (hst : slW st ≤ 8) (hstk : As.reverse ++ st = stk) (hd : decode cc pc = .ok (.invokestatic idx, 3))
    (hC : slCall (xG X) M d' K' As σ (slKn A)) (kk : ∀ v τ, A v τ → slOK X (slQ X ret Φ K) (u + K') (pc + 3) ls (slPush M.2.2.2 v st) τ) : slOK X (slQ X ret Φ K) u pc ls stk σ := by
  subst hstk
  exact st_callSN hX hS hB.room hd' hu hn hst hd hC (fun k τ hk h => by have : k = 0 := h.1; omega) (fun v τ h => kk v τ h.2)
/-- the top of the stack by another name -/
theorem st_top {Q : State → Prop} {a b : Int} (e : a = b) (h : slOK X Q u pc ls (sI a :: st) σ) : slOK X Q u pc ls (sI b :: st) σ := e ▸ h
theorem st_drop {Q : State → Prop} {ls' : List (Option slV)} (hl : slLess ls' ls) (h : slOK X Q u pc ls' st σ) : slOK X Q u pc ls st σ := fun H locs lsA h1 h2 h3 h4 => h H locs lsA h1 h2 ⟨h3.1, h3.2.1, fun k v hk => h3.2.2 k v (slLess_at hl k v hk)⟩ h4
end Walk9
