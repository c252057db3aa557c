/-! ===== contracts, calls, ends ===== -/
def slRm (d K : Nat) : Room := { frames := d, cells := K, slots := 6 * K, locals := 60 * d }
def slIn (G : slG) (σ : slM) (U : State) : Prop := (slS0 G).WarmedH U.vm ∧ slBase G ≤ U.heap.size ∧ (∀ q, q < slBase G → U.heap[q]? = (slS0 G).heap[q]?) ∧ slRep G σ U.heap
def slPc (G : slG) (av : List slV) (σ : slM) : Array Value → State → Prop := fun a U => a = (av.map (slD G)).toArray ∧ slIn G σ U
def slRv (ret : Option FieldType) (v : Int) : Option Value := match ret with
  | none => none
  | some .long => some (.long (Int64.ofInt v))
  | some _ => some (.int (Int32.ofInt v))
/-- how a call ends: (0, v) it returned v; (1, _), (2, _) it threw -/
abbrev slPost : Type := Nat × Int → slM → Prop
def slQc (G : slG) (ret : Option FieldType) (Φ : slPost) : Array Value → State → Outcome → State → Prop := fun _ st o t => ∃ (v : Int) (σ : slM), Φ (0, v) σ ∧ o = .returned (slRv ret v) ∧ slRep G σ t.heap ∧ va_F (slA G) st t
def slXC (G : slG) (Φ : slPost) : String → State → State → Prop := fun E st t => ∃ (k : Nat) (σ : slM), (k = 1 ∨ k = 2) ∧ Φ (k, 0) σ ∧ E = slEx k ∧ slRep G σ t.heap ∧ va_F (slA G) st t
/-- THE CONTRACT: called with these arguments over this memory, with d frames and K units of room, M ends, and Φ holds of how -/
def slCall (G : slG) (M : slMt) (d K : Nat) (av : List slV) (σ : slM) (Φ : slPost) : Prop :=
  slAll av → vx_Met (slL G) M.1 [Cond.code M.1 M.2.1 M.2.2.1 M.2.2.2] (slRm d K) (slPc G av σ) (slQc G M.2.2.2 Φ) (slXC G Φ) K (6 * K) (slA G)
def slQ (X : slX) (ret : Option FieldType) (Φ : slPost) (K : Nat) : State → Prop := vx_MQ (xb X) (slQc (xG X) ret Φ) (slXC (xG X) Φ) (xa X) (xs X) K (6 * K) (slA (xG X))
/-- what a body knows of its method: it returns so, it isn't synchronized, no handlers, its locals, its room -/
def slBd (X : slX) (ret : Option FieldType) (nL d K : Nat) : Prop := (xh X).sig.returnType = ret ∧ (xh X).locks = false ∧ (∀ x ∈ (xc X).exceptionTable.toList, False) ∧ (xc X).maxLocals = nL ∧ xR X = slRm d K ∧ xn X = 0 ∧ xz X = 0
def slNoL : List slV → Bool
  | [] => true
  | .inr (.inl _) :: _ => false
  | _ :: t => slNoL t
def slEnt (av : List slV) (n : Nat) : List (Option slV) := av.map some ++ List.replicate (n - av.length) none
theorem slAtL_none : ∀ (n k : Nat) (v : slV), slAtL (List.replicate n none) k = some v → False
  | 0, k, v, h => by simp [slAtL] at h
  | n + 1, 0, v, h => by simp [List.replicate, slAtL] at h
  | n + 1, k + 1, v, h => slAtL_none n k v h
theorem slAtL_ent : ∀ (av : List slV) (n k : Nat) (v : slV), slAtL (av.map some ++ List.replicate n none) k = some v → av[k]? = some v
  | [], n, k, v, h => absurd h (fun q => slAtL_none n k v q)
  | a :: t, n, 0, v, h => by simp [slAtL] at h; simp [h]
  | a :: t, n, k + 1, v, h => by have := slAtL_ent t n k v h; simpa using this
theorem slArgs {G : slG} : ∀ (av : List slV) (n : Nat), slNoL av = true → ∀ k v, av[k]? = some v → (n + k, slD G v) ∈ lv_args n (av.map (slD G))
  | [], n, _, k, v, h => by simp at h
  | a :: t, n, hb, 0, v, h => by
    simp at h
    subst h
    simp [lv_args]
  | a :: t, n, hb, k + 1, v, h => by
    have hb2 : slNoL t = true ∧ (slD G a).category = 1 := by
      rcases a with x | x | x
      · exact ⟨hb, rfl⟩
      · simp [slNoL] at hb
      · exact ⟨hb, rfl⟩
    have h2 := slArgs (G := G) t (n + 1) hb2.1 k v (by simpa using h)
    rw [List.map_cons]
    unfold lv_args
    rw [hb2.2, show n + (k + 1) = n + 1 + k by omega]
    exact List.mem_cons_of_mem _ h2
theorem slAll_mem : ∀ {av : List slV} {k : Nat} {v : slV}, slAll av → av[k]? = some v → slVal v
  | [], k, v, _, h => by simp at h
  | a :: t, 0, v, ha, h => by simp at h; subst h; exact ha.1
  | a :: t, k + 1, v, ha, h => slAll_mem (av := t) (k := k) ha.2 (by simpa using h)
set_option maxHeartbeats 4000000 in
/-- a body's walk gives its contract -/
theorem slCall.of {G : slG} (hG : slGood G) {M : slMt} {own : String} {d K : Nat} {av : List slV} {σ : slM} {Φ : slPost} (hy : plainName M.1.cls = true) (hown : M.1.cls = own) (hnl : slNoL av = true) (hlen : av.length ≤ M.2.2.1)
    (body : ∀ X : slX, slCx X own M.2.1 → xG X = G → slBd X M.2.2.2 M.2.2.1 d K → slOK X (slQ X M.2.2.2 Φ K) 0 0 (slEnt av M.2.2.1) [] σ) : slCall G M d K av σ Φ := by
  intro hall
  obtain ⟨y, cc, maxL, ret⟩ := M
  refine vx_ofW (cc := cc) (maxL := maxL) (ret := ret) hy rfl ?_
  intro p e s m args below meth c s₁ B hml hex hv
  obtain ⟨rfl, hW, hz, hq, hR⟩ := hv
  have hown' : s.vm.findClass own = some m.cls := by rw [← hown]; exact findClass_of_methodNamed B.named
  have k := body (G, p, e, slRm d K, s, m, (av.map (slD G)).toArray, below, meth, c, (0, 0)) ⟨B.exec, B.bytes, hown', hG, hW, hz, hq⟩ rfl ⟨B.returns, B.notSynchronized, hex, hml, rfl, rfl, rfl⟩
  have hl := lv_entry (av.map (slD G)) (n := maxL) ?_
  · rw [lg_entry_eq]
    generalize (lg_sl (av.map (slD G)) ++ List.replicate (maxL - (lg_sl (av.map (slD G))).length) Slot.unset).toArray = lsA at hl ⊢
    refine k s.heap [] lsA hR va_S.rf ⟨by show lsA.size = c.maxLocals; rw [hml]; exact hl.1, hl.2.1, fun i v hi => ?_⟩ trivial
    have h2 := slAtL_ent av _ i v hi
    have h3 := hl.2.2 _ (slArgs (G := G) av 0 hnl i v h2)
    rw [Nat.zero_add] at h3
    exact ⟨slAll_mem hall h2, h3⟩
  · have : ∀ (l : List slV), slNoL l = true → (lg_sl (l.map (slD G))).length = l.length := by
      intro l
      induction l with
      | nil => intro _; rfl
      | cons a t ih =>
        intro h
        rcases a with x | x | x
        · simp only [List.map_cons, slD, lg_sl, List.length_cons]
          simpa [lg_sl, slotsOf, Value.category] using ih h
        · simp [slNoL] at h
        · simpa [lg_sl, slotsOf, Value.category, slD] using ih h
    rw [this av hnl]
    exact hlen
section Ends9
variable {X : slX} {u pc K d nL : Nat} {ls : List (Option slV)} {st : List slV} {σ : slM} {own : String} {cc : ByteArray} {Φ : slPost} {Q : State → Prop}
theorem slFin {G : slG} {s t : State} {H : Heap} {locs : List Loc} (h2 : va_S (slA G) s.heap H locs) (ht : t.heap = H) : va_F (slA G) s t := h2.F ht
theorem st_iret (hX : slCx X own cc) (hB : slBd X (some .int) nL d K) (hu : u ≤ K) {v : Int} (hd : decode cc pc = .ok (.ireturn, 1)) (h : Φ (0, v) σ) : slOK X (slQ X (some .int) Φ K) u pc ls [sI v] σ := by
  intro H locs lsA h1 h2 h3 h4
  obtain ⟨hr, hlk, -, -, -, hn, hz⟩ := hB
  refine W.widen (k := K) (n := 6 * K) (by omega) (by omega) (vx_ret ?_)
  exact W.iret (v := Int32.ofInt v) hX.1 hX.2.1 hr (fun t ht hW => ⟨v, σ, h, rfl, by rw [ht]; exact h1, slFin h2 ht⟩) h2.2.2 hd hlk
theorem st_zret (hX : slCx X own cc) (hB : slBd X (some .boolean) nL d K) (hu : u ≤ K) {v : Int} (hd : decode cc pc = .ok (.ireturn, 1)) (hv : v = 0 ∨ v = 1) (h : Φ (0, v) σ) : slOK X (slQ X (some .boolean) Φ K) u pc ls [sI v] σ := by
  intro H locs lsA h1 h2 h3 h4
  obtain ⟨hr, hlk, -, -, -, hn, hz⟩ := hB
  refine W.widen (k := K) (n := 6 * K) (by omega) (by omega) (vx_ret ?_)
  exact W.zret (v := Int32.ofInt v) hX.1 hX.2.1 hr (by rcases hv with rfl | rfl <;> rfl) (fun t ht hW => ⟨v, σ, h, rfl, by rw [ht]; exact h1, slFin h2 ht⟩) h2.2.2 hd hlk
theorem st_cret (hX : slCx X own cc) (hB : slBd X (some .char) nL d K) (hu : u ≤ K) {v : Int} (hd : decode cc pc = .ok (.ireturn, 1)) (hv : 0 ≤ v ∧ v < 65536) (h : Φ (0, v) σ) : slOK X (slQ X (some .char) Φ K) u pc ls [sI v] σ := by
  intro H locs lsA h1 h2 h3 h4
  obtain ⟨hr, hlk, -, -, -, hn, hz⟩ := hB
  refine W.widen (k := K) (n := 6 * K) (by omega) (by omega) (vx_ret ?_)
  refine W.zret (v := Int32.ofInt v) hX.1 hX.2.1 hr ?_ (fun t ht hW => ⟨v, σ, h, rfl, by rw [ht]; exact h1, slFin h2 ht⟩) h2.2.2 hd hlk
  have := (pk_charN (q := v.toNat) (by omega)).1
  rw [show nI v.toNat = Int32.ofInt v from by rw [nI, ← Int32.ofInt_eq_ofNat]; congr 1; omega] at this
  exact this
theorem st_lret (hX : slCx X own cc) (hB : slBd X (some .long) nL d K) (hu : u ≤ K) {v : Int} (hd : decode cc pc = .ok (.lreturn, 1)) (h : Φ (0, v) σ) : slOK X (slQ X (some .long) Φ K) u pc ls [sL v] σ := by
  intro H locs lsA h1 h2 h3 h4
  obtain ⟨hr, hlk, -, -, -, hn, hz⟩ := hB
  refine W.widen (k := K) (n := 6 * K) (by omega) (by omega) (vx_ret ?_)
  exact W.lret (v := Int64.ofInt v) hX.1 hX.2.1 hr (fun t ht hW => ⟨v, σ, h, rfl, by rw [ht]; exact h1, slFin h2 ht⟩) h2.2.2 hd hlk
theorem st_vret (hX : slCx X own cc) (hB : slBd X none nL d K) (hu : u ≤ K) (hd : decode cc pc = .ok (.return_, 1)) (h : Φ (0, 0) σ) : slOK X (slQ X none Φ K) u pc ls [] σ := by
  intro H locs lsA h1 h2 h3 h4
  obtain ⟨hr, hlk, -, -, -, hn, hz⟩ := hB
  refine W.widen (k := K) (n := 6 * K) (by omega) (by omega) (vx_ret ?_)
  exact W.vret hX.1 hX.2.1 hr (fun t ht hW => ⟨0, σ, h, rfl, by rw [ht]; exact h1, slFin h2 ht⟩) h2.2.2 hd hlk
end Ends9
/-- words on the stack -/
def slW : List slV → Nat
  | [] => 0
  | .inr (.inl _) :: t => 2 + slW t
  | _ :: t => 1 + slW t
theorem slW_eq (G : slG) : ∀ st : List slV, ((st.map (slD G)).map fun v => v.category).sum = slW st
  | [] => rfl
  | a :: t => by
    have := slW_eq G t
    rw [List.map_cons, List.map_cons, List.sum_cons, this]
    rcases a with x | x | x <;> rfl
/-- what is pushed behind a call -/
def slPush (ret : Option FieldType) (v : Int) (st : List slV) : List slV := match ret with
  | none => st
  | some .long => sL v :: st
  | some _ => sI v :: st
theorem slPc_blind {G : slG} {av : List slV} {σ : slM} : FrameBlind (slPc G av σ) := fun a U g mk h => h
theorem slPc_pre {X : slX} {own : String} {cc : ByteArray} (hX : slCx X own cc) {av : List slV} {σ : slM} {H : Heap} {locs : List Loc} (h1 : slRep (xG X) σ H) (h2 : va_S (slA (xG X)) (xs X).heap H locs) : ∀ U : State, U.heap = H → (xs X).WarmedH U.vm → slPc (xG X) av σ (av.map (slD (xG X))).toArray U := by
  intro U hU hW
  refine ⟨rfl, State.WarmedH.trans hX.2.2.2.2.1 hW, ?_, fun q hq => ?_, by rw [hU]; exact h1⟩
  · rw [hU]
    exact Nat.le_trans hX.2.2.2.2.2.1 h2.1
  · rw [hU, h2.2.1 q (Nat.lt_of_lt_of_le hq hX.2.2.2.2.2.1) (by intro h; exact absurd hq (Nat.not_lt.mpr h))]
    exact hX.2.2.2.2.2.2 q hq
/-- room for d frames and K units behind u -/
def slRoom (X : slX) (d K : Nat) : Prop := d ≤ (xR X).frames ∧ 60 * d ≤ (xR X).locals ∧ xn X + K ≤ (xR X).cells ∧ xz X + 6 * K ≤ (xR X).slots
theorem slBd.room {X : slX} {ret : Option FieldType} {nL d K : Nat} (h : slBd X ret nL d K) : slRoom X d K := by
  obtain ⟨-, -, -, -, h1, h2, h3⟩ := h
  rw [slRoom, h1, h2, h3]
  simp [slRm]
theorem slCallB {X : slX} {own : String} {cc : ByteArray} (hX : slCx X own cc) {idx n d' K' d K u : Nat} {M : slMt} (hS : slSite own idx M n) (hR : slRoom X d K) (hd : d' + 1 ≤ d) :
    CallB (xR X) (xs X) (xa X) own idx M.1 M.2.1 M.2.2.1 M.2.2.2 [Cond.code M.1 M.2.1 M.2.2.1 M.2.2.2] (slRm d' K') K' (6 * K') n := by
  obtain ⟨s1, s2, s3, ⟨s4, s5, s6⟩, s7⟩ := hS
  obtain ⟨r1, r2, -, -⟩ := hR
  refine ⟨rfl, rfl, by simp [slRm]; omega, by simp [slRm]; omega, fun w hw a' U hW => ?_, List.mem_cons_self, slWord hX s3 rfl, slWord hX s2 rfl, ⟨s4, s5⟩, fun sig h => ?_, slWord hX s1 rfl⟩
  · rw [List.mem_singleton.mp hw]
    exact word_at hW (good_of_word rfl) (slWord hX s3 rfl (a' := xa X))
  · rw [h] at s6
    exact (Option.some.inj s6).symm
section Calls9
variable {X : slX} {u pc K d d' K' n idx : Nat} {ls : List (Option slV)} {st : List slV} {σ : slM} {own : String} {cc : ByteArray} {Q : State → Prop} {M : slMt} {Ψ : slPost}
/-- an exception of kind k stands over the frame -/
def slOX (X : slX) (Q : State → Prop) (u pc : Nat) (ls : List (Option slV)) (st : List slV) (σ : slM) (k : Nat) : Prop :=
  ∀ (H : Heap) (locs : List Loc) (lsA : Array Slot) (q : Addr) (ce : Cell), slRep (xG X) σ H → va_S (slA (xG X)) (xs X).heap H locs → slLoc (xG X) (xc X).maxLocals ls lsA → slAll st → H[q]? = some ce → ce.vm = .none → (xs X).vm.findClass (slEx k) = some ce.cls →
    vx_W (xp X) (slL (xG X)) (xe X) (xR X) (xs X) (xm X) (xa X) (xb X) (xh X) (xc X) H locs (xn X + u) (xz X + 6 * u) Q (F0 (xm X) pc lsA (st.map (slD (xG X)))) q
theorem slBack {X : slX} {own : String} {cc : ByteArray} (hX : slCx X own cc) {H : Heap} {locs L : List Loc} {st₀ t T' : State} (h2 : va_S (slA (xG X)) (xs X).heap H locs) (h0 : st₀.heap = H) (e1 : T'.heap = t.heap) (hL : ∀ q ∈ L, slA (xG X) q.base) (hF : va_F (slA (xG X)) st₀ t) : va_S (slA (xG X)) (xs X).heap T'.heap (locs ++ L) :=
  (vx_keep h0 e1 h2 (fun _ _ h => h) (fun _ h => h) hL hF).2.2
theorem slAfter (hX : slCx X own cc) {H : Heap} {locs : List Loc} {lsA : Array Slot} {a : Array Value} (h2 : va_S (slA (xG X)) (xs X).heap H locs) (h3 : slLoc (xG X) (xc X).maxLocals ls lsA) (h4 : slAll st) {st0 : List Value}
    (hr : vx_Run (xp X) (slL (xG X)) (xe X) (xR X) (xs X) (xm X) (xa X) (xb X) (xh X) (xc X) H locs (xn X + u) (xz X + 6 * u) K' (6 * K') (F0 (xm X) pc lsA st0) (st.map (slD (xG X))) (slQc (xG X) M.2.2.2 Ψ a) (slXC (xG X) Ψ) (slA (xG X)))
    (kk : ∀ v τ, Ψ (0, v) τ → slOK X Q (u + K') (pc + 3) ls (slPush M.2.2.2 v st) τ) (kx : ∀ k τ, (k = 1 ∨ k = 2) → Ψ (k, 0) τ → slOX X Q (u + K') pc ls st τ k) :
    W (xp X) (slL (xG X)) (xe X) (xR X) (xs X) (xm X) (xa X) (xb X) (xh X) (xc X) H locs (xn X + u) (xz X + 6 * u) Q (F0 (xm X) pc lsA st0) := by
  intro T hT S
  rcases hr T hT S with ⟨v, st₀, t, T', L, h0, X', hL, e1, e2, ⟨v', τ, hp, hv, hRp, hF⟩, go⟩ | ⟨q, st₀, t, T', L, E, ce, h0, X', hL, e1, e2, ⟨k, τ, hk, hp, hE, hRp, hF⟩, hce, hcv, hcl, go⟩
  · cases hv
    have hS := slBack hX h2 h0 e1 hL hF
    have hall : slAll (slPush M.2.2.2 v' st) := by
      unfold slPush
      split
      · exact h4
      · exact ⟨trivial, h4⟩
      · exact ⟨trivial, h4⟩
    have w := kk v' τ hp T'.heap (locs ++ L) lsA (by rw [e1]; exact hRp) hS h3 hall
    rw [show xn X + (u + K') = xn X + u + K' by omega, show xz X + 6 * (u + K') = xz X + 6 * u + 6 * K' by omega] at w
    obtain ⟨t2, a1, b1⟩ := w T' rfl X'
    refine ⟨t2, go t2 ?_, b1⟩
    have hpush : (slRv M.2.2.2 v').toList ++ st.map (slD (xG X)) = (slPush M.2.2.2 v' st).map (slD (xG X)) := by
      unfold slRv slPush
      split <;> rfl
    show Steps _ _ _ (T'.setTop { method := xm X, pc := pc + 3, locals := lsA, stack := (slRv M.2.2.2 v').toList ++ st.map (slD (xG X)), locked := none }) t2
    rw [hpush]
    exact a1
  · have hS := slBack hX h2 h0 e1 hL hF
    have w := kx k τ hk hp T'.heap (locs ++ L) lsA q ce (by rw [e1]; exact hRp) hS h3 h4 (by rw [e1]; exact hce) hcv (by rw [← hE]; exact hcl)
    rw [show xn X + (u + K') = xn X + u + K' by omega, show xz X + 6 * (u + K') = xz X + 6 * u + 6 * K' by omega] at w
    obtain ⟨t2, a1, b1⟩ := w T' rfl X'
    exact ⟨t2, go.trans a1, b1⟩
theorem slAll_app : ∀ {a b : List slV}, slAll (a ++ b) ↔ slAll a ∧ slAll b
  | [], b => by simp [slAll]
  | x :: a, b => by simp [slAll, slAll_app (a := a), and_assoc]
theorem slAll_rev : ∀ {a : List slV}, slAll a.reverse ↔ slAll a
  | [] => by simp
  | x :: a => by simp [slAll, slAll_app, slAll_rev (a := a), and_comm]
theorem st_callV (hX : slCx X own cc) {r i : Nat} {As : List slV} (hS : slSiteV own idx r M n) (hR : slRoom X d K) (hd' : d' + 1 ≤ d) (hu : u + K' ≤ K) (hn : As.length = n) (hst : slW st ≤ 8) (hd : decode cc pc = .ok (.invokevirtual idx, 3))
    (hC : slCall (xG X) M d' K' (sR r i :: As) σ Ψ) (kk : ∀ v τ, Ψ (0, v) τ → slOK X Q (u + K') (pc + 3) ls (slPush M.2.2.2 v st) τ) (kx : ∀ k τ, (k = 1 ∨ k = 2) → Ψ (k, 0) τ → slOX X Q (u + K') pc ls st τ k) : slOK X Q u pc ls (As.reverse ++ sR r i :: st) σ := by
  intro H locs lsA h1 h2 h3 h4
  obtain ⟨a1, a2⟩ := slAll_app.mp h4
  have a1 := slAll_rev.mp a1
  obtain ⟨s1, s2, s3, s4, T, N, s5⟩ := hS
  have hri : i < (slR r).2.2 := a2.1
  obtain ⟨⟨cell, q1, q2, q3, q4⟩, -⟩ := (slAt_obj s4).mp (h1 r i hri)
  obtain ⟨-, hfc, -⟩ := (slK hX).1 r _ s5
  have cb := slCallB hX (d' := d') (K' := K') s1 hR hd' (u := u)
  have hr4 := hR.2.2
  refine slAfter hX h2 h3 a2.2 (a := ((sR r i :: As).map (slD (xG X))).toArray) (vx_runV (As := As.map (slD (xG X))) (b := slAd (xG X) r i) (Ts := []) ⟨hX.1, hX.2.1, rfl, hX.2.2.1, fun w h => nomatch h⟩ (hC ⟨a2.1, a1⟩) ⟨cb, slWord hX s2 rfl, slWord hX s3 rfl⟩ ⟨slPc_blind, ⟨cell, q1, by rw [q3]; rfl, by rw [q2]; exact hfc⟩, slPc_pre hX h1 h2⟩ rfl (by rw [List.length_map]; exact hn) h3.1 ?_ (lv_room (by rw [slW_eq]; exact hst)) hd ⟨by omega, by omega⟩) kk kx
  rw [List.map_append, List.map_reverse]
  rfl
theorem st_callS (hX : slCx X own cc) {As : List slV} (hS : slSiteS own idx M n) (hR : slRoom X d K) (hd' : d' + 1 ≤ d) (hu : u + K' ≤ K) (hn : As.length = n) (hst : slW st ≤ 8) (hd : decode cc pc = .ok (.invokestatic idx, 3))
    (hC : slCall (xG X) M d' K' As σ Ψ) (kk : ∀ v τ, Ψ (0, v) τ → slOK X Q (u + K') (pc + 3) ls (slPush M.2.2.2 v st) τ) (kx : ∀ k τ, (k = 1 ∨ k = 2) → Ψ (k, 0) τ → slOX X Q (u + K') pc ls st τ k) : slOK X Q u pc ls (As.reverse ++ st) σ := by
  intro H locs lsA h1 h2 h3 h4
  obtain ⟨a1, a2⟩ := slAll_app.mp h4
  have a1 := slAll_rev.mp a1
  obtain ⟨s1, s2⟩ := hS
  have cb := slCallB hX (d' := d') (K' := K') s1 hR hd' (u := u)
  have hr4 := hR.2.2
  refine slAfter hX h2 h3 a2 (a := (As.map (slD (xG X))).toArray) (vx_runS (As := As.map (slD (xG X))) (Ts := []) ⟨hX.1, hX.2.1, rfl, hX.2.2.1, fun w h => nomatch h⟩ (hC a1) ⟨cb, slWord hX s2 rfl⟩ ⟨slPc_blind, slPc_pre hX h1 h2⟩ rfl (by rw [List.length_map]; exact hn) h3.1 ?_ (lv_room (by rw [slW_eq]; exact hst)) hd ⟨by omega, by omega⟩) kk kx
  rw [List.map_append, List.map_reverse]
/-- without handlers it goes on to the caller -/
theorem slOX.out {ret : Option FieldType} {nL : Nat} {Φ : slPost} (hB : slBd X ret nL d K) (hu : u ≤ K) {k : Nat} (hk : k = 1 ∨ k = 2) (h : Φ (k, 0) σ) : slOX X (slQ X ret Φ K) u pc ls st σ k := by
  intro H locs lsA q ce h1 h2 h3 h4 hc hv hcl
  obtain ⟨hr, hlk, hex, -, -, hn, hz⟩ := hB
  exact vx_out (fun x hx => (hex x hx).elim) hlk hc hv hcl (fun t ht hW => ⟨k, σ, hk, h, rfl, by rw [ht]; exact h1, slFin h2 ht⟩) h2.2.2 (by omega) (by omega)
end Calls9
