/-! rows for what makes arrays -/
section R24
variable {p : Program} {l : Launch} {e : Env} {R : Room} {s : State} {m : MethodId} {args : Array Value} {below : List Frame} {meth : Method} {c : Code} {H : Heap} {locs : List Loc} {cells slots : Nat} {Q : State → Prop}
variable {cc : ByteArray} {nL pc idx a : Nat} {ls : Array Slot} {own0 : String} {rest st0 : List Value} {D : va_G} {tys : List (ClassId × FieldType)} {ws : va_W} {A : Nat → Prop} {H0 : Heap} {cyI cyZ : ClassId}
theorem lpC {σ τ : Type} {head : Nat} (I : σ → τ → Array Slot → Heap → List Loc → Prop) (μ : σ → τ → Nat) (cf sf : σ → Nat)
    (step : ∀ (x : σ) (y : τ) (ls : Array Slot) (H : Heap) (locs : List Loc), I x y ls H locs → (∀ (x' : σ) (y' : τ) (ls' : Array Slot) (H' : Heap) (locs' : List Loc), μ x' y' < μ x y → I x' y' ls' H' locs' → W p l e R s m args below meth c H' locs' (cf x') (sf x') Q (F0 m head ls' st0)) → W p l e R s m args below meth c H locs (cf x) (sf x) Q (F0 m head ls st0))
    (x : σ) (y : τ) (h : I x y ls H locs) : W p l e R s m args below meth c H locs (cf x) (sf x) Q (F0 m head ls st0) := by
  have K : ∀ (n : Nat) (x : σ) (y : τ) (ls : Array Slot) (H : Heap) (locs : List Loc), μ x y < n → I x y ls H locs → W p l e R s m args below meth c H locs (cf x) (sf x) Q (F0 m head ls st0) := by
    intro n
    induction n with
    | zero => intro x y ls H locs h; exact absurd h (Nat.not_lt_zero _)
    | succ n ih => intro x y ls H locs hn hI; exact step x y ls H locs hI (fun x' y' ls' H' locs' h1 h2 => ih x' y' ls' H' locs' (by omega) h2)
  exact K (μ x y + 1) x y ls H locs (Nat.lt_succ_self _) h
/-- a walk in two pieces -/
theorem cutW {σ : Type} {pc pc2 cells2 slots2 : Nat} {st2 : List Value} {ls : Array Slot} (I : σ → Array Slot → Heap → List Loc → Prop)
    (J : ∀ (x : σ) (ls : Array Slot) (H : Heap) (locs : List Loc), I x ls H locs → W p l e R s m args below meth c H locs cells2 slots2 Q (F0 m pc2 ls st2))
    (K : (∀ (x : σ) (ls : Array Slot) (H : Heap) (locs : List Loc), I x ls H locs → W p l e R s m args below meth c H locs cells2 slots2 Q (F0 m pc2 ls st2)) → W p l e R s m args below meth c H locs cells slots Q (F0 m pc ls st0)) : W p l e R s m args below meth c H locs cells slots Q (F0 m pc ls st0) := K J
theorem clsI {s : State} {c1 c2 : ClassId} (h1 : va_RA s c1 .int) (h2 : va_RA s c2 .int) : c1 = c2 := by
  have e1 : s.vm.findClass ("[" ++ FieldType.int.toString) = some c1 := h1
  have e2 : s.vm.findClass ("[" ++ FieldType.int.toString) = some c2 := h2
  exact Option.some.inj (e1.symm.trans e2)
theorem clsZ {s : State} {c1 c2 : ClassId} (h1 : va_RA s c1 .boolean) (h2 : va_RA s c2 .boolean) : c1 = c2 := by
  have e1 : s.vm.findClass ("[" ++ FieldType.boolean.toString) = some c1 := h1
  have e2 : s.vm.findClass ("[" ++ FieldType.boolean.toString) = some c2 := h2
  exact Option.some.inj (e1.symm.trans e2)
theorem newI (hF : CallFix p m c cc nL s args wA own0) (hK : va_K D vwCl tys s) (t0 : Nat) (ht : tys[t0]? = some (cyI, .int)) (hP : va_P D vwCl ws H) (hD : va_D A ws) (hS : va_S A H0 H locs) (hA : ∀ q, H0.size ≤ q → A q) (n : Nat) (hn : n ≤ 100) {i : Int32} (hi : i = nI n) (hc : cells + 1 ≤ R.cells) (hs : slots + n ≤ R.slots) (hdg : decode cc pc = .ok (.newarray .int, 2))
    (kk : ∀ (q : Nat) (H1 : Heap), va_P D vwCl (ws ++ [(q, .inl (cyI, n, .inl (fun _ => 0)))]) H1 → va_D A (ws ++ [(q, .inl (cyI, n, .inl (fun _ => 0)))]) → va_S A H0 H1 locs → W p l e R s m args below meth c H1 locs (cells + 1) (slots + n) Q (F0 m (pc + 2) ls (.ref q :: rest))) : W p l e R s m args below meth c H locs cells slots Q (F0 m pc ls (.int i :: rest)) := by
  subst hi
  refine va_newa (atype := .int) (ty := .int) (N' := n) (a0 := (n, .inl (fun _ => 0))) hF.1 hF.2.1 (hF.2.2.2.2 _ ka_int) rfl hK hP hD hS hA (fun cA => rfl) (nI_pos (by omega)) (nI_clamp (by omega)) ?_ hc hs hdg (fun q cA H1 hK1 hP1 hD1 hS1 => ?_)
  · show n * 4 ≤ 536870912
    omega
  · have e1 := (hK1.2 tys.length (cA, .int) (by simp)).2
    have e2 := (hK.2 t0 _ ht).2
    have e3 := clsI e1 e2
    subst e3
    exact kk q H1 hP1 hD1 hS1
theorem newZ (hF : CallFix p m c cc nL s args wA own0) (hK : va_K D vwCl tys s) (t0 : Nat) (ht : tys[t0]? = some (cyZ, .boolean)) (hP : va_P D vwCl ws H) (hD : va_D A ws) (hS : va_S A H0 H locs) (hA : ∀ q, H0.size ≤ q → A q) (n : Nat) (hn : n ≤ 100) {i : Int32} (hi : i = nI n) (hc : cells + 1 ≤ R.cells) (hs : slots + n ≤ R.slots) (hdg : decode cc pc = .ok (.newarray .boolean, 2))
    (kk : ∀ (q : Nat) (H1 : Heap), va_P D vwCl (ws ++ [(q, .inl (cyZ, n, .inl (fun _ => 0)))]) H1 → va_D A (ws ++ [(q, .inl (cyZ, n, .inl (fun _ => 0)))]) → va_S A H0 H1 locs → W p l e R s m args below meth c H1 locs (cells + 1) (slots + n) Q (F0 m (pc + 2) ls (.ref q :: rest))) : W p l e R s m args below meth c H locs cells slots Q (F0 m pc ls (.int i :: rest)) := by
  subst hi
  refine va_newa (atype := .boolean) (ty := .boolean) (N' := n) (a0 := (n, .inl (fun _ => 0))) hF.1 hF.2.1 (hF.2.2.2.2 _ ka_boolean) rfl hK hP hD hS hA (fun cA => rfl) (nI_pos (by omega)) (nI_clamp (by omega)) ?_ hc hs hdg (fun q cA H1 hK1 hP1 hD1 hS1 => ?_)
  · show n * 1 ≤ 536870912
    omega
  · have e1 := (hK1.2 tys.length (cA, .boolean) (by simp)).2
    have e2 := (hK.2 t0 _ ht).2
    have e3 := clsZ e1 e2
    subst e3
    exact kk q H1 hP1 hD1 hS1
variable {q : Nat → Nat} {th n st md : Int32} {v w : Nat → Nat → Int32}
theorem bKept {x : va_E} {q0 : Nat → Nat} {H1 : Heap} (hB : va_P D vwCl [(a, x)] H) (hna : ¬ own 8 q0 a) (hk : ∀ b : Nat, b < H.size → ¬ own 8 q0 b → H1[b]? = H[b]?) : va_P D vwCl [(a, x)] H1 := by
  intro k r hr
  have h0 := hB k r hr
  refine h0.kept (hk r.1 h0.lt ?_)
  cases k with
  | zero => cases hr; exact hna
  | succ k => simp at hr
/-- a new array beside the model's cells -/
theorem M0.newT (hF : CallFix p m c cc nL s args wA own0) (hX : M0 D cyI cyZ q th n st md v w s H) (hS : va_S A H0 H locs) (hA : ∀ q, H0.size ≤ q → A q) (hAq : ∀ b, own 8 q b → A b) (k : Nat) (hk : k ≤ 100) {i : Int32} (hi : i = nI k) (hc : cells + 1 ≤ R.cells) (hs : slots + k ≤ R.slots) (hdg : decode cc pc = .ok (.newarray .int, 2))
    (kk : ∀ (a : Nat) (H1 : Heap), M0 D cyI cyZ q th n st md v w s H1 → va_P D vwCl [(a, .inl (cyI, k, .inl (fun _ => 0)))] H1 → ¬ own 8 q a → A a → va_S A H0 H1 locs → W p l e R s m args below meth c H1 locs (cells + 1) (slots + k) Q (F0 m (pc + 2) ls (.ref a :: rest))) : W p l e R s m args below meth c H locs cells slots Q (F0 m pc ls (.int i :: rest)) := by
  refine newI hF hX.2.1 0 rfl hX.1 (apA hX.apart hAq) hS hA k hk hi hc hs hdg (fun a H1 hP hD hS1 => ?_)
  have h1 := hP.sub (ws' := cwM cyI cyZ q th n st md v w) [0, 1, 2, 3, 4, 5, 6, 7] rfl
  have h2 := hP.sub (ws' := [(a, .inl (cyI, k, .inl (fun _ => 0)))]) [8] rfl
  have h3 : A a := hD.2 8 (a, .inl (cyI, k, .inl (fun _ => 0))) rfl
  have h4 : ¬ own 8 q a := by
    intro ⟨i, hi, e⟩
    have h5 : ∃ x : va_E, (cwM cyI cyZ q th n st md v w)[i]? = some (q i, x) := by
      match i, hi with
      | 0, _ => exact ⟨_, rfl⟩
      | 1, _ => exact ⟨_, rfl⟩
      | 2, _ => exact ⟨_, rfl⟩
      | 3, _ => exact ⟨_, rfl⟩
      | 4, _ => exact ⟨_, rfl⟩
      | 5, _ => exact ⟨_, rfl⟩
      | 6, _ => exact ⟨_, rfl⟩
      | 7, _ => exact ⟨_, rfl⟩
    obtain ⟨x, hx⟩ := h5
    have h6 : (cwM cyI cyZ q th n st md v w ++ [(a, .inl (cyI, k, .inl (fun _ => 0)))])[i]? = some (q i, x) := by
      rw [List.getElem?_append_left (by exact hi)]
      exact hx
    have := hD.1 i 8 _ _ h6 rfl e.symm
    omega
  exact kk a H1 ⟨h1, hX.2.1, hX.2.2⟩ h2 h4 h3 hS1
theorem M0.stT {k : Nat} {f : Nat → Int32} (hF : CallFix p m c cc nL s args wA own0) (hX : M0 D cyI cyZ q th n st md v w s H) (hB : va_P D vwCl [(a, .inl (cyI, k, .inl f))] H) (hna : ¬ own 8 q a) (hAa : A a) (hAq : ∀ b, own 8 q b → A b) (hS : va_S A H0 H locs) (j : Nat) (hj : j < k) (hk : k ≤ 100) {i x : Int32} (hi : i = nI j) (hdg : decode cc pc = .ok (.iastore, 1))
    (kk : ∀ (H1 : Heap) (locs1 : List Loc), M0 D cyI cyZ q th n st md v w s H1 → va_P D vwCl [(a, .inl (cyI, k, .inl (upd f j x)))] H1 → va_S A H0 H1 locs1 → W p l e R s m args below meth c H1 locs1 cells slots Q (F0 m (pc + 1) ls rest)) : W p l e R s m args below meth c H locs cells slots Q (F0 m pc ls (.int x :: .int i :: .ref a :: rest)) := by
  subst hi
  have hP := va_P.app hX.1 hB
  have hD2 : va_D A [(a, (.inl (cyI, k, .inl f) : va_E))] := by
    refine ⟨fun i j x y hx hy _ => ?_, fun i x hx => ?_⟩
    · cases i with
      | succ i => simp at hx
      | zero =>
        cases j with
        | succ j => simp at hy
        | zero => rfl
    · cases i with
      | succ i => simp at hx
      | zero => cases hx; exact hAa
  have hD := va_D.app (apA hX.apart hAq) hD2 (fun i j x y hx hy e => by
    cases j with
    | succ j => simp at hy
    | zero =>
      cases hy
      have := hX.apart.2 i x hx
      rw [e] at this
      exact hna this)
  refine va_iast hF.1 hF.2.1 hX.2.1 hP hD hS 8 0 rfl rfl (vp_in_nI hj (by omega)) hdg (fun H1 locs1 hP1 _ hS1 => ?_)
  rw [nI_clamp (by omega)] at hP1
  have h1 := hP1.sub (ws' := cwM cyI cyZ q th n st md v w) [0, 1, 2, 3, 4, 5, 6, 7] rfl
  have h2 := hP1.sub (ws' := [(a, .inl (cyI, k, .inl (upd f j x)))]) [8] rfl
  exact kk H1 locs1 ⟨h1, hX.2.1, hX.2.2⟩ h2 hS1
end R24
/-- the digest over a row of numbers -/
def dgArr (f : Nat → Int32) (d : Int64) : Nat → Int64
  | 0 => d
  | k + 1 => dgI (dgArr f d k) (f k)
theorem dgArr10 {f : Nat → Int32} {d : Int64} : dgArr f d 10 = dgI (dgI (dgI (dgI (dgI (dgI (dgI (dgI (dgI (dgI d (f 0)) (f 1)) (f 2)) (f 3)) (f 4)) (f 5)) (f 6)) (f 7)) (f 8)) (f 9) := rfl
theorem dgArr8 {f : Nat → Int32} {d : Int64} : dgArr f d 8 = dgI (dgI (dgI (dgI (dgI (dgI (dgI (dgI d (f 0)) (f 1)) (f 2)) (f 3)) (f 4)) (f 5)) (f 6)) (f 7) := rfl
theorem dgArr0 {f : Nat → Int32} {d : Int64} : dgArr f d 0 = d := rfl
theorem dgArrS {f : Nat → Int32} {d : Int64} {k : Nat} : dgArr f d k * 31 + Int32.toInt64 (f k) = dgArr f d (k + 1) := rfl
theorem dgHd {X a : Int64} {b : Int32} : (X * 31 + a) * 31 + Int32.toInt64 b = dgI (dg X a) b := rfl

