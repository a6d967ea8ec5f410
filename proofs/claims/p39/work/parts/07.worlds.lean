/-! WORLDS: the class's cells and the model's -/
def b2i (b : Bool) : Int32 := if b = true then 1 else 0
def ap (n : Nat) (q : Nat → Nat) : Prop := ∀ i j : Nat, i < n → j < n → q i = q j → i = j
def own (n : Nat) (q : Nat → Nat) : Nat → Prop := fun a => ∃ i : Nat, i < n ∧ a = q i
theorem apD {n : Nat} {q : Nat → Nat} {ws : va_W} (h : ap n q) (hw : ws.map Prod.fst = (List.range n).map q) : va_D (own n q) ws := by
  have g : ∀ (i : Nat) (p : Nat × va_E), ws[i]? = some p → i < n ∧ p.1 = q i := by
    intro i p hi
    have h1 : (ws.map Prod.fst)[i]? = some p.1 := by rw [List.getElem?_map, hi]; rfl
    rw [hw, List.getElem?_map] at h1
    have hlt : i < n := by
      rcases Nat.lt_or_ge i n with hc | hc
      · exact hc
      · rw [List.getElem?_eq_none (by simpa using hc)] at h1
        cases h1
    rw [List.getElem?_range hlt] at h1
    exact ⟨hlt, (Option.some.inj h1).symm⟩
  refine ⟨fun i j p r hi hj e => ?_, fun i p hi => ⟨i, (g i p hi).1, (g i p hi).2⟩⟩
  obtain ⟨h1, h2⟩ := g i p hi
  obtain ⟨h3, h4⟩ := g j r hj
  exact h i j h1 h3 (by rw [← h2, ← h4]; exact e)
theorem apA {n : Nat} {q : Nat → Nat} {ws : va_W} {A : Nat → Prop} (h : va_D (own n q) ws) (hA : ∀ a, own n q a → A a) : va_D A ws := ⟨h.1, fun k p hp => hA _ (h.2 k p hp)⟩
theorem apOf {n : Nat} {q : Nat → Nat} {ws : va_W} {A : Nat → Prop} (h : va_D A ws) (hw : ws.map Prod.fst = (List.range n).map q) : ap n q ∧ ∀ a, own n q a → A a := by
  have g : ∀ i, i < n → ∃ x : va_E, ws[i]? = some (q i, x) := by
    intro i hi
    have h1 : (ws.map Prod.fst)[i]? = some (q i) := by
      rw [hw, List.getElem?_map, List.getElem?_range hi]
      rfl
    rw [List.getElem?_map] at h1
    cases h2 : ws[i]? with
    | none => rw [h2] at h1; cases h1
    | some p =>
      rw [h2] at h1
      exact ⟨p.2, by rw [← Option.some.inj h1]⟩
  refine ⟨fun i j hi hj e => ?_, fun a ha => ?_⟩
  · obtain ⟨x, hx⟩ := g i hi
    obtain ⟨y, hy⟩ := g j hj
    exact h.1 i j _ _ hx hy e
  · obtain ⟨i, hi, e⟩ := ha
    obtain ⟨x, hx⟩ := g i hi
    rw [e]
    exact h.2 i _ hx
theorem apP {n : Nat} {D : va_G} {q : Nat → Nat} {ws : va_W} {H : Heap} (hP : va_P D vwCl ws H) (hw : ws.map Prod.fst = (List.range n).map q) {a : Nat} (ha : own n q a) : a < H.size := by
  obtain ⟨i, hi, e⟩ := ha
  have h1 : (ws.map Prod.fst)[i]? = some a := by
    rw [hw, List.getElem?_map, List.getElem?_range hi, e]
    rfl
  rw [List.getElem?_map] at h1
  cases h2 : ws[i]? with
  | none => rw [h2] at h1; cases h1
  | some p =>
    rw [h2] at h1
    rw [← (Option.some.inj h1)]
    exact (hP i p h2).lt
theorem apK {n : Nat} {D : va_G} {q : Nat → Nat} {ws : va_W} {H H1 : Heap} (hP : va_P D vwCl ws H) (hw : ws.map Prod.fst = (List.range n).map q) (hk : ∀ a : Nat, own n q a → H1[a]? = H[a]?) : va_P D vwCl ws H1 := by
  intro k p hp
  refine (hP k p hp).kept (hk p.1 ?_)
  have h1 : (ws.map Prod.fst)[k]? = some p.1 := by rw [List.getElem?_map, hp]; rfl
  rw [hw, List.getElem?_map] at h1
  rcases Nat.lt_or_ge k n with hc | hc
  · rw [List.getElem?_range hc] at h1
    exact ⟨k, hc, (Option.some.inj h1).symm⟩
  · rw [List.getElem?_eq_none (by simpa using hc)] at h1
    cases h1
section ROWS
variable {p : Program} {l : Launch} {e : Env} {R : Room} {s : State} {m : MethodId} {args : Array Value} {below : List Frame} {meth : Method} {c : Code} {H : Heap} {locs : List Loc} {cells slots : Nat} {Q : State → Prop}
variable {cc : ByteArray} {nL pc idx a : Nat} {ls : Array Slot} {own0 : String} {rest : List Value} {D : va_G} {tys : List (ClassId × FieldType)} {ws : va_W}
/-- a number of an int array, its place a number -/
theorem aldI (hF : CallFix p m c cc nL s args wA own0) (hK : va_K D vwCl tys s) (hP : va_P D vwCl ws H) (q0 t0 : Nat) {cA : ClassId} {n : Nat} {f : Nat → Int32} (ha : ws[q0]? = some (a, .inl (cA, n, .inl f))) (ht : tys[t0]? = some (cA, .int)) (j : Nat) (hj : j < n) (hn : n < 2 ^ 31) {x : Int32} (hx : x = nI j) (hdg : decode cc pc = .ok (.iaload, 1))
    (kk : W p l e R s m args below meth c H locs cells slots Q (F0 m (pc + 1) ls (.int (f j) :: rest))) : W p l e R s m args below meth c H locs cells slots Q (F0 m pc ls (.int x :: .ref a :: rest)) := by
  subst hx
  refine va_iald hF.1 hF.2.1 hK hP q0 t0 ha ht (vp_in_nI hj hn) hdg ?_
  rw [nI_clamp (Nat.lt_trans hj hn)]
  exact kk
theorem aldZ (hF : CallFix p m c cc nL s args wA own0) (hK : va_K D vwCl tys s) (hP : va_P D vwCl ws H) (q0 t0 : Nat) {cA : ClassId} {n : Nat} {f : Nat → Int32} (ha : ws[q0]? = some (a, .inl (cA, n, .inl f))) (ht : tys[t0]? = some (cA, .boolean)) (j : Nat) (hj : j < n) (hn : n < 2 ^ 31) {x : Int32} (hx : x = nI j) (hdg : decode cc pc = .ok (.baload, 1))
    (kk : W p l e R s m args below meth c H locs cells slots Q (F0 m (pc + 1) ls (.int (f j) :: rest))) : W p l e R s m args below meth c H locs cells slots Q (F0 m pc ls (.int x :: .ref a :: rest)) := by
  subst hx
  refine va_zald hF.1 hF.2.1 hK hP q0 t0 ha ht (vp_in_nI hj hn) hdg ?_
  rw [nI_clamp (Nat.lt_trans hj hn)]
  exact kk
/-- a table that nobody writes -/
theorem aldT {A : Nat → Prop} {t N : Nat} {f : Nat → Value} (hF : CallFix p m c cc nL s args wA own0) (hT : va_T .int t N f A s s.heap) (hS : va_S A s.heap H locs) (j : Nat) (hj : j < N) (hn : N < 2 ^ 31) {x : Int32} (hx : x = nI j) {v : Int32} (hv : f j = .int v) (hdg : decode cc pc = .ok (.iaload, 1))
    (kk : W p l e R s m args below meth c H locs cells slots Q (F0 m (pc + 1) ls (.int v :: rest))) : W p l e R s m args below meth c H locs cells slots Q (F0 m pc ls (.int x :: .ref t :: rest)) := by
  subst hx
  exact va_ti hF.1 hF.2.1 hT hS (vp_in_nI hj hn) (by rw [nI_clamp (Nat.lt_trans hj hn)]; exact hv) hdg kk
end ROWS
def fC (q : Nat → Nat) (n : Int32) (st : Int32) (v : Nat → Nat → Int32) (mk : Nat → Bool) (w : Nat → Nat → Int32) : List Value := [.ref (q 1), .ref (q 2), .ref (q 3), .ref (q 4), .ref (q 5), .int n, .int st, .ref (q 6), .ref (q 7), .ref (q 8), .ref (q 9)]
def cwC (cyI cyZ : ClassId) (q : Nat → Nat) (n : Int32) (st : Int32) (v : Nat → Nat → Int32) (mk : Nat → Bool) (w : Nat → Nat → Int32) : va_W := [(q 0, .inr (0, fC q n st v mk w)), (q 1, .inl (cyI, 16, .inl (v 0))), (q 2, .inl (cyI, 16, .inl (v 1))), (q 3, .inl (cyI, 16, .inl (v 2))), (q 4, .inl (cyZ, 16, .inl (fun j => b2i (mk j)))), (q 5, .inl (cyI, 10, .inl (v 3))), (q 6, .inl (cyI, 16, .inl (w 0))), (q 7, .inl (cyI, 16, .inl (w 1))), (q 8, .inl (cyI, 16, .inl (w 2))), (q 9, .inl (cyI, 16, .inl (w 3)))]
def C0 (D : va_G) (cyI cyZ : ClassId) (q : Nat → Nat) (n : Int32) (st : Int32) (v : Nat → Nat → Int32) (mk : Nat → Bool) (w : Nat → Nat → Int32) : State → Heap → Prop := fun U H => va_P D vwCl (cwC cyI cyZ q n st v mk w) H ∧ va_K D vwCl [(cyI, .int), (cyZ, .boolean)] U ∧ ap 10 q
section CR
variable {p : Program} {l : Launch} {e : Env} {R : Room} {s : State} {m : MethodId} {args : Array Value} {below : List Frame} {meth : Method} {c : Code} {H : Heap} {locs : List Loc} {cells slots : Nat} {Q : State → Prop}
variable {cc : ByteArray} {nL pc idx : Nat} {ls : Array Slot} {rest : List Value} {D : va_G} {cyI cyZ : ClassId} {q : Nat → Nat} {n : Int32} {st : Int32} {v : Nat → Nat → Int32} {mk : Nat → Bool} {w : Nat → Nat → Int32} {H0 : Heap}
theorem C0.mv : Mv (C0 D cyI cyZ q n st v mk w) := fun _ _ _ a h => ⟨h.1, va_K.moved a h.2.1, h.2.2⟩
theorem C0.rc (h : C0 D cyI cyZ q n st v mk w s H) : Rc RX0 (q 0) s H := va_recv h.2.1 h.1 (ci := 0) (q0 := 0) rfl rfl
theorem C0.apart (h : C0 D cyI cyZ q n st v mk w s H) : va_D (own 10 q) (cwC cyI cyZ q n st v mk w) := apD h.2.2 rfl
theorem C0.lt (h : C0 D cyI cyZ q n st v mk w s H) {a : Nat} (ha : own 10 q a) : a < H.size := apP h.1 rfl ha
theorem C0.kept {H1 : Heap} (h : C0 D cyI cyZ q n st v mk w s H) (hk : ∀ a : Nat, own 10 q a → H1[a]? = H[a]?) : C0 D cyI cyZ q n st v mk w s H1 := ⟨apK h.1 rfl hk, h.2.1, h.2.2⟩
/-- a field is read -/
theorem C0.get (hF : CallFix p m c cc nL s args wA RX0) (hX : C0 D cyI cyZ q n st v mk w s H) (j : Nat) (hj : j < 11) {val : Value} (hv : (fC q n st v mk w)[j]? = some val) {nm ds : String} (hn : TX0 j = ("MapSongs", nm, ds, (TX0 j).2.2.2)) (hl : Cond.fieldLink RX0 idx "MapSongs" nm ds ∈ wA) (hdg : decode cc pc = .ok (.getfield idx, 3))
    (kk : W p l e R s m args below meth c H locs cells slots Q (F0 m (pc + 3) ls (val :: rest))) : W p l e R s m args below meth c H locs cells slots Q (F0 m pc ls (.ref (q 0) :: rest)) := by
  have h1 : (TX0 j).1 = "MapSongs" := by rw [hn]
  have h2 : (TX0 j).2.1 = nm := by rw [hn]
  have h3 : (TX0 j).2.2.1 = ds := by rw [hn]
  exact va_get (D := D) (ci := 0) (C := RX0) (T := TX0) (N := 11) (ref := "MapSongs") hF.1 hF.2.1 hF.2.2.2.2 wx0 hF.2.2.2.1 hX.2.1 hX.1 0 rfl rfl j hj (by rw [h2, h3]; exact hF.2.2.2.2 _ hl) (by rw [h1]; exact fun _ h9 => h9) hv hdg kk
theorem C0.put_n {x : Int32} (hF : CallFix p m c cc nL s args wA RX0) (hX : C0 D cyI cyZ q n st v mk w s H) {A : Nat → Prop} (hS : va_S A H0 H locs) (hl : Cond.fieldLink RX0 idx "MapSongs" "legCount" "I" ∈ wA) (hdg : decode cc pc = .ok (.putfield idx, 3))
    (kk : ∀ (H1 : Heap) (locs1 : List Loc), C0 D cyI cyZ q x st v mk w s H1 → va_S A H0 H1 locs1 → W p l e R s m args below meth c H1 locs1 cells slots Q (F0 m (pc + 3) ls rest)) (hAq : ∀ a, own 10 q a → A a := by exact fun _ h => h) : W p l e R s m args below meth c H locs cells slots Q (F0 m pc ls (.int x :: .ref (q 0) :: rest)) :=
  va_put (D := D) (ci := 0) (v := .int x) (ty := .int) (C := RX0) (T := TX0) (N := 11) hF.1 hF.2.1 hF.2.2.2.2 wx0 tyX0 tyX0_ok nmX0 hF.2.2.2.1 hX.2.1 hX.1 (apA hX.apart hAq) hS 0 rfl rfl 5 (by decide) (hF.2.2.2.2 _ hl) (fun _ h9 => h9) rfl (by decide +kernel) rfl rfl (Nat.le_of_ble_eq_true rfl) hdg (fun H1 locs1 hP _ hS1 => kk H1 locs1 ⟨hP, hX.2.1, hX.2.2⟩ hS1)
theorem C0.put_st {x : Int32} (hF : CallFix p m c cc nL s args wA RX0) (hX : C0 D cyI cyZ q n st v mk w s H) {A : Nat → Prop} (hS : va_S A H0 H locs) (hl : Cond.fieldLink RX0 idx "MapSongs" "songStep" "I" ∈ wA) (hdg : decode cc pc = .ok (.putfield idx, 3))
    (kk : ∀ (H1 : Heap) (locs1 : List Loc), C0 D cyI cyZ q n x v mk w s H1 → va_S A H0 H1 locs1 → W p l e R s m args below meth c H1 locs1 cells slots Q (F0 m (pc + 3) ls rest)) (hAq : ∀ a, own 10 q a → A a := by exact fun _ h => h) : W p l e R s m args below meth c H locs cells slots Q (F0 m pc ls (.int x :: .ref (q 0) :: rest)) :=
  va_put (D := D) (ci := 0) (v := .int x) (ty := .int) (C := RX0) (T := TX0) (N := 11) hF.1 hF.2.1 hF.2.2.2.2 wx0 tyX0 tyX0_ok nmX0 hF.2.2.2.1 hX.2.1 hX.1 (apA hX.apart hAq) hS 0 rfl rfl 6 (by decide) (hF.2.2.2.2 _ hl) (fun _ h9 => h9) rfl (by decide +kernel) rfl rfl (Nat.le_of_ble_eq_true rfl) hdg (fun H1 locs1 hP _ hS1 => kk H1 locs1 ⟨hP, hX.2.1, hX.2.2⟩ hS1)
theorem C0.st_v0 (hF : CallFix p m c cc nL s args wA RX0) (hX : C0 D cyI cyZ q n st v mk w s H) {A : Nat → Prop} (hS : va_S A H0 H locs) (j : Nat) (hj : j < 16) {i x : Int32} (hi : i = nI j) (hdg : decode cc pc = .ok (.iastore, 1))
    (kk : ∀ (H1 : Heap) (locs1 : List Loc), C0 D cyI cyZ q n st (va_up v 0 (upd (v 0) j x)) mk w s H1 → va_S A H0 H1 locs1 → W p l e R s m args below meth c H1 locs1 cells slots Q (F0 m (pc + 1) ls rest)) (hAq : ∀ a, own 10 q a → A a := by exact fun _ h => h) : W p l e R s m args below meth c H locs cells slots Q (F0 m pc ls (.int x :: .int i :: .ref (q 1) :: rest)) := by
  subst hi
  refine va_iast hF.1 hF.2.1 hX.2.1 hX.1 (apA hX.apart hAq) hS 1 0 rfl rfl (vp_in_nI hj (by decide)) hdg (fun H1 locs1 hP _ hS1 => kk H1 locs1 ⟨?_, hX.2.1, hX.2.2⟩ hS1)
  rw [nI_clamp (by omega)] at hP
  exact hP
theorem C0.st_v1 (hF : CallFix p m c cc nL s args wA RX0) (hX : C0 D cyI cyZ q n st v mk w s H) {A : Nat → Prop} (hS : va_S A H0 H locs) (j : Nat) (hj : j < 16) {i x : Int32} (hi : i = nI j) (hdg : decode cc pc = .ok (.iastore, 1))
    (kk : ∀ (H1 : Heap) (locs1 : List Loc), C0 D cyI cyZ q n st (va_up v 1 (upd (v 1) j x)) mk w s H1 → va_S A H0 H1 locs1 → W p l e R s m args below meth c H1 locs1 cells slots Q (F0 m (pc + 1) ls rest)) (hAq : ∀ a, own 10 q a → A a := by exact fun _ h => h) : W p l e R s m args below meth c H locs cells slots Q (F0 m pc ls (.int x :: .int i :: .ref (q 2) :: rest)) := by
  subst hi
  refine va_iast hF.1 hF.2.1 hX.2.1 hX.1 (apA hX.apart hAq) hS 2 0 rfl rfl (vp_in_nI hj (by decide)) hdg (fun H1 locs1 hP _ hS1 => kk H1 locs1 ⟨?_, hX.2.1, hX.2.2⟩ hS1)
  rw [nI_clamp (by omega)] at hP
  exact hP
theorem C0.st_v2 (hF : CallFix p m c cc nL s args wA RX0) (hX : C0 D cyI cyZ q n st v mk w s H) {A : Nat → Prop} (hS : va_S A H0 H locs) (j : Nat) (hj : j < 16) {i x : Int32} (hi : i = nI j) (hdg : decode cc pc = .ok (.iastore, 1))
    (kk : ∀ (H1 : Heap) (locs1 : List Loc), C0 D cyI cyZ q n st (va_up v 2 (upd (v 2) j x)) mk w s H1 → va_S A H0 H1 locs1 → W p l e R s m args below meth c H1 locs1 cells slots Q (F0 m (pc + 1) ls rest)) (hAq : ∀ a, own 10 q a → A a := by exact fun _ h => h) : W p l e R s m args below meth c H locs cells slots Q (F0 m pc ls (.int x :: .int i :: .ref (q 3) :: rest)) := by
  subst hi
  refine va_iast hF.1 hF.2.1 hX.2.1 hX.1 (apA hX.apart hAq) hS 3 0 rfl rfl (vp_in_nI hj (by decide)) hdg (fun H1 locs1 hP _ hS1 => kk H1 locs1 ⟨?_, hX.2.1, hX.2.2⟩ hS1)
  rw [nI_clamp (by omega)] at hP
  exact hP
theorem C0.st_mk_true (hF : CallFix p m c cc nL s args wA RX0) (hX : C0 D cyI cyZ q n st v mk w s H) {A : Nat → Prop} (hS : va_S A H0 H locs) (j : Nat) (hj : j < 16) {i x : Int32} (hi : i = nI j) (hv : x = b2i true) (hdg : decode cc pc = .ok (.bastore, 1))
    (kk : ∀ (H1 : Heap) (locs1 : List Loc), C0 D cyI cyZ q n st v (va_up mk j true) w s H1 → va_S A H0 H1 locs1 → W p l e R s m args below meth c H1 locs1 cells slots Q (F0 m (pc + 1) ls rest)) (hAq : ∀ a, own 10 q a → A a := by exact fun _ h => h) : W p l e R s m args below meth c H locs cells slots Q (F0 m pc ls (.int x :: .int i :: .ref (q 4) :: rest)) := by
  subst hi; subst hv
  refine va_zast hF.1 hF.2.1 hX.2.1 hX.1 (apA hX.apart hAq) hS 4 1 rfl rfl (vp_in_nI hj (by decide)) hdg (fun H1 locs1 hP _ hS1 => kk H1 locs1 ⟨?_, hX.2.1, hX.2.2⟩ hS1)
  rw [nI_clamp (by omega)] at hP
  have e9 : upd (fun j => b2i (mk j)) j (vp_nar .boolean (b2i true)) = fun i => b2i (va_up mk j true i) := by
    funext i
    by_cases hij : i = j
    · subst hij; simp only [upd, va_up, if_pos]; decide
    · simp only [upd, va_up, if_neg hij]
  rw [e9] at hP
  exact hP
theorem C0.st_mk_false (hF : CallFix p m c cc nL s args wA RX0) (hX : C0 D cyI cyZ q n st v mk w s H) {A : Nat → Prop} (hS : va_S A H0 H locs) (j : Nat) (hj : j < 16) {i x : Int32} (hi : i = nI j) (hv : x = b2i false) (hdg : decode cc pc = .ok (.bastore, 1))
    (kk : ∀ (H1 : Heap) (locs1 : List Loc), C0 D cyI cyZ q n st v (va_up mk j false) w s H1 → va_S A H0 H1 locs1 → W p l e R s m args below meth c H1 locs1 cells slots Q (F0 m (pc + 1) ls rest)) (hAq : ∀ a, own 10 q a → A a := by exact fun _ h => h) : W p l e R s m args below meth c H locs cells slots Q (F0 m pc ls (.int x :: .int i :: .ref (q 4) :: rest)) := by
  subst hi; subst hv
  refine va_zast hF.1 hF.2.1 hX.2.1 hX.1 (apA hX.apart hAq) hS 4 1 rfl rfl (vp_in_nI hj (by decide)) hdg (fun H1 locs1 hP _ hS1 => kk H1 locs1 ⟨?_, hX.2.1, hX.2.2⟩ hS1)
  rw [nI_clamp (by omega)] at hP
  have e9 : upd (fun j => b2i (mk j)) j (vp_nar .boolean (b2i false)) = fun i => b2i (va_up mk j false i) := by
    funext i
    by_cases hij : i = j
    · subst hij; simp only [upd, va_up, if_pos]; decide
    · simp only [upd, va_up, if_neg hij]
  rw [e9] at hP
  exact hP
theorem C0.st_v3 (hF : CallFix p m c cc nL s args wA RX0) (hX : C0 D cyI cyZ q n st v mk w s H) {A : Nat → Prop} (hS : va_S A H0 H locs) (j : Nat) (hj : j < 10) {i x : Int32} (hi : i = nI j) (hdg : decode cc pc = .ok (.iastore, 1))
    (kk : ∀ (H1 : Heap) (locs1 : List Loc), C0 D cyI cyZ q n st (va_up v 3 (upd (v 3) j x)) mk w s H1 → va_S A H0 H1 locs1 → W p l e R s m args below meth c H1 locs1 cells slots Q (F0 m (pc + 1) ls rest)) (hAq : ∀ a, own 10 q a → A a := by exact fun _ h => h) : W p l e R s m args below meth c H locs cells slots Q (F0 m pc ls (.int x :: .int i :: .ref (q 5) :: rest)) := by
  subst hi
  refine va_iast hF.1 hF.2.1 hX.2.1 hX.1 (apA hX.apart hAq) hS 5 0 rfl rfl (vp_in_nI hj (by decide)) hdg (fun H1 locs1 hP _ hS1 => kk H1 locs1 ⟨?_, hX.2.1, hX.2.2⟩ hS1)
  rw [nI_clamp (by omega)] at hP
  exact hP
theorem C0.st_w0 (hF : CallFix p m c cc nL s args wA RX0) (hX : C0 D cyI cyZ q n st v mk w s H) {A : Nat → Prop} (hS : va_S A H0 H locs) (j : Nat) (hj : j < 16) {i x : Int32} (hi : i = nI j) (hdg : decode cc pc = .ok (.iastore, 1))
    (kk : ∀ (H1 : Heap) (locs1 : List Loc), C0 D cyI cyZ q n st v mk (va_up w 0 (upd (w 0) j x)) s H1 → va_S A H0 H1 locs1 → W p l e R s m args below meth c H1 locs1 cells slots Q (F0 m (pc + 1) ls rest)) (hAq : ∀ a, own 10 q a → A a := by exact fun _ h => h) : W p l e R s m args below meth c H locs cells slots Q (F0 m pc ls (.int x :: .int i :: .ref (q 6) :: rest)) := by
  subst hi
  refine va_iast hF.1 hF.2.1 hX.2.1 hX.1 (apA hX.apart hAq) hS 6 0 rfl rfl (vp_in_nI hj (by decide)) hdg (fun H1 locs1 hP _ hS1 => kk H1 locs1 ⟨?_, hX.2.1, hX.2.2⟩ hS1)
  rw [nI_clamp (by omega)] at hP
  exact hP
theorem C0.st_w1 (hF : CallFix p m c cc nL s args wA RX0) (hX : C0 D cyI cyZ q n st v mk w s H) {A : Nat → Prop} (hS : va_S A H0 H locs) (j : Nat) (hj : j < 16) {i x : Int32} (hi : i = nI j) (hdg : decode cc pc = .ok (.iastore, 1))
    (kk : ∀ (H1 : Heap) (locs1 : List Loc), C0 D cyI cyZ q n st v mk (va_up w 1 (upd (w 1) j x)) s H1 → va_S A H0 H1 locs1 → W p l e R s m args below meth c H1 locs1 cells slots Q (F0 m (pc + 1) ls rest)) (hAq : ∀ a, own 10 q a → A a := by exact fun _ h => h) : W p l e R s m args below meth c H locs cells slots Q (F0 m pc ls (.int x :: .int i :: .ref (q 7) :: rest)) := by
  subst hi
  refine va_iast hF.1 hF.2.1 hX.2.1 hX.1 (apA hX.apart hAq) hS 7 0 rfl rfl (vp_in_nI hj (by decide)) hdg (fun H1 locs1 hP _ hS1 => kk H1 locs1 ⟨?_, hX.2.1, hX.2.2⟩ hS1)
  rw [nI_clamp (by omega)] at hP
  exact hP
theorem C0.st_w2 (hF : CallFix p m c cc nL s args wA RX0) (hX : C0 D cyI cyZ q n st v mk w s H) {A : Nat → Prop} (hS : va_S A H0 H locs) (j : Nat) (hj : j < 16) {i x : Int32} (hi : i = nI j) (hdg : decode cc pc = .ok (.iastore, 1))
    (kk : ∀ (H1 : Heap) (locs1 : List Loc), C0 D cyI cyZ q n st v mk (va_up w 2 (upd (w 2) j x)) s H1 → va_S A H0 H1 locs1 → W p l e R s m args below meth c H1 locs1 cells slots Q (F0 m (pc + 1) ls rest)) (hAq : ∀ a, own 10 q a → A a := by exact fun _ h => h) : W p l e R s m args below meth c H locs cells slots Q (F0 m pc ls (.int x :: .int i :: .ref (q 8) :: rest)) := by
  subst hi
  refine va_iast hF.1 hF.2.1 hX.2.1 hX.1 (apA hX.apart hAq) hS 8 0 rfl rfl (vp_in_nI hj (by decide)) hdg (fun H1 locs1 hP _ hS1 => kk H1 locs1 ⟨?_, hX.2.1, hX.2.2⟩ hS1)
  rw [nI_clamp (by omega)] at hP
  exact hP
theorem C0.st_w3 (hF : CallFix p m c cc nL s args wA RX0) (hX : C0 D cyI cyZ q n st v mk w s H) {A : Nat → Prop} (hS : va_S A H0 H locs) (j : Nat) (hj : j < 16) {i x : Int32} (hi : i = nI j) (hdg : decode cc pc = .ok (.iastore, 1))
    (kk : ∀ (H1 : Heap) (locs1 : List Loc), C0 D cyI cyZ q n st v mk (va_up w 3 (upd (w 3) j x)) s H1 → va_S A H0 H1 locs1 → W p l e R s m args below meth c H1 locs1 cells slots Q (F0 m (pc + 1) ls rest)) (hAq : ∀ a, own 10 q a → A a := by exact fun _ h => h) : W p l e R s m args below meth c H locs cells slots Q (F0 m pc ls (.int x :: .int i :: .ref (q 9) :: rest)) := by
  subst hi
  refine va_iast hF.1 hF.2.1 hX.2.1 hX.1 (apA hX.apart hAq) hS 9 0 rfl rfl (vp_in_nI hj (by decide)) hdg (fun H1 locs1 hP _ hS1 => kk H1 locs1 ⟨?_, hX.2.1, hX.2.2⟩ hS1)
  rw [nI_clamp (by omega)] at hP
  exact hP
end CR
