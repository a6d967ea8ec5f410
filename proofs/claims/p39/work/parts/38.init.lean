section R38
variable {p : Program} {l : Launch} {e : Env} {R : Room} {s : State} {m : MethodId} {args : Array Value} {below : List Frame} {meth : Method} {c : Code} {H : Heap} {locs : List Loc} {cells slots : Nat} {Q : State → Prop}
variable {cc : ByteArray} {nL pc idx a : Nat} {ls : Array Slot} {own0 : String} {rest st0 : List Value} {D : va_G} {tys : List (ClassId × FieldType)} {ws : va_W} {A : Nat → Prop} {H0 : Heap} {cyI cyZ : ClassId}
theorem clsI {s : State} {c1 c2 : ClassId} (h1 : va_RA s c1 .int) (h2 : va_RA s c2 .int) : c1 = c2 := by
  have e1 : s.vm.findClass ("[" ++ FieldType.int.toString) = some c1 := h1
  have e2 : s.vm.findClass ("[" ++ FieldType.int.toString) = some c2 := h2
  exact Option.some.inj (e1.symm.trans e2)
theorem clsZ {s : State} {c1 c2 : ClassId} (h1 : va_RA s c1 .boolean) (h2 : va_RA s c2 .boolean) : c1 = c2 := by
  have e1 : s.vm.findClass ("[" ++ FieldType.boolean.toString) = some c1 := h1
  have e2 : s.vm.findClass ("[" ++ FieldType.boolean.toString) = some c2 := h2
  exact Option.some.inj (e1.symm.trans e2)
theorem newI (hF : CallFix p m c cc nL s args wA own0) (hK : va_K D vwCl tys s) (t0 : Nat) (ht : tys[t0]? = some (cyI, .int)) (hP : va_P D vwCl ws H) (hD : va_D A ws) (hS : va_S A H0 H locs) (hA : ∀ q, H0.size ≤ q → A q) (n : Nat) (hn : n ≤ 100) {i : Int32} (hi : i = nI n) (hc : cells + 1 ≤ R.cells) (hs : slots + n ≤ R.slots) (hdg : decode cc pc = .ok (.newarray .int, 2))
    (kk : ∀ (q : Nat) (H1 : Heap), va_P D vwCl (ws ++ [(q, .inl (cyI, n, .inl (fun _ => 0)))]) H1 → va_D A (ws ++ [(q, .inl (cyI, n, .inl (fun _ => 0)))]) → va_S A H0 H1 locs → W p l e R s m args below meth c H1 locs (cells + 1) (slots + n) Q (F0 m (pc + 2) ls (.ref q :: rest))) : W p l e R s m args below meth c H locs cells slots Q (F0 m pc ls (.int i :: rest)) := by
  subst hi
  refine va_newa (atype := .int) (ty := .int) (N' := n) (a0 := (n, .inl (fun _ => 0))) hF.1 hF.2.1 (hF.2.2.2.2 _ ka_int) rfl hK hP hD hS hA (fun cA => rfl) (nI_pos (by omega)) (nI_clamp (by omega)) ?_ hc hs hdg (fun q cA H1 hK1 hP1 hD1 hS1 => ?_)
  · show n * 4 ≤ 536870912
    omega
  · have e1 := (hK1.2 tys.length (cA, .int) (by simp)).2
    have e2 := (hK.2 t0 _ ht).2
    have e3 := clsI e1 e2
    subst e3
    exact kk q H1 hP1 hD1 hS1
theorem newZ (hF : CallFix p m c cc nL s args wA own0) (hK : va_K D vwCl tys s) (t0 : Nat) (ht : tys[t0]? = some (cyZ, .boolean)) (hP : va_P D vwCl ws H) (hD : va_D A ws) (hS : va_S A H0 H locs) (hA : ∀ q, H0.size ≤ q → A q) (n : Nat) (hn : n ≤ 100) {i : Int32} (hi : i = nI n) (hc : cells + 1 ≤ R.cells) (hs : slots + n ≤ R.slots) (hdg : decode cc pc = .ok (.newarray .boolean, 2))
    (kk : ∀ (q : Nat) (H1 : Heap), va_P D vwCl (ws ++ [(q, .inl (cyZ, n, .inl (fun _ => 0)))]) H1 → va_D A (ws ++ [(q, .inl (cyZ, n, .inl (fun _ => 0)))]) → va_S A H0 H1 locs → W p l e R s m args below meth c H1 locs (cells + 1) (slots + n) Q (F0 m (pc + 2) ls (.ref q :: rest))) : W p l e R s m args below meth c H locs cells slots Q (F0 m pc ls (.int i :: rest)) := by
  subst hi
  refine va_newa (atype := .boolean) (ty := .boolean) (N' := n) (a0 := (n, .inl (fun _ => 0))) hF.1 hF.2.1 (hF.2.2.2.2 _ ka_boolean) rfl hK hP hD hS hA (fun cA => rfl) (nI_pos (by omega)) (nI_clamp (by omega)) ?_ hc hs hdg (fun q cA H1 hK1 hP1 hD1 hS1 => ?_)
  · show n * 1 ≤ 536870912
    omega
  · have e1 := (hK1.2 tys.length (cA, .boolean) (by simp)).2
    have e2 := (hK.2 t0 _ ht).2
    have e3 := clsZ e1 e2
    subst e3
    exact kk q H1 hP1 hD1 hS1

end R38
theorem one0 {x : Nat × va_E} {i : Nat} {y : Nat × va_E} (h : ([x] : va_W)[i]? = some y) : i = 0 := by
  cases i with
  | zero => rfl
  | succ i => simp at h
theorem wd_up {v : Nat → Nat → Int32} {j : Nat} (h : ∀ k, k < j → v 3 k = nI k) : ∀ k, k < j + 1 → (va_up v 3 (upd (v 3) j (nI j))) 3 k = nI k := by
  intro k hk
  show upd (v 3) j (nI j) k = nI k
  unfold upd
  split
  · rename_i e; rw [e]
  · exact h k (by omega)
set_option maxHeartbeats 4000000 in
set_option maxRecDepth 100000 in
theorem mX0_init {l : Launch} {D : va_G} {cyI cyZ : ClassId} (h0 sz : Nat) : Met l yX0_init (wm yX0_init cX0_init 2 none) ({ frames := 1, cells := 9, slots := 138, locals := 25 } : Room) (va_Pc [.ref h0] (fun U => va_P D vwCl [(h0, .inr (0, [.null, .null, .null, .null, .null, .int 0, .int 0, .null, .null, .null, .null]))] U.heap ∧ va_K D vwCl [(cyI, .int), (cyZ, .boolean)] U ∧ U.heap.size = sz)) (va_Qv (fun u : (Nat → Nat) × (Nat → Nat → Int32) => u.1 0 = h0 ∧ (∀ a, own 10 u.1 a → va_A [(h0, .inr (0, [.null, .null, .null, .null, .null, .int 0, .int 0, .null, .null, .null, .null]))] sz a) ∧ u.2 0 = (fun _ => 0) ∧ u.2 1 = (fun _ => 0) ∧ u.2 2 = (fun _ => 0) ∧ ∀ k, k < 10 → u.2 3 k = nI k) (fun u U => C0 D cyI cyZ u.1 0 2 u.2 (fun _ => false) (fun _ _ => 0) U U.heap) (va_A [(h0, .inr (0, [.null, .null, .null, .null, .null, .int 0, .int 0, .null, .null, .null, .null]))] sz)) 9 138 (va_A [(h0, .inr (0, [.null, .null, .null, .null, .null, .int 0, .int 0, .null, .null, .null, .null]))] sz) := by
  refine mt (by decide) (Nat.le_of_ble_eq_true rfl) ?_
  intro p ev s m below meth c ls hF hr hlocks hnm hX hl
  have hF : CallFix p m c cX0_init 2 s _ wA RX0 := hF
  obtain ⟨hx, hb, hml, hown, hts⟩ := id hF
  obtain ⟨hP, hK, hsz⟩ := hX
  subst hsz
  have hP : va_P D vwCl [(h0, .inr (0, [.null, .null, .null, .null, .null, .int 0, .int 0, .null, .null, .null, .null]))] s.heap := hP
  have hD0 : va_D (fun _ => True) [(h0, .inr (0, [.null, .null, .null, .null, .null, .int 0, .int 0, .null, .null, .null, .null]))] := ⟨fun i j x y hx hy _ => (one0 hx).trans (one0 hy).symm, fun _ _ _ => trivial⟩
  have hD := hD0.self (sz := s.heap.size)
  generalize hAe : va_A [(h0, .inr (0, [.null, .null, .null, .null, .null, .int 0, .int 0, .null, .null, .null, .null]))] s.heap.size = A at hD ⊢
  have hA : ∀ q : Nat, s.heap.size ≤ q → A q := fun q h => by rw [← hAe]; exact Or.inr h
  have hS : va_S A s.heap s.heap [] := va_S.rf
  have hl : lv_has ls 2 [(0, .ref h0)] := hl
  refine lv_aload_n hx hb dX0_init_0 rfl (lv_at hl 0 rfl) ?_
  refine W.objInit hx hb hown (hts _ kl_RX0_1) (hts _ ki_objectInit) (hts _ kd_objectInit) rfl (by rw [hml]; exact hl.1) rfl dX0_init_1 (Nat.le_of_ble_eq_true rfl) (Nat.le_of_ble_eq_true rfl) ?_
  refine W.eq (g2 := F0 m 4 ls []) rfl ?_
  refine lv_aload_n hx hb dX0_init_4 rfl (lv_at hl 0 rfl) ?_
  refine lv_bipush (v := (nI 16)) hx hb dX0_init_5 (by decide) ?_
  refine newI hF hK 0 rfl hP hD hS hA 16 (by decide) rfl (Nat.le_of_ble_eq_true rfl) (Nat.le_of_ble_eq_true rfl) dX0_init_7 (fun a1 H hP hD hS => ?_)
  have hP : va_P D vwCl [(h0, .inr (0, [.null, .null, .null, .null, .null, .int 0, .int 0, .null, .null, .null, .null])), (a1, .inl (cyI, 16, .inl (fun _ => 0)))] H := hP
  have hD : va_D A [(h0, .inr (0, [.null, .null, .null, .null, .null, .int 0, .int 0, .null, .null, .null, .null])), (a1, .inl (cyI, 16, .inl (fun _ => 0)))] := hD
  refine va_putF (D := D) (ci := 0) (v := .ref a1) (ty := .array .int) (C := RX0) (T := TX0) (N := 11) (ref := "MapSongs") hx hb hts wx0 tyX0 tyX0_ok nmX0 hown hK hP hD hS 0 rfl rfl 0 (by decide) (hts _ kf_RX0_9) (fun _ h9 => h9) rfl hnm rfl rfl rfl rfl (Nat.le_of_ble_eq_true rfl) dX0_init_9 (fun H locs hP hD hS => ?_)
  have hP : va_P D vwCl [(h0, .inr (0, [.ref a1, .null, .null, .null, .null, .int 0, .int 0, .null, .null, .null, .null])), (a1, .inl (cyI, 16, .inl (fun _ => 0)))] H := hP
  have hD : va_D A [(h0, .inr (0, [.ref a1, .null, .null, .null, .null, .int 0, .int 0, .null, .null, .null, .null])), (a1, .inl (cyI, 16, .inl (fun _ => 0)))] := hD
  refine lv_aload_n hx hb dX0_init_12 rfl (lv_at hl 0 rfl) ?_
  refine lv_bipush (v := (nI 16)) hx hb dX0_init_13 (by decide) ?_
  refine newI hF hK 0 rfl hP hD hS hA 16 (by decide) rfl (Nat.le_of_ble_eq_true rfl) (Nat.le_of_ble_eq_true rfl) dX0_init_15 (fun a2 H hP hD hS => ?_)
  have hP : va_P D vwCl [(h0, .inr (0, [.ref a1, .null, .null, .null, .null, .int 0, .int 0, .null, .null, .null, .null])), (a1, .inl (cyI, 16, .inl (fun _ => 0))), (a2, .inl (cyI, 16, .inl (fun _ => 0)))] H := hP
  have hD : va_D A [(h0, .inr (0, [.ref a1, .null, .null, .null, .null, .int 0, .int 0, .null, .null, .null, .null])), (a1, .inl (cyI, 16, .inl (fun _ => 0))), (a2, .inl (cyI, 16, .inl (fun _ => 0)))] := hD
  refine va_putF (D := D) (ci := 0) (v := .ref a2) (ty := .array .int) (C := RX0) (T := TX0) (N := 11) (ref := "MapSongs") hx hb hts wx0 tyX0 tyX0_ok nmX0 hown hK hP hD hS 0 rfl rfl 1 (by decide) (hts _ kf_RX0_13) (fun _ h9 => h9) rfl hnm rfl rfl rfl rfl (Nat.le_of_ble_eq_true rfl) dX0_init_17 (fun H locs hP hD hS => ?_)
  have hP : va_P D vwCl [(h0, .inr (0, [.ref a1, .ref a2, .null, .null, .null, .int 0, .int 0, .null, .null, .null, .null])), (a1, .inl (cyI, 16, .inl (fun _ => 0))), (a2, .inl (cyI, 16, .inl (fun _ => 0)))] H := hP
  have hD : va_D A [(h0, .inr (0, [.ref a1, .ref a2, .null, .null, .null, .int 0, .int 0, .null, .null, .null, .null])), (a1, .inl (cyI, 16, .inl (fun _ => 0))), (a2, .inl (cyI, 16, .inl (fun _ => 0)))] := hD
  refine lv_aload_n hx hb dX0_init_20 rfl (lv_at hl 0 rfl) ?_
  refine lv_bipush (v := (nI 16)) hx hb dX0_init_21 (by decide) ?_
  refine newI hF hK 0 rfl hP hD hS hA 16 (by decide) rfl (Nat.le_of_ble_eq_true rfl) (Nat.le_of_ble_eq_true rfl) dX0_init_23 (fun a3 H hP hD hS => ?_)
  have hP : va_P D vwCl [(h0, .inr (0, [.ref a1, .ref a2, .null, .null, .null, .int 0, .int 0, .null, .null, .null, .null])), (a1, .inl (cyI, 16, .inl (fun _ => 0))), (a2, .inl (cyI, 16, .inl (fun _ => 0))), (a3, .inl (cyI, 16, .inl (fun _ => 0)))] H := hP
  have hD : va_D A [(h0, .inr (0, [.ref a1, .ref a2, .null, .null, .null, .int 0, .int 0, .null, .null, .null, .null])), (a1, .inl (cyI, 16, .inl (fun _ => 0))), (a2, .inl (cyI, 16, .inl (fun _ => 0))), (a3, .inl (cyI, 16, .inl (fun _ => 0)))] := hD
  refine va_putF (D := D) (ci := 0) (v := .ref a3) (ty := .array .int) (C := RX0) (T := TX0) (N := 11) (ref := "MapSongs") hx hb hts wx0 tyX0 tyX0_ok nmX0 hown hK hP hD hS 0 rfl rfl 2 (by decide) (hts _ kf_RX0_16) (fun _ h9 => h9) rfl hnm rfl rfl rfl rfl (Nat.le_of_ble_eq_true rfl) dX0_init_25 (fun H locs hP hD hS => ?_)
  have hP : va_P D vwCl [(h0, .inr (0, [.ref a1, .ref a2, .ref a3, .null, .null, .int 0, .int 0, .null, .null, .null, .null])), (a1, .inl (cyI, 16, .inl (fun _ => 0))), (a2, .inl (cyI, 16, .inl (fun _ => 0))), (a3, .inl (cyI, 16, .inl (fun _ => 0)))] H := hP
  have hD : va_D A [(h0, .inr (0, [.ref a1, .ref a2, .ref a3, .null, .null, .int 0, .int 0, .null, .null, .null, .null])), (a1, .inl (cyI, 16, .inl (fun _ => 0))), (a2, .inl (cyI, 16, .inl (fun _ => 0))), (a3, .inl (cyI, 16, .inl (fun _ => 0)))] := hD
  refine lv_aload_n hx hb dX0_init_28 rfl (lv_at hl 0 rfl) ?_
  refine lv_bipush (v := (nI 16)) hx hb dX0_init_29 (by decide) ?_
  refine newZ hF hK 1 rfl hP hD hS hA 16 (by decide) rfl (Nat.le_of_ble_eq_true rfl) (Nat.le_of_ble_eq_true rfl) dX0_init_31 (fun a4 H hP hD hS => ?_)
  have hP : va_P D vwCl [(h0, .inr (0, [.ref a1, .ref a2, .ref a3, .null, .null, .int 0, .int 0, .null, .null, .null, .null])), (a1, .inl (cyI, 16, .inl (fun _ => 0))), (a2, .inl (cyI, 16, .inl (fun _ => 0))), (a3, .inl (cyI, 16, .inl (fun _ => 0))), (a4, .inl (cyZ, 16, .inl (fun _ => 0)))] H := hP
  have hD : va_D A [(h0, .inr (0, [.ref a1, .ref a2, .ref a3, .null, .null, .int 0, .int 0, .null, .null, .null, .null])), (a1, .inl (cyI, 16, .inl (fun _ => 0))), (a2, .inl (cyI, 16, .inl (fun _ => 0))), (a3, .inl (cyI, 16, .inl (fun _ => 0))), (a4, .inl (cyZ, 16, .inl (fun _ => 0)))] := hD
  refine va_putF (D := D) (ci := 0) (v := .ref a4) (ty := .array .boolean) (C := RX0) (T := TX0) (N := 11) (ref := "MapSongs") hx hb hts wx0 tyX0 tyX0_ok nmX0 hown hK hP hD hS 0 rfl rfl 3 (by decide) (hts _ kf_RX0_19) (fun _ h9 => h9) rfl hnm rfl rfl rfl rfl (Nat.le_of_ble_eq_true rfl) dX0_init_33 (fun H locs hP hD hS => ?_)
  have hP : va_P D vwCl [(h0, .inr (0, [.ref a1, .ref a2, .ref a3, .ref a4, .null, .int 0, .int 0, .null, .null, .null, .null])), (a1, .inl (cyI, 16, .inl (fun _ => 0))), (a2, .inl (cyI, 16, .inl (fun _ => 0))), (a3, .inl (cyI, 16, .inl (fun _ => 0))), (a4, .inl (cyZ, 16, .inl (fun _ => 0)))] H := hP
  have hD : va_D A [(h0, .inr (0, [.ref a1, .ref a2, .ref a3, .ref a4, .null, .int 0, .int 0, .null, .null, .null, .null])), (a1, .inl (cyI, 16, .inl (fun _ => 0))), (a2, .inl (cyI, 16, .inl (fun _ => 0))), (a3, .inl (cyI, 16, .inl (fun _ => 0))), (a4, .inl (cyZ, 16, .inl (fun _ => 0)))] := hD
  refine lv_aload_n hx hb dX0_init_36 rfl (lv_at hl 0 rfl) ?_
  refine lv_bipush (v := (nI 10)) hx hb dX0_init_37 (by decide) ?_
  refine newI hF hK 0 rfl hP hD hS hA 10 (by decide) rfl (Nat.le_of_ble_eq_true rfl) (Nat.le_of_ble_eq_true rfl) dX0_init_39 (fun a5 H hP hD hS => ?_)
  have hP : va_P D vwCl [(h0, .inr (0, [.ref a1, .ref a2, .ref a3, .ref a4, .null, .int 0, .int 0, .null, .null, .null, .null])), (a1, .inl (cyI, 16, .inl (fun _ => 0))), (a2, .inl (cyI, 16, .inl (fun _ => 0))), (a3, .inl (cyI, 16, .inl (fun _ => 0))), (a4, .inl (cyZ, 16, .inl (fun _ => 0))), (a5, .inl (cyI, 10, .inl (fun _ => 0)))] H := hP
  have hD : va_D A [(h0, .inr (0, [.ref a1, .ref a2, .ref a3, .ref a4, .null, .int 0, .int 0, .null, .null, .null, .null])), (a1, .inl (cyI, 16, .inl (fun _ => 0))), (a2, .inl (cyI, 16, .inl (fun _ => 0))), (a3, .inl (cyI, 16, .inl (fun _ => 0))), (a4, .inl (cyZ, 16, .inl (fun _ => 0))), (a5, .inl (cyI, 10, .inl (fun _ => 0)))] := hD
  refine va_putF (D := D) (ci := 0) (v := .ref a5) (ty := .array .int) (C := RX0) (T := TX0) (N := 11) (ref := "MapSongs") hx hb hts wx0 tyX0 tyX0_ok nmX0 hown hK hP hD hS 0 rfl rfl 4 (by decide) (hts _ kf_RX0_23) (fun _ h9 => h9) rfl hnm rfl rfl rfl rfl (Nat.le_of_ble_eq_true rfl) dX0_init_41 (fun H locs hP hD hS => ?_)
  have hP : va_P D vwCl [(h0, .inr (0, [.ref a1, .ref a2, .ref a3, .ref a4, .ref a5, .int 0, .int 0, .null, .null, .null, .null])), (a1, .inl (cyI, 16, .inl (fun _ => 0))), (a2, .inl (cyI, 16, .inl (fun _ => 0))), (a3, .inl (cyI, 16, .inl (fun _ => 0))), (a4, .inl (cyZ, 16, .inl (fun _ => 0))), (a5, .inl (cyI, 10, .inl (fun _ => 0)))] H := hP
  have hD : va_D A [(h0, .inr (0, [.ref a1, .ref a2, .ref a3, .ref a4, .ref a5, .int 0, .int 0, .null, .null, .null, .null])), (a1, .inl (cyI, 16, .inl (fun _ => 0))), (a2, .inl (cyI, 16, .inl (fun _ => 0))), (a3, .inl (cyI, 16, .inl (fun _ => 0))), (a4, .inl (cyZ, 16, .inl (fun _ => 0))), (a5, .inl (cyI, 10, .inl (fun _ => 0)))] := hD
  refine lv_aload_n hx hb dX0_init_44 rfl (lv_at hl 0 rfl) ?_
  refine lv_bipush (v := (nI 16)) hx hb dX0_init_45 (by decide) ?_
  refine newI hF hK 0 rfl hP hD hS hA 16 (by decide) rfl (Nat.le_of_ble_eq_true rfl) (Nat.le_of_ble_eq_true rfl) dX0_init_47 (fun a6 H hP hD hS => ?_)
  have hP : va_P D vwCl [(h0, .inr (0, [.ref a1, .ref a2, .ref a3, .ref a4, .ref a5, .int 0, .int 0, .null, .null, .null, .null])), (a1, .inl (cyI, 16, .inl (fun _ => 0))), (a2, .inl (cyI, 16, .inl (fun _ => 0))), (a3, .inl (cyI, 16, .inl (fun _ => 0))), (a4, .inl (cyZ, 16, .inl (fun _ => 0))), (a5, .inl (cyI, 10, .inl (fun _ => 0))), (a6, .inl (cyI, 16, .inl (fun _ => 0)))] H := hP
  have hD : va_D A [(h0, .inr (0, [.ref a1, .ref a2, .ref a3, .ref a4, .ref a5, .int 0, .int 0, .null, .null, .null, .null])), (a1, .inl (cyI, 16, .inl (fun _ => 0))), (a2, .inl (cyI, 16, .inl (fun _ => 0))), (a3, .inl (cyI, 16, .inl (fun _ => 0))), (a4, .inl (cyZ, 16, .inl (fun _ => 0))), (a5, .inl (cyI, 10, .inl (fun _ => 0))), (a6, .inl (cyI, 16, .inl (fun _ => 0)))] := hD
  refine va_putF (D := D) (ci := 0) (v := .ref a6) (ty := .array .int) (C := RX0) (T := TX0) (N := 11) (ref := "MapSongs") hx hb hts wx0 tyX0 tyX0_ok nmX0 hown hK hP hD hS 0 rfl rfl 7 (by decide) (hts _ kf_RX0_26) (fun _ h9 => h9) rfl hnm rfl rfl rfl rfl (Nat.le_of_ble_eq_true rfl) dX0_init_49 (fun H locs hP hD hS => ?_)
  have hP : va_P D vwCl [(h0, .inr (0, [.ref a1, .ref a2, .ref a3, .ref a4, .ref a5, .int 0, .int 0, .ref a6, .null, .null, .null])), (a1, .inl (cyI, 16, .inl (fun _ => 0))), (a2, .inl (cyI, 16, .inl (fun _ => 0))), (a3, .inl (cyI, 16, .inl (fun _ => 0))), (a4, .inl (cyZ, 16, .inl (fun _ => 0))), (a5, .inl (cyI, 10, .inl (fun _ => 0))), (a6, .inl (cyI, 16, .inl (fun _ => 0)))] H := hP
  have hD : va_D A [(h0, .inr (0, [.ref a1, .ref a2, .ref a3, .ref a4, .ref a5, .int 0, .int 0, .ref a6, .null, .null, .null])), (a1, .inl (cyI, 16, .inl (fun _ => 0))), (a2, .inl (cyI, 16, .inl (fun _ => 0))), (a3, .inl (cyI, 16, .inl (fun _ => 0))), (a4, .inl (cyZ, 16, .inl (fun _ => 0))), (a5, .inl (cyI, 10, .inl (fun _ => 0))), (a6, .inl (cyI, 16, .inl (fun _ => 0)))] := hD
  refine lv_aload_n hx hb dX0_init_52 rfl (lv_at hl 0 rfl) ?_
  refine lv_bipush (v := (nI 16)) hx hb dX0_init_53 (by decide) ?_
  refine newI hF hK 0 rfl hP hD hS hA 16 (by decide) rfl (Nat.le_of_ble_eq_true rfl) (Nat.le_of_ble_eq_true rfl) dX0_init_55 (fun a7 H hP hD hS => ?_)
  have hP : va_P D vwCl [(h0, .inr (0, [.ref a1, .ref a2, .ref a3, .ref a4, .ref a5, .int 0, .int 0, .ref a6, .null, .null, .null])), (a1, .inl (cyI, 16, .inl (fun _ => 0))), (a2, .inl (cyI, 16, .inl (fun _ => 0))), (a3, .inl (cyI, 16, .inl (fun _ => 0))), (a4, .inl (cyZ, 16, .inl (fun _ => 0))), (a5, .inl (cyI, 10, .inl (fun _ => 0))), (a6, .inl (cyI, 16, .inl (fun _ => 0))), (a7, .inl (cyI, 16, .inl (fun _ => 0)))] H := hP
  have hD : va_D A [(h0, .inr (0, [.ref a1, .ref a2, .ref a3, .ref a4, .ref a5, .int 0, .int 0, .ref a6, .null, .null, .null])), (a1, .inl (cyI, 16, .inl (fun _ => 0))), (a2, .inl (cyI, 16, .inl (fun _ => 0))), (a3, .inl (cyI, 16, .inl (fun _ => 0))), (a4, .inl (cyZ, 16, .inl (fun _ => 0))), (a5, .inl (cyI, 10, .inl (fun _ => 0))), (a6, .inl (cyI, 16, .inl (fun _ => 0))), (a7, .inl (cyI, 16, .inl (fun _ => 0)))] := hD
  refine va_putF (D := D) (ci := 0) (v := .ref a7) (ty := .array .int) (C := RX0) (T := TX0) (N := 11) (ref := "MapSongs") hx hb hts wx0 tyX0 tyX0_ok nmX0 hown hK hP hD hS 0 rfl rfl 8 (by decide) (hts _ kf_RX0_29) (fun _ h9 => h9) rfl hnm rfl rfl rfl rfl (Nat.le_of_ble_eq_true rfl) dX0_init_57 (fun H locs hP hD hS => ?_)
  have hP : va_P D vwCl [(h0, .inr (0, [.ref a1, .ref a2, .ref a3, .ref a4, .ref a5, .int 0, .int 0, .ref a6, .ref a7, .null, .null])), (a1, .inl (cyI, 16, .inl (fun _ => 0))), (a2, .inl (cyI, 16, .inl (fun _ => 0))), (a3, .inl (cyI, 16, .inl (fun _ => 0))), (a4, .inl (cyZ, 16, .inl (fun _ => 0))), (a5, .inl (cyI, 10, .inl (fun _ => 0))), (a6, .inl (cyI, 16, .inl (fun _ => 0))), (a7, .inl (cyI, 16, .inl (fun _ => 0)))] H := hP
  have hD : va_D A [(h0, .inr (0, [.ref a1, .ref a2, .ref a3, .ref a4, .ref a5, .int 0, .int 0, .ref a6, .ref a7, .null, .null])), (a1, .inl (cyI, 16, .inl (fun _ => 0))), (a2, .inl (cyI, 16, .inl (fun _ => 0))), (a3, .inl (cyI, 16, .inl (fun _ => 0))), (a4, .inl (cyZ, 16, .inl (fun _ => 0))), (a5, .inl (cyI, 10, .inl (fun _ => 0))), (a6, .inl (cyI, 16, .inl (fun _ => 0))), (a7, .inl (cyI, 16, .inl (fun _ => 0)))] := hD
  refine lv_aload_n hx hb dX0_init_60 rfl (lv_at hl 0 rfl) ?_
  refine lv_bipush (v := (nI 16)) hx hb dX0_init_61 (by decide) ?_
  refine newI hF hK 0 rfl hP hD hS hA 16 (by decide) rfl (Nat.le_of_ble_eq_true rfl) (Nat.le_of_ble_eq_true rfl) dX0_init_63 (fun a8 H hP hD hS => ?_)
  have hP : va_P D vwCl [(h0, .inr (0, [.ref a1, .ref a2, .ref a3, .ref a4, .ref a5, .int 0, .int 0, .ref a6, .ref a7, .null, .null])), (a1, .inl (cyI, 16, .inl (fun _ => 0))), (a2, .inl (cyI, 16, .inl (fun _ => 0))), (a3, .inl (cyI, 16, .inl (fun _ => 0))), (a4, .inl (cyZ, 16, .inl (fun _ => 0))), (a5, .inl (cyI, 10, .inl (fun _ => 0))), (a6, .inl (cyI, 16, .inl (fun _ => 0))), (a7, .inl (cyI, 16, .inl (fun _ => 0))), (a8, .inl (cyI, 16, .inl (fun _ => 0)))] H := hP
  have hD : va_D A [(h0, .inr (0, [.ref a1, .ref a2, .ref a3, .ref a4, .ref a5, .int 0, .int 0, .ref a6, .ref a7, .null, .null])), (a1, .inl (cyI, 16, .inl (fun _ => 0))), (a2, .inl (cyI, 16, .inl (fun _ => 0))), (a3, .inl (cyI, 16, .inl (fun _ => 0))), (a4, .inl (cyZ, 16, .inl (fun _ => 0))), (a5, .inl (cyI, 10, .inl (fun _ => 0))), (a6, .inl (cyI, 16, .inl (fun _ => 0))), (a7, .inl (cyI, 16, .inl (fun _ => 0))), (a8, .inl (cyI, 16, .inl (fun _ => 0)))] := hD
  refine va_putF (D := D) (ci := 0) (v := .ref a8) (ty := .array .int) (C := RX0) (T := TX0) (N := 11) (ref := "MapSongs") hx hb hts wx0 tyX0 tyX0_ok nmX0 hown hK hP hD hS 0 rfl rfl 9 (by decide) (hts _ kf_RX0_32) (fun _ h9 => h9) rfl hnm rfl rfl rfl rfl (Nat.le_of_ble_eq_true rfl) dX0_init_65 (fun H locs hP hD hS => ?_)
  have hP : va_P D vwCl [(h0, .inr (0, [.ref a1, .ref a2, .ref a3, .ref a4, .ref a5, .int 0, .int 0, .ref a6, .ref a7, .ref a8, .null])), (a1, .inl (cyI, 16, .inl (fun _ => 0))), (a2, .inl (cyI, 16, .inl (fun _ => 0))), (a3, .inl (cyI, 16, .inl (fun _ => 0))), (a4, .inl (cyZ, 16, .inl (fun _ => 0))), (a5, .inl (cyI, 10, .inl (fun _ => 0))), (a6, .inl (cyI, 16, .inl (fun _ => 0))), (a7, .inl (cyI, 16, .inl (fun _ => 0))), (a8, .inl (cyI, 16, .inl (fun _ => 0)))] H := hP
  have hD : va_D A [(h0, .inr (0, [.ref a1, .ref a2, .ref a3, .ref a4, .ref a5, .int 0, .int 0, .ref a6, .ref a7, .ref a8, .null])), (a1, .inl (cyI, 16, .inl (fun _ => 0))), (a2, .inl (cyI, 16, .inl (fun _ => 0))), (a3, .inl (cyI, 16, .inl (fun _ => 0))), (a4, .inl (cyZ, 16, .inl (fun _ => 0))), (a5, .inl (cyI, 10, .inl (fun _ => 0))), (a6, .inl (cyI, 16, .inl (fun _ => 0))), (a7, .inl (cyI, 16, .inl (fun _ => 0))), (a8, .inl (cyI, 16, .inl (fun _ => 0)))] := hD
  refine lv_aload_n hx hb dX0_init_68 rfl (lv_at hl 0 rfl) ?_
  refine lv_bipush (v := (nI 16)) hx hb dX0_init_69 (by decide) ?_
  refine newI hF hK 0 rfl hP hD hS hA 16 (by decide) rfl (Nat.le_of_ble_eq_true rfl) (Nat.le_of_ble_eq_true rfl) dX0_init_71 (fun a9 H hP hD hS => ?_)
  have hP : va_P D vwCl [(h0, .inr (0, [.ref a1, .ref a2, .ref a3, .ref a4, .ref a5, .int 0, .int 0, .ref a6, .ref a7, .ref a8, .null])), (a1, .inl (cyI, 16, .inl (fun _ => 0))), (a2, .inl (cyI, 16, .inl (fun _ => 0))), (a3, .inl (cyI, 16, .inl (fun _ => 0))), (a4, .inl (cyZ, 16, .inl (fun _ => 0))), (a5, .inl (cyI, 10, .inl (fun _ => 0))), (a6, .inl (cyI, 16, .inl (fun _ => 0))), (a7, .inl (cyI, 16, .inl (fun _ => 0))), (a8, .inl (cyI, 16, .inl (fun _ => 0))), (a9, .inl (cyI, 16, .inl (fun _ => 0)))] H := hP
  have hD : va_D A [(h0, .inr (0, [.ref a1, .ref a2, .ref a3, .ref a4, .ref a5, .int 0, .int 0, .ref a6, .ref a7, .ref a8, .null])), (a1, .inl (cyI, 16, .inl (fun _ => 0))), (a2, .inl (cyI, 16, .inl (fun _ => 0))), (a3, .inl (cyI, 16, .inl (fun _ => 0))), (a4, .inl (cyZ, 16, .inl (fun _ => 0))), (a5, .inl (cyI, 10, .inl (fun _ => 0))), (a6, .inl (cyI, 16, .inl (fun _ => 0))), (a7, .inl (cyI, 16, .inl (fun _ => 0))), (a8, .inl (cyI, 16, .inl (fun _ => 0))), (a9, .inl (cyI, 16, .inl (fun _ => 0)))] := hD
  refine va_putF (D := D) (ci := 0) (v := .ref a9) (ty := .array .int) (C := RX0) (T := TX0) (N := 11) (ref := "MapSongs") hx hb hts wx0 tyX0 tyX0_ok nmX0 hown hK hP hD hS 0 rfl rfl 10 (by decide) (hts _ kf_RX0_35) (fun _ h9 => h9) rfl hnm rfl rfl rfl rfl (Nat.le_of_ble_eq_true rfl) dX0_init_73 (fun H locs hP hD hS => ?_)
  have hP : va_P D vwCl [(h0, .inr (0, [.ref a1, .ref a2, .ref a3, .ref a4, .ref a5, .int 0, .int 0, .ref a6, .ref a7, .ref a8, .ref a9])), (a1, .inl (cyI, 16, .inl (fun _ => 0))), (a2, .inl (cyI, 16, .inl (fun _ => 0))), (a3, .inl (cyI, 16, .inl (fun _ => 0))), (a4, .inl (cyZ, 16, .inl (fun _ => 0))), (a5, .inl (cyI, 10, .inl (fun _ => 0))), (a6, .inl (cyI, 16, .inl (fun _ => 0))), (a7, .inl (cyI, 16, .inl (fun _ => 0))), (a8, .inl (cyI, 16, .inl (fun _ => 0))), (a9, .inl (cyI, 16, .inl (fun _ => 0)))] H := hP
  have hD : va_D A [(h0, .inr (0, [.ref a1, .ref a2, .ref a3, .ref a4, .ref a5, .int 0, .int 0, .ref a6, .ref a7, .ref a8, .ref a9])), (a1, .inl (cyI, 16, .inl (fun _ => 0))), (a2, .inl (cyI, 16, .inl (fun _ => 0))), (a3, .inl (cyI, 16, .inl (fun _ => 0))), (a4, .inl (cyZ, 16, .inl (fun _ => 0))), (a5, .inl (cyI, 10, .inl (fun _ => 0))), (a6, .inl (cyI, 16, .inl (fun _ => 0))), (a7, .inl (cyI, 16, .inl (fun _ => 0))), (a8, .inl (cyI, 16, .inl (fun _ => 0))), (a9, .inl (cyI, 16, .inl (fun _ => 0)))] := hD
  obtain ⟨q, hq⟩ : ∃ q : Nat → Nat, q = fun i => ([h0, a1, a2, a3, a4, a5, a6, a7, a8, a9] : List Nat).getD i 0 := ⟨_, rfl⟩
  have hap := apOf (q := q) (n := 10) hD (by rw [hq]; rfl)
  have hX : C0 D cyI cyZ q 0 0 (fun _ _ => 0) (fun _ => false) (fun _ _ => 0) s H := ⟨by rw [hq]; exact hP, hK, hap.1⟩
  have hq0 : q 0 = h0 := by rw [hq]; rfl
  have hl : lv_has ls 2 [(0, .ref (q 0))] := by rw [hq0]; exact hl
  refine lv_aload_n hx hb dX0_init_76 rfl (lv_at hl 0 rfl) ?_
  refine lv_iconst (v := 2) hx hb dX0_init_77 (by decide) ?_
  refine C0.put_st hF hX hS kf_RX0_38 dX0_init_78 (fun H locs hX hS => ?_) (hAq := hap.2)
  refine lv_iconst (v := 0) hx hb dX0_init_81 (by decide) ?_
  refine lv_istore_n (lv' := [(1, .int 0), (0, .ref (q 0))]) hx hb dX0_init_82 rfl hl (by decide) rfl (fun ls hl => ?_)
  refine lpH2 (σ := Nat) (τ := Nat → Nat → Int32) (fun j v ls H locs => (j ≤ 10 ∧ v 0 = (fun _ => 0) ∧ v 1 = (fun _ => 0) ∧ v 2 = (fun _ => 0) ∧ ∀ k, k < j → v 3 k = nI k) ∧ C0 D cyI cyZ q 0 2 v (fun _ => false) (fun _ _ => 0) s H ∧ va_S A s.heap H locs ∧ lv_has ls 2 [(0, .ref (q 0)), (1, .int (nI j))]) (fun j _ => 10 - j) (fun j v ls H locs hI ih => ?_) 0 (fun _ _ => 0) ⟨⟨Nat.zero_le _, rfl, rfl, rfl, fun k h => absurd h (Nat.not_lt_zero _)⟩, hX, hS, lv_sub hl [1, 0] rfl⟩
  obtain ⟨hj, hX, hS, hl⟩ := hI
  refine lv_iload_n hx hb dX0_init_83 rfl (lv_at hl 1 rfl) ?_
  refine lv_bipush (v := 10) hx hb dX0_init_84 (by decide) ?_
  refine lv_icmp_ge (tgt := 102) hx hb dX0_init_86 (by decide) (fun c86 => ?_) (fun c86 => ?_)
  · have c86n : 10 ≤ j := (nI_leI (a := 10) (b := j) (by omega) (by omega)).mp c86
    exact W.vret hx hb hr (fun t ht hW => ⟨⟨(q, v), rfl, ⟨hq0, hap.2, hj.2.1, hj.2.2.1, hj.2.2.2.1, fun k hk => hj.2.2.2.2 k (by omega)⟩, wEnd C0.mv hX ht hW⟩, hS.F ht⟩) hS.2.2 dX0_init_102
  · have c86n : ¬ 10 ≤ j := fun h9 => c86 ((nI_leI (a := 10) (b := j) (by omega) (by omega)).mpr h9)
    refine lv_aload_n hx hb dX0_init_89 rfl (lv_at hl 0 rfl) ?_
    refine C0.get hF hX 4 (by decide) rfl rfl kf_RX0_23 dX0_init_90 ?_
    refine lv_iload_n hx hb dX0_init_93 rfl (lv_at hl 1 rfl) ?_
    refine lv_iload_n hx hb dX0_init_94 rfl (lv_at hl 1 rfl) ?_
    refine C0.st_v3 hF hX hS j (by omega) rfl dX0_init_95 (fun H locs hX hS => ?_) (hAq := hap.2)
    refine lv_iinc (v := (nI (j + 1))) (lv' := [(1, .int (nI (j + 1))), (0, .ref (q 0))]) hx hb dX0_init_96 hl (k := 1) rfl (nI_1 j) (by decide) rfl (fun ls hl => ?_)
    refine lv_goto (tgt := 83) hx hb dX0_init_99 (by decide) ?_
    exact ih (j + 1) (va_up v 3 (upd (v 3) j (nI j))) ls H locs (by omega) ⟨⟨by omega, hj.2.1, hj.2.2.1, hj.2.2.2.1, wd_up hj.2.2.2.2⟩, hX, hS, lv_sub hl [1, 0] rfl⟩
