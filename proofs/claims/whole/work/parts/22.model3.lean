section P22
variable {l : Launch} {D : va_G} {cyI cyZ : ClassId} {q : Nat → Nat} {N K : Nat} {n st th md : Int32} {v w : Nat → Nat → Int32} {mk : Nat → Bool}
variable {t1 : Nat}
set_option maxHeartbeats 4000000 in
set_option maxRecDepth 100000 in
theorem mX1_no (x : Int32) : Met l yX1_no (wm yX1_no cX1_no 2 (some .int)) ({ frames := 0, cells := 0, slots := 0, locals := 0 } : Room) (va_Pc [.ref (q 0), .int x] (fun U => M0 D cyI cyZ q th n st md v w U U.heap)) (va_Qi (fun (r : Int32) (u : Nat → Nat → Int32) => r = 0) (fun u U => (fun (u : Nat → Nat → Int32) => (M0 D cyI cyZ q x n st md v u : State → Heap → Prop)) u U U.heap) (own 8 q)) 0 0 (own 8 q) := by
  refine mt (by decide) (Nat.le_of_ble_eq_true rfl) ?_
  intro p ev s m below meth c ls hF hr hlocks hnm hX hl
  have hF : CallFix p m c cX1_no 2 s _ wA RX1 := hF
  obtain ⟨hx, hb, hml, hown, hts⟩ := id hF
  have hX : M0 D cyI cyZ q th n st md v w s s.heap := hX
  have hl : lv_has ls 2 [(0, .ref (q 0)), (1, .int x)] := hl
  have hS : va_S (own 8 q) s.heap s.heap [] := va_S.rf
  refine lv_aload_n hx hb dX1_no_0 rfl (lv_at hl 0 rfl) ?_
  refine lv_iload_n hx hb dX1_no_1 rfl (lv_at hl 1 rfl) ?_
  refine M0.put_th hF hX hS kf_RX1_35 dX1_no_2 (fun H locs hX hS => ?_)
  refine lv_iconst (v := 0) hx hb dX1_no_5 (by decide) ?_
  exact W.iret hx hb hr (fun t ht hW => ⟨⟨_, w, rfl, rfl, wEnd M0.mv hX ht hW⟩, hS.F ht⟩) hS.2.2 dX1_no_6
set_option maxHeartbeats 4000000 in
set_option maxRecDepth 100000 in
theorem mX1_isNot (x : Int32) : Met l yX1_isNot (wm yX1_isNot cX1_isNot 2 (some .boolean)) ({ frames := 0, cells := 0, slots := 0, locals := 0 } : Room) (va_Pc [.ref (q 0), .int x] (fun U => M0 D cyI cyZ q th n st md v w U U.heap)) (va_Qi (fun (r : Int32) (u : Nat → Nat → Int32) => r = 0) (fun u U => (fun (u : Nat → Nat → Int32) => (M0 D cyI cyZ q x n st md v u : State → Heap → Prop)) u U U.heap) (own 8 q)) 0 0 (own 8 q) := by
  refine mt (by decide) (Nat.le_of_ble_eq_true rfl) ?_
  intro p ev s m below meth c ls hF hr hlocks hnm hX hl
  have hF : CallFix p m c cX1_isNot 2 s _ wA RX1 := hF
  obtain ⟨hx, hb, hml, hown, hts⟩ := id hF
  have hX : M0 D cyI cyZ q th n st md v w s s.heap := hX
  have hl : lv_has ls 2 [(0, .ref (q 0)), (1, .int x)] := hl
  have hS : va_S (own 8 q) s.heap s.heap [] := va_S.rf
  refine lv_aload_n hx hb dX1_isNot_0 rfl (lv_at hl 0 rfl) ?_
  refine lv_iload_n hx hb dX1_isNot_1 rfl (lv_at hl 1 rfl) ?_
  refine M0.put_th hF hX hS kf_RX1_35 dX1_isNot_2 (fun H locs hX hS => ?_)
  refine lv_iconst (v := 0) hx hb dX1_isNot_5 (by decide) ?_
  exact W.zret hx hb hr rfl (fun t ht hW => ⟨⟨_, w, rfl, rfl, wEnd M0.mv hX ht hW⟩, hS.F ht⟩) hS.2.2 dX1_isNot_6
set_option maxHeartbeats 4000000 in
set_option maxRecDepth 100000 in
theorem mX1_ok (x : Int32) : Met l yX1_ok (wm yX1_ok cX1_ok 2 (some .int)) ({ frames := 0, cells := 0, slots := 0, locals := 0 } : Room) (va_Pc [.ref (q 0), .int x] (fun U => M0 D cyI cyZ q th n st md v w U U.heap)) (va_Qi (fun (r : Int32) (u : Nat → Nat → Int32) => r = x) (fun u U => (fun (u : Nat → Nat → Int32) => (M0 D cyI cyZ q 0 n st md v u : State → Heap → Prop)) u U U.heap) (own 8 q)) 0 0 (own 8 q) := by
  refine mt (by decide) (Nat.le_of_ble_eq_true rfl) ?_
  intro p ev s m below meth c ls hF hr hlocks hnm hX hl
  have hF : CallFix p m c cX1_ok 2 s _ wA RX1 := hF
  obtain ⟨hx, hb, hml, hown, hts⟩ := id hF
  have hX : M0 D cyI cyZ q th n st md v w s s.heap := hX
  have hl : lv_has ls 2 [(0, .ref (q 0)), (1, .int x)] := hl
  have hS : va_S (own 8 q) s.heap s.heap [] := va_S.rf
  refine lv_aload_n hx hb dX1_ok_0 rfl (lv_at hl 0 rfl) ?_
  refine lv_iconst (v := 0) hx hb dX1_ok_1 (by decide) ?_
  refine M0.put_th hF hX hS kf_RX1_35 dX1_ok_2 (fun H locs hX hS => ?_)
  refine lv_iload_n hx hb dX1_ok_5 rfl (lv_at hl 1 rfl) ?_
  exact W.iret hx hb hr (fun t ht hW => ⟨⟨_, w, rfl, rfl, wEnd M0.mv hX ht hW⟩, hS.F ht⟩) hS.2.2 dX1_ok_6
set_option maxHeartbeats 4000000 in
set_option maxRecDepth 100000 in
theorem mX1_legs  : Met l yX1_legs (wm yX1_legs cX1_legs 1 (some .int)) ({ frames := 1, cells := 0, slots := 0, locals := 21 } : Room) (va_Pc [.ref (q 0)] (fun U => M0 D cyI cyZ q th (nI N) st md v w U U.heap)) (va_Qi (fun (r : Int32) (u : Nat → Nat → Int32) => r = nI N) (fun u U => (fun (u : Nat → Nat → Int32) => (M0 D cyI cyZ q 0 (nI N) st md v u : State → Heap → Prop)) u U U.heap) (own 8 q)) 0 0 (own 8 q) := by
  refine mt (by decide) (Nat.le_of_ble_eq_true rfl) ?_
  intro p ev s m below meth c ls hF hr hlocks hnm hX hl
  have hF : CallFix p m c cX1_legs 1 s _ wA RX1 := hF
  obtain ⟨hx, hb, hml, hown, hts⟩ := id hF
  have hX : M0 D cyI cyZ q th (nI N) st md v w s s.heap := hX
  have hl : lv_has ls 1 [(0, .ref (q 0))] := hl
  have hS : va_S (own 8 q) s.heap s.heap [] := va_S.rf
  refine lv_aload_n hx hb dX1_legs_0 rfl (lv_at hl 0 rfl) ?_
  refine lv_aload_n hx hb dX1_legs_1 rfl (lv_at hl 0 rfl) ?_
  refine M0.get hF hX 1 (by decide) rfl rfl kf_RX1_38 dX1_legs_2 ?_
  refine wVi (mc := 0) (ms := 0) (As := [.int (nI N)]) (rest := []) hF (mX1_ok (nI N)) M0.mv (fun _ => M0.mv) hX (M0.rc hX) jyX1_ok kl_RX1_118 ⟨rfl, rfl⟩ ⟨Nat.le_of_ble_eq_true rfl, Nat.le_of_ble_eq_true rfl⟩ rfl hl.1 rfl (Nat.le_of_ble_eq_true rfl) ⟨Nat.zero_le _, Nat.zero_le _⟩ hS (fun _ _ h => h) (fun _ h => h) dX1_legs_5 (fun r9 w1 H locs hp hX hz hk hS => ?_)
  have hr9 := hp
  subst hr9
  exact W.iret hx hb hr (fun t ht hW => ⟨⟨_, w1, rfl, rfl, wEnd M0.mv hX ht hW⟩, hS.F ht⟩) hS.2.2 dX1_legs_8
set_option maxHeartbeats 4000000 in
set_option maxRecDepth 100000 in
theorem mX1_step  : Met l yX1_step (wm yX1_step cX1_step 1 (some .int)) ({ frames := 1, cells := 0, slots := 0, locals := 21 } : Room) (va_Pc [.ref (q 0)] (fun U => M0 D cyI cyZ q th (nI N) st md v w U U.heap)) (va_Qi (fun (r : Int32) (u : Nat → Nat → Int32) => r = st) (fun u U => (fun (u : Nat → Nat → Int32) => (M0 D cyI cyZ q 0 (nI N) st md v u : State → Heap → Prop)) u U U.heap) (own 8 q)) 0 0 (own 8 q) := by
  refine mt (by decide) (Nat.le_of_ble_eq_true rfl) ?_
  intro p ev s m below meth c ls hF hr hlocks hnm hX hl
  have hF : CallFix p m c cX1_step 1 s _ wA RX1 := hF
  obtain ⟨hx, hb, hml, hown, hts⟩ := id hF
  have hX : M0 D cyI cyZ q th (nI N) st md v w s s.heap := hX
  have hl : lv_has ls 1 [(0, .ref (q 0))] := hl
  have hS : va_S (own 8 q) s.heap s.heap [] := va_S.rf
  refine lv_aload_n hx hb dX1_step_0 rfl (lv_at hl 0 rfl) ?_
  refine lv_aload_n hx hb dX1_step_1 rfl (lv_at hl 0 rfl) ?_
  refine M0.get hF hX 2 (by decide) rfl rfl kf_RX1_7 dX1_step_2 ?_
  refine wVi (mc := 0) (ms := 0) (As := [.int st]) (rest := []) hF (mX1_ok st) M0.mv (fun _ => M0.mv) hX (M0.rc hX) jyX1_ok kl_RX1_118 ⟨rfl, rfl⟩ ⟨Nat.le_of_ble_eq_true rfl, Nat.le_of_ble_eq_true rfl⟩ rfl hl.1 rfl (Nat.le_of_ble_eq_true rfl) ⟨Nat.zero_le _, Nat.zero_le _⟩ hS (fun _ _ h => h) (fun _ h => h) dX1_step_5 (fun r9 w1 H locs hp hX hz hk hS => ?_)
  have hr9 := hp
  rw [hr9]
  exact W.iret hx hb hr (fun t ht hW => ⟨⟨_, w1, rfl, rfl, wEnd M0.mv hX ht hW⟩, hS.F ht⟩) hS.2.2 dX1_step_8
set_option maxHeartbeats 4000000 in
set_option maxRecDepth 100000 in
theorem mX1_endX (hok : Ok N st v) : Met l yX1_endX (wm yX1_endX cX1_endX 1 (some .int)) ({ frames := 3, cells := 0, slots := 0, locals := 65 } : Room) (va_Pc [.ref (q 0)] (fun U => (fun U H => M0 D cyI cyZ q th (nI N) st md v w U H ∧ (SM1 t1 (own 8 q)) U H : State → Heap → Prop) U U.heap)) (va_Qi (fun (r : Int32) (u : Nat → Nat → Int32) => r = px (v 0) (v 1) N) (fun u U => (fun (u : Nat → Nat → Int32) => (M0 D cyI cyZ q 0 (nI N) st md v u : State → Heap → Prop)) u U U.heap) (own 8 q)) 0 0 (own 8 q) := by
  refine mt (by decide) (Nat.le_of_ble_eq_true rfl) ?_
  intro p ev s m below meth c ls hF hr hlocks hnm hX hl
  have hF : CallFix p m c cX1_endX 1 s _ wA RX1 := hF
  obtain ⟨hx, hb, hml, hown, hts⟩ := id hF
  have hZ0 : (SM1 t1 (own 8 q)) s s.heap := hX.2
  have hX : M0 D cyI cyZ q th (nI N) st md v w s s.heap := hX.1
  have hl : lv_has ls 1 [(0, .ref (q 0))] := hl
  have hS : va_S (own 8 q) s.heap s.heap [] := va_S.rf
  have hN := hok.1
  refine lv_aload_n hx hb dX1_endX_0 rfl (lv_at hl 0 rfl) ?_
  refine lv_aload_n hx hb dX1_endX_1 rfl (lv_at hl 0 rfl) ?_
  refine lv_aload_n hx hb dX1_endX_2 rfl (lv_at hl 0 rfl) ?_
  refine M0.get hF hX 9 (by decide) rfl rfl kf_RX1_29 dX1_endX_3 ?_
  refine wVi (mc := 0) (ms := 0) (As := [.ref (q 6)]) (rest := [.ref (q 0)]) hF (mX1_endOf_x hok) (Mv.and M0.mv SM1.mv) (fun _ => M0.mv) ⟨hX, SM1.kept hZ0 hS.2.1⟩ (M0.rc hX) jyX1_endOf kl_RX1_121 ⟨rfl, rfl⟩ ⟨Nat.le_of_ble_eq_true rfl, Nat.le_of_ble_eq_true rfl⟩ rfl hl.1 rfl (Nat.le_of_ble_eq_true rfl) ⟨Nat.zero_le _, Nat.zero_le _⟩ hS (fun _ _ h => h) (fun _ h => h) dX1_endX_6 (fun r9 w1 H locs hp hX hz hk hS => ?_)
  have hr9 := hp
  subst hr9
  refine wVi (mc := 0) (ms := 0) (As := [.int (px (v 0) (v 1) N)]) (rest := []) hF (mX1_ok (px (v 0) (v 1) N)) M0.mv (fun _ => M0.mv) hX (M0.rc hX) jyX1_ok kl_RX1_118 ⟨rfl, rfl⟩ ⟨Nat.le_of_ble_eq_true rfl, Nat.le_of_ble_eq_true rfl⟩ rfl hl.1 rfl (Nat.le_of_ble_eq_true rfl) ⟨Nat.zero_le _, Nat.zero_le _⟩ hS (fun _ _ h => h) (fun _ h => h) dX1_endX_9 (fun r9 w2 H locs hp hX hz hk hS => ?_)
  have hr9 := hp
  subst hr9
  exact W.iret hx hb hr (fun t ht hW => ⟨⟨_, w2, rfl, rfl, wEnd M0.mv hX ht hW⟩, hS.F ht⟩) hS.2.2 dX1_endX_12
set_option maxHeartbeats 4000000 in
set_option maxRecDepth 100000 in
theorem mX1_endY (hok : Ok N st v) : Met l yX1_endY (wm yX1_endY cX1_endY 1 (some .int)) ({ frames := 3, cells := 0, slots := 0, locals := 65 } : Room) (va_Pc [.ref (q 0)] (fun U => (fun U H => M0 D cyI cyZ q th (nI N) st md v w U H ∧ (SM1 t1 (own 8 q)) U H : State → Heap → Prop) U U.heap)) (va_Qi (fun (r : Int32) (u : Nat → Nat → Int32) => r = py (v 0) (v 1) N) (fun u U => (fun (u : Nat → Nat → Int32) => (M0 D cyI cyZ q 0 (nI N) st md v u : State → Heap → Prop)) u U U.heap) (own 8 q)) 0 0 (own 8 q) := by
  refine mt (by decide) (Nat.le_of_ble_eq_true rfl) ?_
  intro p ev s m below meth c ls hF hr hlocks hnm hX hl
  have hF : CallFix p m c cX1_endY 1 s _ wA RX1 := hF
  obtain ⟨hx, hb, hml, hown, hts⟩ := id hF
  have hZ0 : (SM1 t1 (own 8 q)) s s.heap := hX.2
  have hX : M0 D cyI cyZ q th (nI N) st md v w s s.heap := hX.1
  have hl : lv_has ls 1 [(0, .ref (q 0))] := hl
  have hS : va_S (own 8 q) s.heap s.heap [] := va_S.rf
  have hN := hok.1
  refine lv_aload_n hx hb dX1_endY_0 rfl (lv_at hl 0 rfl) ?_
  refine lv_aload_n hx hb dX1_endY_1 rfl (lv_at hl 0 rfl) ?_
  refine lv_aload_n hx hb dX1_endY_2 rfl (lv_at hl 0 rfl) ?_
  refine M0.get hF hX 10 (by decide) rfl rfl kf_RX1_32 dX1_endY_3 ?_
  refine wVi (mc := 0) (ms := 0) (As := [.ref (q 7)]) (rest := [.ref (q 0)]) hF (mX1_endOf_y hok) (Mv.and M0.mv SM1.mv) (fun _ => M0.mv) ⟨hX, SM1.kept hZ0 hS.2.1⟩ (M0.rc hX) jyX1_endOf kl_RX1_121 ⟨rfl, rfl⟩ ⟨Nat.le_of_ble_eq_true rfl, Nat.le_of_ble_eq_true rfl⟩ rfl hl.1 rfl (Nat.le_of_ble_eq_true rfl) ⟨Nat.zero_le _, Nat.zero_le _⟩ hS (fun _ _ h => h) (fun _ h => h) dX1_endY_6 (fun r9 w1 H locs hp hX hz hk hS => ?_)
  have hr9 := hp
  subst hr9
  refine wVi (mc := 0) (ms := 0) (As := [.int (py (v 0) (v 1) N)]) (rest := []) hF (mX1_ok (py (v 0) (v 1) N)) M0.mv (fun _ => M0.mv) hX (M0.rc hX) jyX1_ok kl_RX1_118 ⟨rfl, rfl⟩ ⟨Nat.le_of_ble_eq_true rfl, Nat.le_of_ble_eq_true rfl⟩ rfl hl.1 rfl (Nat.le_of_ble_eq_true rfl) ⟨Nat.zero_le _, Nat.zero_le _⟩ hS (fun _ _ h => h) (fun _ h => h) dX1_endY_9 (fun r9 w2 H locs hp hX hz hk hS => ?_)
  have hr9 := hp
  subst hr9
  exact W.iret hx hb hr (fun t ht hW => ⟨⟨_, w2, rfl, rfl, wEnd M0.mv hX ht hW⟩, hS.F ht⟩) hS.2.2 dX1_endY_12
set_option maxHeartbeats 4000000 in
set_option maxRecDepth 100000 in
theorem mX1_stepsHome (hok : Ok N st v) : Met l yX1_stepsHome (wm yX1_stepsHome cX1_stepsHome 1 (some .int)) ({ frames := 3, cells := 0, slots := 0, locals := 64 } : Room) (va_Pc [.ref (q 0)] (fun U => (fun U H => M0 D cyI cyZ q th (nI N) st md v w U H ∧ (SM1 t1 (own 8 q)) U H : State → Heap → Prop) U U.heap)) (va_Qi (fun (r : Int32) (u : Nat → Nat → Int32) => r = mx (ab (px (v 0) (v 1) N)) (ab (py (v 0) (v 1) N))) (fun u U => (fun (u : Nat → Nat → Int32) => (M0 D cyI cyZ q 0 (nI N) st md v u : State → Heap → Prop)) u U U.heap) (own 8 q)) 0 0 (own 8 q) := by
  refine mt (by decide) (Nat.le_of_ble_eq_true rfl) ?_
  intro p ev s m below meth c ls hF hr hlocks hnm hX hl
  have hF : CallFix p m c cX1_stepsHome 1 s _ wA RX1 := hF
  obtain ⟨hx, hb, hml, hown, hts⟩ := id hF
  have hZ0 : (SM1 t1 (own 8 q)) s s.heap := hX.2
  have hX : M0 D cyI cyZ q th (nI N) st md v w s s.heap := hX.1
  have hl : lv_has ls 1 [(0, .ref (q 0))] := hl
  have hS : va_S (own 8 q) s.heap s.heap [] := va_S.rf
  have hN := hok.1
  refine lv_aload_n hx hb dX1_stepsHome_0 rfl (lv_at hl 0 rfl) ?_
  refine lv_aload_n hx hb dX1_stepsHome_1 rfl (lv_at hl 0 rfl) ?_
  refine wVi (mc := 0) (ms := 0) (As := []) (rest := [.ref (q 0)]) hF (mX1_home hok) (Mv.and M0.mv SM1.mv) (fun _ => M0.mv) ⟨hX, SM1.kept hZ0 hS.2.1⟩ (M0.rc hX) jyX1_home kl_RX1_125 ⟨rfl, rfl⟩ ⟨Nat.le_of_ble_eq_true rfl, Nat.le_of_ble_eq_true rfl⟩ rfl hl.1 rfl (Nat.le_of_ble_eq_true rfl) ⟨Nat.zero_le _, Nat.zero_le _⟩ hS (fun _ _ h => h) (fun _ h => h) dX1_stepsHome_2 (fun r9 w1 H locs hp hX hz hk hS => ?_)
  have hr9 := hp
  subst hr9
  refine wVi (mc := 0) (ms := 0) (As := [.int (mx (ab (px (v 0) (v 1) N)) (ab (py (v 0) (v 1) N)))]) (rest := []) hF (mX1_ok (mx (ab (px (v 0) (v 1) N)) (ab (py (v 0) (v 1) N)))) M0.mv (fun _ => M0.mv) hX (M0.rc hX) jyX1_ok kl_RX1_118 ⟨rfl, rfl⟩ ⟨Nat.le_of_ble_eq_true rfl, Nat.le_of_ble_eq_true rfl⟩ rfl hl.1 rfl (Nat.le_of_ble_eq_true rfl) ⟨Nat.zero_le _, Nat.zero_le _⟩ hS (fun _ _ h => h) (fun _ h => h) dX1_stepsHome_5 (fun r9 w2 H locs hp hX hz hk hS => ?_)
  have hr9 := hp
  subst hr9
  exact W.iret hx hb hr (fun t ht hW => ⟨⟨_, w2, rfl, rfl, wEnd M0.mv hX ht hW⟩, hS.F ht⟩) hS.2.2 dX1_stepsHome_8
set_option maxHeartbeats 4000000 in
set_option maxRecDepth 100000 in
theorem mX1_returns (hok : Ok N st v) : Met l yX1_returns (wm yX1_returns cX1_returns 1 (some .int)) ({ frames := 3, cells := 0, slots := 0, locals := 68 } : Room) (va_Pc [.ref (q 0)] (fun U => (fun U H => M0 D cyI cyZ q th (nI N) st md v w U H ∧ (SM1 t1 (own 8 q)) U H : State → Heap → Prop) U U.heap)) (va_Qi (fun (r : Int32) (u : Nat → Nat → Int32) => r = rtn v N) (fun u U => (fun (u : Nat → Nat → Int32) => (M0 D cyI cyZ q 0 (nI N) st md v u : State → Heap → Prop)) u U U.heap) (own 8 q)) 0 0 (own 8 q) := by
  refine mt (by decide) (Nat.le_of_ble_eq_true rfl) ?_
  intro p ev s m below meth c ls hF hr hlocks hnm hX hl
  have hF : CallFix p m c cX1_returns 1 s _ wA RX1 := hF
  obtain ⟨hx, hb, hml, hown, hts⟩ := id hF
  have hZ0 : (SM1 t1 (own 8 q)) s s.heap := hX.2
  have hX : M0 D cyI cyZ q th (nI N) st md v w s s.heap := hX.1
  have hl : lv_has ls 1 [(0, .ref (q 0))] := hl
  have hS : va_S (own 8 q) s.heap s.heap [] := va_S.rf
  have hN := hok.1
  refine lv_aload_n hx hb dX1_returns_0 rfl (lv_at hl 0 rfl) ?_
  refine lv_aload_n hx hb dX1_returns_1 rfl (lv_at hl 0 rfl) ?_
  refine wVi (mc := 0) (ms := 0) (As := []) (rest := [.ref (q 0)]) hF (mX1_back hok) (Mv.and M0.mv SM1.mv) (fun _ => M0.mv) ⟨hX, SM1.kept hZ0 hS.2.1⟩ (M0.rc hX) jyX1_back kl_RX1_129 ⟨rfl, rfl⟩ ⟨Nat.le_of_ble_eq_true rfl, Nat.le_of_ble_eq_true rfl⟩ rfl hl.1 rfl (Nat.le_of_ble_eq_true rfl) ⟨Nat.zero_le _, Nat.zero_le _⟩ hS (fun _ _ h => h) (fun _ h => h) dX1_returns_2 (fun r9 w1 H locs hp hX hz hk hS => ?_)
  have hr9 := hp
  subst hr9
  refine wVi (mc := 0) (ms := 0) (As := [.int (rtn v N)]) (rest := []) hF (mX1_ok (rtn v N)) M0.mv (fun _ => M0.mv) hX (M0.rc hX) jyX1_ok kl_RX1_118 ⟨rfl, rfl⟩ ⟨Nat.le_of_ble_eq_true rfl, Nat.le_of_ble_eq_true rfl⟩ rfl hl.1 rfl (Nat.le_of_ble_eq_true rfl) ⟨Nat.zero_le _, Nat.zero_le _⟩ hS (fun _ _ h => h) (fun _ h => h) dX1_returns_5 (fun r9 w2 H locs hp hX hz hk hS => ?_)
  have hr9 := hp
  subst hr9
  exact W.iret hx hb hr (fun t ht hW => ⟨⟨_, w2, rfl, rfl, wEnd M0.mv hX ht hW⟩, hS.F ht⟩) hS.2.2 dX1_returns_8
set_option maxHeartbeats 4000000 in
set_option maxRecDepth 100000 in
theorem mX1_beats (hok : Ok N st v) : Met l yX1_beats (wm yX1_beats cX1_beats 1 (some .int)) ({ frames := 1, cells := 0, slots := 0, locals := 22 } : Room) (va_Pc [.ref (q 0)] (fun U => M0 D cyI cyZ q th (nI N) st md v w U U.heap)) (va_Qi (fun (r : Int32) (u : Nat → Nat → Int32) => r = sumI (v 1) N) (fun u U => (fun (u : Nat → Nat → Int32) => (M0 D cyI cyZ q 0 (nI N) st md v u : State → Heap → Prop)) u U U.heap) (own 8 q)) 0 0 (own 8 q) := by
  refine mt (by decide) (Nat.le_of_ble_eq_true rfl) ?_
  intro p ev s m below meth c ls hF hr hlocks hnm hX hl
  have hF : CallFix p m c cX1_beats 1 s _ wA RX1 := hF
  obtain ⟨hx, hb, hml, hown, hts⟩ := id hF
  have hX : M0 D cyI cyZ q th (nI N) st md v w s s.heap := hX
  have hl : lv_has ls 1 [(0, .ref (q 0))] := hl
  have hS : va_S (own 8 q) s.heap s.heap [] := va_S.rf
  have hN := hok.1
  refine lv_aload_n hx hb dX1_beats_0 rfl (lv_at hl 0 rfl) ?_
  refine lv_aload_n hx hb dX1_beats_1 rfl (lv_at hl 0 rfl) ?_
  refine cVi (As := []) (rest := [.ref (q 0)]) hF (mX1_allBeats hok) M0.mv hX (M0.rc hX) jyX1_allBeats kl_RX1_138 ⟨rfl, rfl⟩ ⟨Nat.le_of_ble_eq_true rfl, Nat.le_of_ble_eq_true rfl⟩ rfl hl.1 rfl (Nat.le_of_ble_eq_true rfl) ⟨Nat.zero_le _, Nat.zero_le _⟩ dX1_beats_2 (fun r hr9 => ?_)
  subst hr9
  refine wVi (mc := 0) (ms := 0) (As := [.int (sumI (v 1) N)]) (rest := []) hF (mX1_ok (sumI (v 1) N)) M0.mv (fun _ => M0.mv) hX (M0.rc hX) jyX1_ok kl_RX1_118 ⟨rfl, rfl⟩ ⟨Nat.le_of_ble_eq_true rfl, Nat.le_of_ble_eq_true rfl⟩ rfl hl.1 rfl (Nat.le_of_ble_eq_true rfl) ⟨Nat.zero_le _, Nat.zero_le _⟩ hS (fun _ _ h => h) (fun _ h => h) dX1_beats_5 (fun r9 w1 H locs hp hX hz hk hS => ?_)
  have hr9 := hp
  subst hr9
  exact W.iret hx hb hr (fun t ht hW => ⟨⟨_, w1, rfl, rfl, wEnd M0.mv hX ht hW⟩, hS.F ht⟩) hS.2.2 dX1_beats_8
set_option maxHeartbeats 4000000 in
set_option maxRecDepth 100000 in
theorem mX1_folded (hok : Ok N st v) : Met l yX1_folded (wm yX1_folded cX1_folded 1 (some .int)) ({ frames := 5, cells := 0, slots := 0, locals := 108 } : Room) (va_Pc [.ref (q 0)] (fun U => M0 D cyI cyZ q th (nI N) st md v w U U.heap)) (va_Qi (fun (r : Int32) (u : Nat → Nat → Int32) => r = ctB (fold1 v st) N) (fun u U => (fun (u : Nat → Nat → Int32) => (M0 D cyI cyZ q 0 (nI N) st md v u : State → Heap → Prop)) u U U.heap) (own 8 q)) 0 0 (own 8 q) := by
  refine mt (by decide) (Nat.le_of_ble_eq_true rfl) ?_
  intro p ev s m below meth c ls hF hr hlocks hnm hX hl
  have hF : CallFix p m c cX1_folded 1 s _ wA RX1 := hF
  obtain ⟨hx, hb, hml, hown, hts⟩ := id hF
  have hX : M0 D cyI cyZ q th (nI N) st md v w s s.heap := hX
  have hl : lv_has ls 1 [(0, .ref (q 0))] := hl
  have hS : va_S (own 8 q) s.heap s.heap [] := va_S.rf
  have hN := hok.1
  refine lv_aload_n hx hb dX1_folded_0 rfl (lv_at hl 0 rfl) ?_
  refine lv_aload_n hx hb dX1_folded_1 rfl (lv_at hl 0 rfl) ?_
  refine wVi (mc := 0) (ms := 0) (As := []) (rest := [.ref (q 0)]) hF (mX1_foldedNow hok) M0.mv (fun _ => M0.mv) hX (M0.rc hX) jyX1_foldedNow kl_RX1_141 ⟨rfl, rfl⟩ ⟨Nat.le_of_ble_eq_true rfl, Nat.le_of_ble_eq_true rfl⟩ rfl hl.1 rfl (Nat.le_of_ble_eq_true rfl) ⟨Nat.zero_le _, Nat.zero_le _⟩ hS (fun _ _ h => h) (fun _ h => h) dX1_folded_2 (fun r9 w1 H locs hp hX hz hk hS => ?_)
  have hr9 := hp
  subst hr9
  refine wVi (mc := 0) (ms := 0) (As := [.int (ctB (fold1 v st) N)]) (rest := []) hF (mX1_ok (ctB (fold1 v st) N)) M0.mv (fun _ => M0.mv) hX (M0.rc hX) jyX1_ok kl_RX1_118 ⟨rfl, rfl⟩ ⟨Nat.le_of_ble_eq_true rfl, Nat.le_of_ble_eq_true rfl⟩ rfl hl.1 rfl (Nat.le_of_ble_eq_true rfl) ⟨Nat.zero_le _, Nat.zero_le _⟩ hS (fun _ _ h => h) (fun _ h => h) dX1_folded_5 (fun r9 w2 H locs hp hX hz hk hS => ?_)
  have hr9 := hp
  subst hr9
  exact W.iret hx hb hr (fun t ht hW => ⟨⟨_, w2, rfl, rfl, wEnd M0.mv hX ht hW⟩, hS.F ht⟩) hS.2.2 dX1_folded_8
set_option maxHeartbeats 4000000 in
set_option maxRecDepth 100000 in
theorem mX1_range (hok : Ok N st v) : Met l yX1_range (wm yX1_range cX1_range 1 (some .int)) ({ frames := 4, cells := 0, slots := 0, locals := 88 } : Room) (va_Pc [.ref (q 0)] (fun U => M0 D cyI cyZ q th (nI N) st md v w U U.heap)) (va_Qi (fun (r : Int32) (u : Nat → Nat → Int32) => r = rng v st N) (fun u U => (fun (u : Nat → Nat → Int32) => (M0 D cyI cyZ q 0 (nI N) st md v u : State → Heap → Prop)) u U U.heap) (own 8 q)) 0 0 (own 8 q) := by
  refine mt (by decide) (Nat.le_of_ble_eq_true rfl) ?_
  intro p ev s m below meth c ls hF hr hlocks hnm hX hl
  have hF : CallFix p m c cX1_range 1 s _ wA RX1 := hF
  obtain ⟨hx, hb, hml, hown, hts⟩ := id hF
  have hX : M0 D cyI cyZ q th (nI N) st md v w s s.heap := hX
  have hl : lv_has ls 1 [(0, .ref (q 0))] := hl
  have hS : va_S (own 8 q) s.heap s.heap [] := va_S.rf
  have hN := hok.1
  refine lv_aload_n hx hb dX1_range_0 rfl (lv_at hl 0 rfl) ?_
  refine lv_aload_n hx hb dX1_range_1 rfl (lv_at hl 0 rfl) ?_
  refine wVi (mc := 0) (ms := 0) (As := []) (rest := [.ref (q 0)]) hF (mX1_wide hok) M0.mv (fun _ => M0.mv) hX (M0.rc hX) jyX1_wide kl_RX1_146 ⟨rfl, rfl⟩ ⟨Nat.le_of_ble_eq_true rfl, Nat.le_of_ble_eq_true rfl⟩ rfl hl.1 rfl (Nat.le_of_ble_eq_true rfl) ⟨Nat.zero_le _, Nat.zero_le _⟩ hS (fun _ _ h => h) (fun _ h => h) dX1_range_2 (fun r9 w1 H locs hp hX hz hk hS => ?_)
  have hr9 := hp
  subst hr9
  refine wVi (mc := 0) (ms := 0) (As := [.int (rng v st N)]) (rest := []) hF (mX1_ok (rng v st N)) M0.mv (fun _ => M0.mv) hX (M0.rc hX) jyX1_ok kl_RX1_118 ⟨rfl, rfl⟩ ⟨Nat.le_of_ble_eq_true rfl, Nat.le_of_ble_eq_true rfl⟩ rfl hl.1 rfl (Nat.le_of_ble_eq_true rfl) ⟨Nat.zero_le _, Nat.zero_le _⟩ hS (fun _ _ h => h) (fun _ h => h) dX1_range_5 (fun r9 w2 H locs hp hX hz hk hS => ?_)
  have hr9 := hp
  subst hr9
  exact W.iret hx hb hr (fun t ht hW => ⟨⟨_, w2, rfl, rfl, wEnd M0.mv hX ht hW⟩, hS.F ht⟩) hS.2.2 dX1_range_8
set_option maxHeartbeats 4000000 in
set_option maxRecDepth 100000 in
theorem mX1_ambiguous (hok : Ok N st v) (hmk : Mk N mk md) : Met l yX1_ambiguous (wm yX1_ambiguous cX1_ambiguous 1 (some .int)) ({ frames := 7, cells := 0, slots := 0, locals := 151 } : Room) (va_Pc [.ref (q 0)] (fun U => M0 D cyI cyZ q th (nI N) st md v w U U.heap)) (va_Qi (fun (r : Int32) (u : Nat → Nat → Int32) => r = ctB (amb v st mk) N) (fun u U => (fun (u : Nat → Nat → Int32) => (M0 D cyI cyZ q 0 (nI N) st md v u : State → Heap → Prop)) u U U.heap) (own 8 q)) 0 0 (own 8 q) := by
  refine mt (by decide) (Nat.le_of_ble_eq_true rfl) ?_
  intro p ev s m below meth c ls hF hr hlocks hnm hX hl
  have hF : CallFix p m c cX1_ambiguous 1 s _ wA RX1 := hF
  obtain ⟨hx, hb, hml, hown, hts⟩ := id hF
  have hX : M0 D cyI cyZ q th (nI N) st md v w s s.heap := hX
  have hl : lv_has ls 1 [(0, .ref (q 0))] := hl
  have hS : va_S (own 8 q) s.heap s.heap [] := va_S.rf
  have hN := hok.1
  refine lv_aload_n hx hb dX1_ambiguous_0 rfl (lv_at hl 0 rfl) ?_
  refine lv_aload_n hx hb dX1_ambiguous_1 rfl (lv_at hl 0 rfl) ?_
  refine wVi (mc := 0) (ms := 0) (As := []) (rest := [.ref (q 0)]) hF (mX1_open hok hmk) M0.mv (fun _ => M0.mv) hX (M0.rc hX) jyX1_open kl_RX1_157 ⟨rfl, rfl⟩ ⟨Nat.le_of_ble_eq_true rfl, Nat.le_of_ble_eq_true rfl⟩ rfl hl.1 rfl (Nat.le_of_ble_eq_true rfl) ⟨Nat.zero_le _, Nat.zero_le _⟩ hS (fun _ _ h => h) (fun _ h => h) dX1_ambiguous_2 (fun r9 w1 H locs hp hX hz hk hS => ?_)
  have hr9 := hp
  subst hr9
  refine wVi (mc := 0) (ms := 0) (As := [.int (ctB (amb v st mk) N)]) (rest := []) hF (mX1_ok (ctB (amb v st mk) N)) M0.mv (fun _ => M0.mv) hX (M0.rc hX) jyX1_ok kl_RX1_118 ⟨rfl, rfl⟩ ⟨Nat.le_of_ble_eq_true rfl, Nat.le_of_ble_eq_true rfl⟩ rfl hl.1 rfl (Nat.le_of_ble_eq_true rfl) ⟨Nat.zero_le _, Nat.zero_le _⟩ hS (fun _ _ h => h) (fun _ h => h) dX1_ambiguous_5 (fun r9 w2 H locs hp hX hz hk hS => ?_)
  have hr9 := hp
  subst hr9
  exact W.iret hx hb hr (fun t ht hW => ⟨⟨_, w2, rfl, rfl, wEnd M0.mv hX ht hW⟩, hS.F ht⟩) hS.2.2 dX1_ambiguous_8
set_option maxHeartbeats 4000000 in
set_option maxRecDepth 100000 in
theorem mX1_firstAmbiguous (hok : Ok N st v) (hmk : Mk N mk md) : Met l yX1_firstAmbiguous (wm yX1_firstAmbiguous cX1_firstAmbiguous 1 (some .int)) ({ frames := 7, cells := 0, slots := 0, locals := 150 } : Room) (va_Pc [.ref (q 0)] (fun U => M0 D cyI cyZ q th (nI N) st md v w U U.heap)) (va_Qi (fun (r : Int32) (u : Nat → Nat → Int32) => r = fam v st mk N) (fun u U => (fun (u : Nat → Nat → Int32) => (M0 D cyI cyZ q 0 (nI N) st md v u : State → Heap → Prop)) u U U.heap) (own 8 q)) 0 0 (own 8 q) := by
  refine mt (by decide) (Nat.le_of_ble_eq_true rfl) ?_
  intro p ev s m below meth c ls hF hr hlocks hnm hX hl
  have hF : CallFix p m c cX1_firstAmbiguous 1 s _ wA RX1 := hF
  obtain ⟨hx, hb, hml, hown, hts⟩ := id hF
  have hX : M0 D cyI cyZ q th (nI N) st md v w s s.heap := hX
  have hl : lv_has ls 1 [(0, .ref (q 0))] := hl
  have hS : va_S (own 8 q) s.heap s.heap [] := va_S.rf
  have hN := hok.1
  refine lv_aload_n hx hb dX1_firstAmbiguous_0 rfl (lv_at hl 0 rfl) ?_
  refine lv_aload_n hx hb dX1_firstAmbiguous_1 rfl (lv_at hl 0 rfl) ?_
  refine wVi (mc := 0) (ms := 0) (As := []) (rest := [.ref (q 0)]) hF (mX1_firstOpen hok hmk) M0.mv (fun _ => M0.mv) hX (M0.rc hX) jyX1_firstOpen kl_RX1_160 ⟨rfl, rfl⟩ ⟨Nat.le_of_ble_eq_true rfl, Nat.le_of_ble_eq_true rfl⟩ rfl hl.1 rfl (Nat.le_of_ble_eq_true rfl) ⟨Nat.zero_le _, Nat.zero_le _⟩ hS (fun _ _ h => h) (fun _ h => h) dX1_firstAmbiguous_2 (fun r9 w1 H locs hp hX hz hk hS => ?_)
  have hr9 := hp
  subst hr9
  refine wVi (mc := 0) (ms := 0) (As := [.int (fam v st mk N)]) (rest := []) hF (mX1_ok (fam v st mk N)) M0.mv (fun _ => M0.mv) hX (M0.rc hX) jyX1_ok kl_RX1_118 ⟨rfl, rfl⟩ ⟨Nat.le_of_ble_eq_true rfl, Nat.le_of_ble_eq_true rfl⟩ rfl hl.1 rfl (Nat.le_of_ble_eq_true rfl) ⟨Nat.zero_le _, Nat.zero_le _⟩ hS (fun _ _ h => h) (fun _ h => h) dX1_firstAmbiguous_5 (fun r9 w2 H locs hp hX hz hk hS => ?_)
  have hr9 := hp
  subst hr9
  exact W.iret hx hb hr (fun t ht hW => ⟨⟨_, w2, rfl, rfl, wEnd M0.mv hX ht hW⟩, hS.F ht⟩) hS.2.2 dX1_firstAmbiguous_8
set_option maxHeartbeats 4000000 in
set_option maxRecDepth 100000 in
theorem mX1_bestStep (hok : Ok N st v) : Met l yX1_bestStep (wm yX1_bestStep cX1_bestStep 1 (some .int)) ({ frames := 6, cells := 0, slots := 0, locals := 132 } : Room) (va_Pc [.ref (q 0)] (fun U => M0 D cyI cyZ q th (nI N) st md v w U U.heap)) (va_Qi (fun (r : Int32) (u : Nat → Nat → Int32) => r = nI (bst v N)) (fun u U => (fun (u : Nat → Nat → Int32) => (M0 D cyI cyZ q 0 (nI N) st md v u : State → Heap → Prop)) u U U.heap) (own 8 q)) 0 0 (own 8 q) := by
  refine mt (by decide) (Nat.le_of_ble_eq_true rfl) ?_
  intro p ev s m below meth c ls hF hr hlocks hnm hX hl
  have hF : CallFix p m c cX1_bestStep 1 s _ wA RX1 := hF
  obtain ⟨hx, hb, hml, hown, hts⟩ := id hF
  have hX : M0 D cyI cyZ q th (nI N) st md v w s s.heap := hX
  have hl : lv_has ls 1 [(0, .ref (q 0))] := hl
  have hS : va_S (own 8 q) s.heap s.heap [] := va_S.rf
  have hN := hok.1
  refine lv_aload_n hx hb dX1_bestStep_0 rfl (lv_at hl 0 rfl) ?_
  refine lv_aload_n hx hb dX1_bestStep_1 rfl (lv_at hl 0 rfl) ?_
  refine wVi (mc := 0) (ms := 0) (As := []) (rest := [.ref (q 0)]) hF (mX1_stepFor hok) M0.mv (fun _ => M0.mv) hX (M0.rc hX) jyX1_stepFor kl_RX1_166 ⟨rfl, rfl⟩ ⟨Nat.le_of_ble_eq_true rfl, Nat.le_of_ble_eq_true rfl⟩ rfl hl.1 rfl (Nat.le_of_ble_eq_true rfl) ⟨Nat.zero_le _, Nat.zero_le _⟩ hS (fun _ _ h => h) (fun _ h => h) dX1_bestStep_2 (fun r9 w1 H locs hp hX hz hk hS => ?_)
  have hr9 := hp
  subst hr9
  refine wVi (mc := 0) (ms := 0) (As := [.int (nI (bst v N))]) (rest := []) hF (mX1_ok (nI (bst v N))) M0.mv (fun _ => M0.mv) hX (M0.rc hX) jyX1_ok kl_RX1_118 ⟨rfl, rfl⟩ ⟨Nat.le_of_ble_eq_true rfl, Nat.le_of_ble_eq_true rfl⟩ rfl hl.1 rfl (Nat.le_of_ble_eq_true rfl) ⟨Nat.zero_le _, Nat.zero_le _⟩ hS (fun _ _ h => h) (fun _ h => h) dX1_bestStep_5 (fun r9 w2 H locs hp hX hz hk hS => ?_)
  have hr9 := hp
  subst hr9
  exact W.iret hx hb hr (fun t ht hW => ⟨⟨_, w2, rfl, rfl, wEnd M0.mv hX ht hW⟩, hS.F ht⟩) hS.2.2 dX1_bestStep_8
set_option maxHeartbeats 4000000 in
set_option maxRecDepth 100000 in
theorem mX1_ways (hok : Ok N st v) (hmk : Mk N mk md) : Met l yX1_ways (wm yX1_ways cX1_ways 1 (some .long)) ({ frames := 7, cells := 0, slots := 0, locals := 152 } : Room) (va_Pc [.ref (q 0)] (fun U => M0 D cyI cyZ q th (nI N) st md v w U U.heap)) (va_Ql (fun (r : Int64) (u : Nat → Nat → Int32) => r = wys v st mk N) (fun u U => (fun (u : Nat → Nat → Int32) => (M0 D cyI cyZ q 0 (nI N) st md v u : State → Heap → Prop)) u U U.heap) (own 8 q)) 0 0 (own 8 q) := by
  refine mt (by decide) (Nat.le_of_ble_eq_true rfl) ?_
  intro p ev s m below meth c ls hF hr hlocks hnm hX hl
  have hF : CallFix p m c cX1_ways 1 s _ wA RX1 := hF
  obtain ⟨hx, hb, hml, hown, hts⟩ := id hF
  have hX : M0 D cyI cyZ q th (nI N) st md v w s s.heap := hX
  have hl : lv_has ls 1 [(0, .ref (q 0))] := hl
  have hS : va_S (own 8 q) s.heap s.heap [] := va_S.rf
  have hN := hok.1
  refine lv_aload_n hx hb dX1_ways_0 rfl (lv_at hl 0 rfl) ?_
  refine lv_iconst (v := 0) hx hb dX1_ways_1 (by decide) ?_
  refine M0.put_th hF hX hS kf_RX1_35 dX1_ways_2 (fun H locs hX hS => ?_)
  refine lv_aload_n hx hb dX1_ways_5 rfl (lv_at hl 0 rfl) ?_
  refine wVl (mc := 0) (ms := 0) (As := []) (rest := []) hF (mX1_all hok hmk) M0.mv (fun _ => M0.mv) hX (M0.rc hX) jyX1_all kl_RX1_153 ⟨rfl, rfl⟩ ⟨Nat.le_of_ble_eq_true rfl, Nat.le_of_ble_eq_true rfl⟩ rfl hl.1 rfl (Nat.le_of_ble_eq_true rfl) ⟨Nat.zero_le _, Nat.zero_le _⟩ hS (fun _ _ h => h) (fun _ h => h) dX1_ways_6 (fun r9 w1 H locs hp hX hz hk hS => ?_)
  have hr9 := hp
  subst hr9
  exact W.lret hx hb hr (fun t ht hW => ⟨⟨_, w1, rfl, rfl, wEnd M0.mv hX ht hW⟩, hS.F ht⟩) hS.2.2 dX1_ways_9
set_option maxHeartbeats 4000000 in
set_option maxRecDepth 100000 in
theorem mX1_turnOf (hok : Ok N st v) (i : Nat) (hi : i < N) : Met l yX1_turnOf (wm yX1_turnOf cX1_turnOf 2 (some .int)) ({ frames := 2, cells := 0, slots := 0, locals := 43 } : Room) (va_Pc [.ref (q 0), .int (nI i)] (fun U => M0 D cyI cyZ q th (nI N) st md v w U U.heap)) (va_Qi (fun (r : Int32) (u : Nat → Nat → Int32) => r = v 0 i) (fun u U => (fun (u : Nat → Nat → Int32) => (M0 D cyI cyZ q 0 (nI N) st md v u : State → Heap → Prop)) u U U.heap) (own 8 q)) 0 0 (own 8 q) := by
  refine mt (by decide) (Nat.le_of_ble_eq_true rfl) ?_
  intro p ev s m below meth c ls hF hr hlocks hnm hX hl
  have hF : CallFix p m c cX1_turnOf 2 s _ wA RX1 := hF
  obtain ⟨hx, hb, hml, hown, hts⟩ := id hF
  have hX : M0 D cyI cyZ q th (nI N) st md v w s s.heap := hX
  have hl : lv_has ls 2 [(0, .ref (q 0)), (1, .int (nI i))] := hl
  have hS : va_S (own 8 q) s.heap s.heap [] := va_S.rf
  have hN := hok.1
  refine lv_aload_n hx hb dX1_turnOf_0 rfl (lv_at hl 0 rfl) ?_
  refine lv_iconst (v := 0) hx hb dX1_turnOf_1 (by decide) ?_
  refine M0.put_th hF hX hS kf_RX1_35 dX1_turnOf_2 (fun H locs hX hS => ?_)
  refine lv_aload_n hx hb dX1_turnOf_5 rfl (lv_at hl 0 rfl) ?_
  refine lv_iload_n hx hb dX1_turnOf_6 rfl (lv_at hl 1 rfl) ?_
  refine cVi (As := [.int (nI i)]) (rest := []) hF (mX1_isLeg (nI i)) M0.mv hX (M0.rc hX) jyX1_isLeg kl_RX1_115 ⟨rfl, rfl⟩ ⟨Nat.le_of_ble_eq_true rfl, Nat.le_of_ble_eq_true rfl⟩ rfl hl.1 rfl (Nat.le_of_ble_eq_true rfl) ⟨Nat.zero_le _, Nat.zero_le _⟩ dX1_turnOf_7 (fun r hr9 => ?_)
  subst hr9
  refine lv_if_eq (tgt := 22) hx hb dX1_turnOf_10 (by decide) (fun c10 => ?_) (fun c10 => ?_)
  · have c10b := b2i_f c10
    exact absurd (legB_t hi hN) (by rw [c10b]; decide)
  · have c10b := b2i_t c10
    refine lv_aload_n hx hb dX1_turnOf_13 rfl (lv_at hl 0 rfl) ?_
    refine M0.get hF hX 3 (by decide) rfl rfl kf_RX1_13 dX1_turnOf_14 ?_
    refine lv_iload_n hx hb dX1_turnOf_17 rfl (lv_at hl 1 rfl) ?_
    refine aldI hF hX.2.1 hX.1 1 0 rfl rfl i (by omega) (by decide) rfl dX1_turnOf_18 ?_
    refine lv_goto (tgt := 27) hx hb dX1_turnOf_19 (by decide) ?_
    exact W.iret hx hb hr (fun t ht hW => ⟨⟨_, w, rfl, rfl, wEnd M0.mv hX ht hW⟩, hS.F ht⟩) hS.2.2 dX1_turnOf_27
set_option maxHeartbeats 4000000 in
set_option maxRecDepth 100000 in
theorem nX1_turnOf (x : Int32) (hbad : legB N x = false) : Met l yX1_turnOf (wm yX1_turnOf cX1_turnOf 2 (some .int)) ({ frames := 2, cells := 0, slots := 0, locals := 43 } : Room) (va_Pc [.ref (q 0), .int x] (fun U => M0 D cyI cyZ q th (nI N) st md v w U U.heap)) (va_Qi (fun (r : Int32) (u : Nat → Nat → Int32) => True) (fun u U => (fun (u : Nat → Nat → Int32) => (M0 D cyI cyZ q 1 (nI N) st md v u : State → Heap → Prop)) u U U.heap) (own 8 q)) 0 0 (own 8 q) := by
  refine mt (by decide) (Nat.le_of_ble_eq_true rfl) ?_
  intro p ev s m below meth c ls hF hr hlocks hnm hX hl
  have hF : CallFix p m c cX1_turnOf 2 s _ wA RX1 := hF
  obtain ⟨hx, hb, hml, hown, hts⟩ := id hF
  have hX : M0 D cyI cyZ q th (nI N) st md v w s s.heap := hX
  have hl : lv_has ls 2 [(0, .ref (q 0)), (1, .int x)] := hl
  have hS : va_S (own 8 q) s.heap s.heap [] := va_S.rf
  refine lv_aload_n hx hb dX1_turnOf_0 rfl (lv_at hl 0 rfl) ?_
  refine lv_iconst (v := 0) hx hb dX1_turnOf_1 (by decide) ?_
  refine M0.put_th hF hX hS kf_RX1_35 dX1_turnOf_2 (fun H locs hX hS => ?_)
  refine lv_aload_n hx hb dX1_turnOf_5 rfl (lv_at hl 0 rfl) ?_
  refine lv_iload_n hx hb dX1_turnOf_6 rfl (lv_at hl 1 rfl) ?_
  refine cVi (As := [.int x]) (rest := []) hF (mX1_isLeg x) M0.mv hX (M0.rc hX) jyX1_isLeg kl_RX1_115 ⟨rfl, rfl⟩ ⟨Nat.le_of_ble_eq_true rfl, Nat.le_of_ble_eq_true rfl⟩ rfl hl.1 rfl (Nat.le_of_ble_eq_true rfl) ⟨Nat.zero_le _, Nat.zero_le _⟩ dX1_turnOf_7 (fun r hr9 => ?_)
  subst hr9
  refine lv_if_eq (tgt := 22) hx hb dX1_turnOf_10 (by decide) (fun c10 => ?_) (fun c10 => ?_)
  · have c10b := b2i_f c10
    refine lv_aload_n hx hb dX1_turnOf_22 rfl (lv_at hl 0 rfl) ?_
    refine lv_iconst (v := 1) hx hb dX1_turnOf_23 (by decide) ?_
    refine wVi (mc := 0) (ms := 0) (As := [.int 1]) (rest := []) hF (mX1_no 1) M0.mv (fun _ => M0.mv) hX (M0.rc hX) jyX1_no kl_RX1_112 ⟨rfl, rfl⟩ ⟨Nat.le_of_ble_eq_true rfl, Nat.le_of_ble_eq_true rfl⟩ rfl hl.1 rfl (Nat.le_of_ble_eq_true rfl) ⟨Nat.zero_le _, Nat.zero_le _⟩ hS (fun _ _ h => h) (fun _ h => h) dX1_turnOf_24 (fun r9 w1 H locs hp hX hz hk hS => ?_)
    have hr9 := hp
    rw [hr9]
    exact W.iret hx hb hr (fun t ht hW => ⟨⟨_, w1, rfl, trivial, wEnd M0.mv hX ht hW⟩, hS.F ht⟩) hS.2.2 dX1_turnOf_27
  · have c10b := b2i_t c10
    exact absurd hbad (by rw [c10b]; decide)
set_option maxHeartbeats 4000000 in
set_option maxRecDepth 100000 in
theorem mX1_headingOf (hok : Ok N st v) (i : Nat) (hi : i < N) : Met l yX1_headingOf (wm yX1_headingOf cX1_headingOf 2 (some .int)) ({ frames := 2, cells := 0, slots := 0, locals := 43 } : Room) (va_Pc [.ref (q 0), .int (nI i)] (fun U => M0 D cyI cyZ q th (nI N) st md v w U U.heap)) (va_Qi (fun (r : Int32) (u : Nat → Nat → Int32) => r = hd (v 0) (i + 1)) (fun u U => (fun (u : Nat → Nat → Int32) => (M0 D cyI cyZ q 0 (nI N) st md v u : State → Heap → Prop)) u U U.heap) (own 8 q)) 0 0 (own 8 q) := by
  refine mt (by decide) (Nat.le_of_ble_eq_true rfl) ?_
  intro p ev s m below meth c ls hF hr hlocks hnm hX hl
  have hF : CallFix p m c cX1_headingOf 2 s _ wA RX1 := hF
  obtain ⟨hx, hb, hml, hown, hts⟩ := id hF
  have hX : M0 D cyI cyZ q th (nI N) st md v w s s.heap := hX
  have hl : lv_has ls 2 [(0, .ref (q 0)), (1, .int (nI i))] := hl
  have hS : va_S (own 8 q) s.heap s.heap [] := va_S.rf
  have hN := hok.1
  refine lv_aload_n hx hb dX1_headingOf_0 rfl (lv_at hl 0 rfl) ?_
  refine lv_iconst (v := 0) hx hb dX1_headingOf_1 (by decide) ?_
  refine M0.put_th hF hX hS kf_RX1_35 dX1_headingOf_2 (fun H locs hX hS => ?_)
  refine lv_aload_n hx hb dX1_headingOf_5 rfl (lv_at hl 0 rfl) ?_
  refine lv_iload_n hx hb dX1_headingOf_6 rfl (lv_at hl 1 rfl) ?_
  refine cVi (As := [.int (nI i)]) (rest := []) hF (mX1_isLeg (nI i)) M0.mv hX (M0.rc hX) jyX1_isLeg kl_RX1_115 ⟨rfl, rfl⟩ ⟨Nat.le_of_ble_eq_true rfl, Nat.le_of_ble_eq_true rfl⟩ rfl hl.1 rfl (Nat.le_of_ble_eq_true rfl) ⟨Nat.zero_le _, Nat.zero_le _⟩ dX1_headingOf_7 (fun r hr9 => ?_)
  subst hr9
  refine lv_if_eq (tgt := 21) hx hb dX1_headingOf_10 (by decide) (fun c10 => ?_) (fun c10 => ?_)
  · have c10b := b2i_f c10
    exact absurd (legB_t hi hN) (by rw [c10b]; decide)
  · have c10b := b2i_t c10
    refine lv_aload_n hx hb dX1_headingOf_13 rfl (lv_at hl 0 rfl) ?_
    refine lv_iload_n hx hb dX1_headingOf_14 rfl (lv_at hl 1 rfl) ?_
    refine cVi (As := [.int (nI i)]) (rest := []) hF (mX1_heading hok i (by omega)) M0.mv hX (M0.rc hX) jyX1_heading kl_RX1_48 ⟨rfl, rfl⟩ ⟨Nat.le_of_ble_eq_true rfl, Nat.le_of_ble_eq_true rfl⟩ rfl hl.1 rfl (Nat.le_of_ble_eq_true rfl) ⟨Nat.zero_le _, Nat.zero_le _⟩ dX1_headingOf_15 (fun r hr9 => ?_)
    subst hr9
    refine lv_goto (tgt := 26) hx hb dX1_headingOf_18 (by decide) ?_
    exact W.iret hx hb hr (fun t ht hW => ⟨⟨_, w, rfl, rfl, wEnd M0.mv hX ht hW⟩, hS.F ht⟩) hS.2.2 dX1_headingOf_26
set_option maxHeartbeats 4000000 in
set_option maxRecDepth 100000 in
theorem nX1_headingOf (x : Int32) (hbad : legB N x = false) : Met l yX1_headingOf (wm yX1_headingOf cX1_headingOf 2 (some .int)) ({ frames := 2, cells := 0, slots := 0, locals := 43 } : Room) (va_Pc [.ref (q 0), .int x] (fun U => M0 D cyI cyZ q th (nI N) st md v w U U.heap)) (va_Qi (fun (r : Int32) (u : Nat → Nat → Int32) => True) (fun u U => (fun (u : Nat → Nat → Int32) => (M0 D cyI cyZ q 1 (nI N) st md v u : State → Heap → Prop)) u U U.heap) (own 8 q)) 0 0 (own 8 q) := by
  refine mt (by decide) (Nat.le_of_ble_eq_true rfl) ?_
  intro p ev s m below meth c ls hF hr hlocks hnm hX hl
  have hF : CallFix p m c cX1_headingOf 2 s _ wA RX1 := hF
  obtain ⟨hx, hb, hml, hown, hts⟩ := id hF
  have hX : M0 D cyI cyZ q th (nI N) st md v w s s.heap := hX
  have hl : lv_has ls 2 [(0, .ref (q 0)), (1, .int x)] := hl
  have hS : va_S (own 8 q) s.heap s.heap [] := va_S.rf
  refine lv_aload_n hx hb dX1_headingOf_0 rfl (lv_at hl 0 rfl) ?_
  refine lv_iconst (v := 0) hx hb dX1_headingOf_1 (by decide) ?_
  refine M0.put_th hF hX hS kf_RX1_35 dX1_headingOf_2 (fun H locs hX hS => ?_)
  refine lv_aload_n hx hb dX1_headingOf_5 rfl (lv_at hl 0 rfl) ?_
  refine lv_iload_n hx hb dX1_headingOf_6 rfl (lv_at hl 1 rfl) ?_
  refine cVi (As := [.int x]) (rest := []) hF (mX1_isLeg x) M0.mv hX (M0.rc hX) jyX1_isLeg kl_RX1_115 ⟨rfl, rfl⟩ ⟨Nat.le_of_ble_eq_true rfl, Nat.le_of_ble_eq_true rfl⟩ rfl hl.1 rfl (Nat.le_of_ble_eq_true rfl) ⟨Nat.zero_le _, Nat.zero_le _⟩ dX1_headingOf_7 (fun r hr9 => ?_)
  subst hr9
  refine lv_if_eq (tgt := 21) hx hb dX1_headingOf_10 (by decide) (fun c10 => ?_) (fun c10 => ?_)
  · have c10b := b2i_f c10
    refine lv_aload_n hx hb dX1_headingOf_21 rfl (lv_at hl 0 rfl) ?_
    refine lv_iconst (v := 1) hx hb dX1_headingOf_22 (by decide) ?_
    refine wVi (mc := 0) (ms := 0) (As := [.int 1]) (rest := []) hF (mX1_no 1) M0.mv (fun _ => M0.mv) hX (M0.rc hX) jyX1_no kl_RX1_112 ⟨rfl, rfl⟩ ⟨Nat.le_of_ble_eq_true rfl, Nat.le_of_ble_eq_true rfl⟩ rfl hl.1 rfl (Nat.le_of_ble_eq_true rfl) ⟨Nat.zero_le _, Nat.zero_le _⟩ hS (fun _ _ h => h) (fun _ h => h) dX1_headingOf_23 (fun r9 w1 H locs hp hX hz hk hS => ?_)
    have hr9 := hp
    rw [hr9]
    exact W.iret hx hb hr (fun t ht hW => ⟨⟨_, w1, rfl, trivial, wEnd M0.mv hX ht hW⟩, hS.F ht⟩) hS.2.2 dX1_headingOf_26
  · have c10b := b2i_t c10
    exact absurd hbad (by rw [c10b]; decide)
set_option maxHeartbeats 4000000 in
set_option maxRecDepth 100000 in
theorem mX1_landmarkOf (hok : Ok N st v) (i : Nat) (hi : i < N) : Met l yX1_landmarkOf (wm yX1_landmarkOf cX1_landmarkOf 2 (some .int)) ({ frames := 2, cells := 0, slots := 0, locals := 43 } : Room) (va_Pc [.ref (q 0), .int (nI i)] (fun U => M0 D cyI cyZ q th (nI N) st md v w U U.heap)) (va_Qi (fun (r : Int32) (u : Nat → Nat → Int32) => r = v 2 i) (fun u U => (fun (u : Nat → Nat → Int32) => (M0 D cyI cyZ q 0 (nI N) st md v u : State → Heap → Prop)) u U U.heap) (own 8 q)) 0 0 (own 8 q) := by
  refine mt (by decide) (Nat.le_of_ble_eq_true rfl) ?_
  intro p ev s m below meth c ls hF hr hlocks hnm hX hl
  have hF : CallFix p m c cX1_landmarkOf 2 s _ wA RX1 := hF
  obtain ⟨hx, hb, hml, hown, hts⟩ := id hF
  have hX : M0 D cyI cyZ q th (nI N) st md v w s s.heap := hX
  have hl : lv_has ls 2 [(0, .ref (q 0)), (1, .int (nI i))] := hl
  have hS : va_S (own 8 q) s.heap s.heap [] := va_S.rf
  have hN := hok.1
  refine lv_aload_n hx hb dX1_landmarkOf_0 rfl (lv_at hl 0 rfl) ?_
  refine lv_iconst (v := 0) hx hb dX1_landmarkOf_1 (by decide) ?_
  refine M0.put_th hF hX hS kf_RX1_35 dX1_landmarkOf_2 (fun H locs hX hS => ?_)
  refine lv_aload_n hx hb dX1_landmarkOf_5 rfl (lv_at hl 0 rfl) ?_
  refine lv_iload_n hx hb dX1_landmarkOf_6 rfl (lv_at hl 1 rfl) ?_
  refine cVi (As := [.int (nI i)]) (rest := []) hF (mX1_isLeg (nI i)) M0.mv hX (M0.rc hX) jyX1_isLeg kl_RX1_115 ⟨rfl, rfl⟩ ⟨Nat.le_of_ble_eq_true rfl, Nat.le_of_ble_eq_true rfl⟩ rfl hl.1 rfl (Nat.le_of_ble_eq_true rfl) ⟨Nat.zero_le _, Nat.zero_le _⟩ dX1_landmarkOf_7 (fun r hr9 => ?_)
  subst hr9
  refine lv_if_eq (tgt := 22) hx hb dX1_landmarkOf_10 (by decide) (fun c10 => ?_) (fun c10 => ?_)
  · have c10b := b2i_f c10
    exact absurd (legB_t hi hN) (by rw [c10b]; decide)
  · have c10b := b2i_t c10
    refine lv_aload_n hx hb dX1_landmarkOf_13 rfl (lv_at hl 0 rfl) ?_
    refine M0.get hF hX 5 (by decide) rfl rfl kf_RX1_20 dX1_landmarkOf_14 ?_
    refine lv_iload_n hx hb dX1_landmarkOf_17 rfl (lv_at hl 1 rfl) ?_
    refine aldI hF hX.2.1 hX.1 3 0 rfl rfl i (by omega) (by decide) rfl dX1_landmarkOf_18 ?_
    refine lv_goto (tgt := 27) hx hb dX1_landmarkOf_19 (by decide) ?_
    exact W.iret hx hb hr (fun t ht hW => ⟨⟨_, w, rfl, rfl, wEnd M0.mv hX ht hW⟩, hS.F ht⟩) hS.2.2 dX1_landmarkOf_27
set_option maxHeartbeats 4000000 in
set_option maxRecDepth 100000 in
theorem nX1_landmarkOf (x : Int32) (hbad : legB N x = false) : Met l yX1_landmarkOf (wm yX1_landmarkOf cX1_landmarkOf 2 (some .int)) ({ frames := 2, cells := 0, slots := 0, locals := 43 } : Room) (va_Pc [.ref (q 0), .int x] (fun U => M0 D cyI cyZ q th (nI N) st md v w U U.heap)) (va_Qi (fun (r : Int32) (u : Nat → Nat → Int32) => True) (fun u U => (fun (u : Nat → Nat → Int32) => (M0 D cyI cyZ q 1 (nI N) st md v u : State → Heap → Prop)) u U U.heap) (own 8 q)) 0 0 (own 8 q) := by
  refine mt (by decide) (Nat.le_of_ble_eq_true rfl) ?_
  intro p ev s m below meth c ls hF hr hlocks hnm hX hl
  have hF : CallFix p m c cX1_landmarkOf 2 s _ wA RX1 := hF
  obtain ⟨hx, hb, hml, hown, hts⟩ := id hF
  have hX : M0 D cyI cyZ q th (nI N) st md v w s s.heap := hX
  have hl : lv_has ls 2 [(0, .ref (q 0)), (1, .int x)] := hl
  have hS : va_S (own 8 q) s.heap s.heap [] := va_S.rf
  refine lv_aload_n hx hb dX1_landmarkOf_0 rfl (lv_at hl 0 rfl) ?_
  refine lv_iconst (v := 0) hx hb dX1_landmarkOf_1 (by decide) ?_
  refine M0.put_th hF hX hS kf_RX1_35 dX1_landmarkOf_2 (fun H locs hX hS => ?_)
  refine lv_aload_n hx hb dX1_landmarkOf_5 rfl (lv_at hl 0 rfl) ?_
  refine lv_iload_n hx hb dX1_landmarkOf_6 rfl (lv_at hl 1 rfl) ?_
  refine cVi (As := [.int x]) (rest := []) hF (mX1_isLeg x) M0.mv hX (M0.rc hX) jyX1_isLeg kl_RX1_115 ⟨rfl, rfl⟩ ⟨Nat.le_of_ble_eq_true rfl, Nat.le_of_ble_eq_true rfl⟩ rfl hl.1 rfl (Nat.le_of_ble_eq_true rfl) ⟨Nat.zero_le _, Nat.zero_le _⟩ dX1_landmarkOf_7 (fun r hr9 => ?_)
  subst hr9
  refine lv_if_eq (tgt := 22) hx hb dX1_landmarkOf_10 (by decide) (fun c10 => ?_) (fun c10 => ?_)
  · have c10b := b2i_f c10
    refine lv_aload_n hx hb dX1_landmarkOf_22 rfl (lv_at hl 0 rfl) ?_
    refine lv_iconst (v := 1) hx hb dX1_landmarkOf_23 (by decide) ?_
    refine wVi (mc := 0) (ms := 0) (As := [.int 1]) (rest := []) hF (mX1_no 1) M0.mv (fun _ => M0.mv) hX (M0.rc hX) jyX1_no kl_RX1_112 ⟨rfl, rfl⟩ ⟨Nat.le_of_ble_eq_true rfl, Nat.le_of_ble_eq_true rfl⟩ rfl hl.1 rfl (Nat.le_of_ble_eq_true rfl) ⟨Nat.zero_le _, Nat.zero_le _⟩ hS (fun _ _ h => h) (fun _ h => h) dX1_landmarkOf_24 (fun r9 w1 H locs hp hX hz hk hS => ?_)
    have hr9 := hp
    rw [hr9]
    exact W.iret hx hb hr (fun t ht hW => ⟨⟨_, w1, rfl, trivial, wEnd M0.mv hX ht hW⟩, hS.F ht⟩) hS.2.2 dX1_landmarkOf_27
  · have c10b := b2i_t c10
    exact absurd hbad (by rw [c10b]; decide)
set_option maxHeartbeats 4000000 in
set_option maxRecDepth 100000 in
theorem mX1_noteOf (hok : Ok N st v) (i : Nat) (hi : i < N) : Met l yX1_noteOf (wm yX1_noteOf cX1_noteOf 2 (some .int)) ({ frames := 4, cells := 0, slots := 0, locals := 86 } : Room) (va_Pc [.ref (q 0), .int (nI i)] (fun U => M0 D cyI cyZ q th (nI N) st md v w U U.heap)) (va_Qi (fun (r : Int32) (u : Nat → Nat → Int32) => r = nt (v 0) st (i + 1)) (fun u U => (fun (u : Nat → Nat → Int32) => (M0 D cyI cyZ q 0 (nI N) st md v u : State → Heap → Prop)) u U U.heap) (own 8 q)) 0 0 (own 8 q) := by
  refine mt (by decide) (Nat.le_of_ble_eq_true rfl) ?_
  intro p ev s m below meth c ls hF hr hlocks hnm hX hl
  have hF : CallFix p m c cX1_noteOf 2 s _ wA RX1 := hF
  obtain ⟨hx, hb, hml, hown, hts⟩ := id hF
  have hX : M0 D cyI cyZ q th (nI N) st md v w s s.heap := hX
  have hl : lv_has ls 2 [(0, .ref (q 0)), (1, .int (nI i))] := hl
  have hS : va_S (own 8 q) s.heap s.heap [] := va_S.rf
  have hN := hok.1
  refine lv_aload_n hx hb dX1_noteOf_0 rfl (lv_at hl 0 rfl) ?_
  refine lv_iconst (v := 0) hx hb dX1_noteOf_1 (by decide) ?_
  refine M0.put_th hF hX hS kf_RX1_35 dX1_noteOf_2 (fun H locs hX hS => ?_)
  refine lv_aload_n hx hb dX1_noteOf_5 rfl (lv_at hl 0 rfl) ?_
  refine lv_iload_n hx hb dX1_noteOf_6 rfl (lv_at hl 1 rfl) ?_
  refine cVi (As := [.int (nI i)]) (rest := []) hF (mX1_isLeg (nI i)) M0.mv hX (M0.rc hX) jyX1_isLeg kl_RX1_115 ⟨rfl, rfl⟩ ⟨Nat.le_of_ble_eq_true rfl, Nat.le_of_ble_eq_true rfl⟩ rfl hl.1 rfl (Nat.le_of_ble_eq_true rfl) ⟨Nat.zero_le _, Nat.zero_le _⟩ dX1_noteOf_7 (fun r hr9 => ?_)
  subst hr9
  refine lv_if_eq (tgt := 21) hx hb dX1_noteOf_10 (by decide) (fun c10 => ?_) (fun c10 => ?_)
  · have c10b := b2i_f c10
    exact absurd (legB_t hi hN) (by rw [c10b]; decide)
  · have c10b := b2i_t c10
    refine lv_aload_n hx hb dX1_noteOf_13 rfl (lv_at hl 0 rfl) ?_
    refine lv_iload_n hx hb dX1_noteOf_14 rfl (lv_at hl 1 rfl) ?_
    refine wVi (mc := 0) (ms := 0) (As := [.int (nI i)]) (rest := []) hF (mX1_noteNow hok i (by omega)) M0.mv (fun _ => M0.mv) hX (M0.rc hX) jyX1_noteNow kl_RX1_132 ⟨rfl, rfl⟩ ⟨Nat.le_of_ble_eq_true rfl, Nat.le_of_ble_eq_true rfl⟩ rfl hl.1 rfl (Nat.le_of_ble_eq_true rfl) ⟨Nat.zero_le _, Nat.zero_le _⟩ hS (fun _ _ h => h) (fun _ h => h) dX1_noteOf_15 (fun r9 w1 H locs hp hX hz hk hS => ?_)
    have hr9 := hp
    subst hr9
    refine lv_goto (tgt := 26) hx hb dX1_noteOf_18 (by decide) ?_
    exact W.iret hx hb hr (fun t ht hW => ⟨⟨_, w1, rfl, rfl, wEnd M0.mv hX ht hW⟩, hS.F ht⟩) hS.2.2 dX1_noteOf_26
set_option maxHeartbeats 4000000 in
set_option maxRecDepth 100000 in
theorem nX1_noteOf (x : Int32) (hbad : legB N x = false) : Met l yX1_noteOf (wm yX1_noteOf cX1_noteOf 2 (some .int)) ({ frames := 2, cells := 0, slots := 0, locals := 43 } : Room) (va_Pc [.ref (q 0), .int x] (fun U => M0 D cyI cyZ q th (nI N) st md v w U U.heap)) (va_Qi (fun (r : Int32) (u : Nat → Nat → Int32) => True) (fun u U => (fun (u : Nat → Nat → Int32) => (M0 D cyI cyZ q 1 (nI N) st md v u : State → Heap → Prop)) u U U.heap) (own 8 q)) 0 0 (own 8 q) := by
  refine mt (by decide) (Nat.le_of_ble_eq_true rfl) ?_
  intro p ev s m below meth c ls hF hr hlocks hnm hX hl
  have hF : CallFix p m c cX1_noteOf 2 s _ wA RX1 := hF
  obtain ⟨hx, hb, hml, hown, hts⟩ := id hF
  have hX : M0 D cyI cyZ q th (nI N) st md v w s s.heap := hX
  have hl : lv_has ls 2 [(0, .ref (q 0)), (1, .int x)] := hl
  have hS : va_S (own 8 q) s.heap s.heap [] := va_S.rf
  refine lv_aload_n hx hb dX1_noteOf_0 rfl (lv_at hl 0 rfl) ?_
  refine lv_iconst (v := 0) hx hb dX1_noteOf_1 (by decide) ?_
  refine M0.put_th hF hX hS kf_RX1_35 dX1_noteOf_2 (fun H locs hX hS => ?_)
  refine lv_aload_n hx hb dX1_noteOf_5 rfl (lv_at hl 0 rfl) ?_
  refine lv_iload_n hx hb dX1_noteOf_6 rfl (lv_at hl 1 rfl) ?_
  refine cVi (As := [.int x]) (rest := []) hF (mX1_isLeg x) M0.mv hX (M0.rc hX) jyX1_isLeg kl_RX1_115 ⟨rfl, rfl⟩ ⟨Nat.le_of_ble_eq_true rfl, Nat.le_of_ble_eq_true rfl⟩ rfl hl.1 rfl (Nat.le_of_ble_eq_true rfl) ⟨Nat.zero_le _, Nat.zero_le _⟩ dX1_noteOf_7 (fun r hr9 => ?_)
  subst hr9
  refine lv_if_eq (tgt := 21) hx hb dX1_noteOf_10 (by decide) (fun c10 => ?_) (fun c10 => ?_)
  · have c10b := b2i_f c10
    refine lv_aload_n hx hb dX1_noteOf_21 rfl (lv_at hl 0 rfl) ?_
    refine lv_iconst (v := 1) hx hb dX1_noteOf_22 (by decide) ?_
    refine wVi (mc := 0) (ms := 0) (As := [.int 1]) (rest := []) hF (mX1_no 1) M0.mv (fun _ => M0.mv) hX (M0.rc hX) jyX1_no kl_RX1_112 ⟨rfl, rfl⟩ ⟨Nat.le_of_ble_eq_true rfl, Nat.le_of_ble_eq_true rfl⟩ rfl hl.1 rfl (Nat.le_of_ble_eq_true rfl) ⟨Nat.zero_le _, Nat.zero_le _⟩ hS (fun _ _ h => h) (fun _ h => h) dX1_noteOf_23 (fun r9 w1 H locs hp hX hz hk hS => ?_)
    have hr9 := hp
    rw [hr9]
    exact W.iret hx hb hr (fun t ht hW => ⟨⟨_, w1, rfl, trivial, wEnd M0.mv hX ht hW⟩, hS.F ht⟩) hS.2.2 dX1_noteOf_26
  · have c10b := b2i_t c10
    exact absurd hbad (by rw [c10b]; decide)
set_option maxHeartbeats 4000000 in
set_option maxRecDepth 100000 in
theorem mX1_isFolded (hok : Ok N st v) (i : Nat) (hi : i < N) : Met l yX1_isFolded (wm yX1_isFolded cX1_isFolded 2 (some .boolean)) ({ frames := 4, cells := 0, slots := 0, locals := 86 } : Room) (va_Pc [.ref (q 0), .int (nI i)] (fun U => M0 D cyI cyZ q th (nI N) st md v w U U.heap)) (va_Qi (fun (r : Int32) (u : Nat → Nat → Int32) => r = b2i (fold1 v st i)) (fun u U => (fun (u : Nat → Nat → Int32) => (M0 D cyI cyZ q 0 (nI N) st md v u : State → Heap → Prop)) u U U.heap) (own 8 q)) 0 0 (own 8 q) := by
  refine mt (by decide) (Nat.le_of_ble_eq_true rfl) ?_
  intro p ev s m below meth c ls hF hr hlocks hnm hX hl
  have hF : CallFix p m c cX1_isFolded 2 s _ wA RX1 := hF
  obtain ⟨hx, hb, hml, hown, hts⟩ := id hF
  have hX : M0 D cyI cyZ q th (nI N) st md v w s s.heap := hX
  have hl : lv_has ls 2 [(0, .ref (q 0)), (1, .int (nI i))] := hl
  have hS : va_S (own 8 q) s.heap s.heap [] := va_S.rf
  have hN := hok.1
  refine lv_aload_n hx hb dX1_isFolded_0 rfl (lv_at hl 0 rfl) ?_
  refine lv_iconst (v := 0) hx hb dX1_isFolded_1 (by decide) ?_
  refine M0.put_th hF hX hS kf_RX1_35 dX1_isFolded_2 (fun H locs hX hS => ?_)
  refine lv_aload_n hx hb dX1_isFolded_5 rfl (lv_at hl 0 rfl) ?_
  refine lv_iload_n hx hb dX1_isFolded_6 rfl (lv_at hl 1 rfl) ?_
  refine cVi (As := [.int (nI i)]) (rest := []) hF (mX1_isLeg (nI i)) M0.mv hX (M0.rc hX) jyX1_isLeg kl_RX1_115 ⟨rfl, rfl⟩ ⟨Nat.le_of_ble_eq_true rfl, Nat.le_of_ble_eq_true rfl⟩ rfl hl.1 rfl (Nat.le_of_ble_eq_true rfl) ⟨Nat.zero_le _, Nat.zero_le _⟩ dX1_isFolded_7 (fun r hr9 => ?_)
  subst hr9
  refine lv_if_eq (tgt := 21) hx hb dX1_isFolded_10 (by decide) (fun c10 => ?_) (fun c10 => ?_)
  · have c10b := b2i_f c10
    exact absurd (legB_t hi hN) (by rw [c10b]; decide)
  · have c10b := b2i_t c10
    refine lv_aload_n hx hb dX1_isFolded_13 rfl (lv_at hl 0 rfl) ?_
    refine lv_iload_n hx hb dX1_isFolded_14 rfl (lv_at hl 1 rfl) ?_
    refine wVi (mc := 0) (ms := 0) (As := [.int (nI i)]) (rest := []) hF (mX1_isFoldedNow hok i (by omega)) M0.mv (fun _ => M0.mv) hX (M0.rc hX) jyX1_isFoldedNow kl_RX1_72 ⟨rfl, rfl⟩ ⟨Nat.le_of_ble_eq_true rfl, Nat.le_of_ble_eq_true rfl⟩ rfl hl.1 rfl (Nat.le_of_ble_eq_true rfl) ⟨Nat.zero_le _, Nat.zero_le _⟩ hS (fun _ _ h => h) (fun _ h => h) dX1_isFolded_15 (fun r9 w1 H locs hp hX hz hk hS => ?_)
    have hr9 := hp
    subst hr9
    refine lv_goto (tgt := 26) hx hb dX1_isFolded_18 (by decide) ?_
    exact W.zret hx hb hr b2i_nar (fun t ht hW => ⟨⟨_, w1, rfl, rfl, wEnd M0.mv hX ht hW⟩, hS.F ht⟩) hS.2.2 dX1_isFolded_26
set_option maxHeartbeats 4000000 in
set_option maxRecDepth 100000 in
theorem nX1_isFolded (x : Int32) (hbad : legB N x = false) : Met l yX1_isFolded (wm yX1_isFolded cX1_isFolded 2 (some .boolean)) ({ frames := 2, cells := 0, slots := 0, locals := 43 } : Room) (va_Pc [.ref (q 0), .int x] (fun U => M0 D cyI cyZ q th (nI N) st md v w U U.heap)) (va_Qi (fun (r : Int32) (u : Nat → Nat → Int32) => True) (fun u U => (fun (u : Nat → Nat → Int32) => (M0 D cyI cyZ q 1 (nI N) st md v u : State → Heap → Prop)) u U U.heap) (own 8 q)) 0 0 (own 8 q) := by
  refine mt (by decide) (Nat.le_of_ble_eq_true rfl) ?_
  intro p ev s m below meth c ls hF hr hlocks hnm hX hl
  have hF : CallFix p m c cX1_isFolded 2 s _ wA RX1 := hF
  obtain ⟨hx, hb, hml, hown, hts⟩ := id hF
  have hX : M0 D cyI cyZ q th (nI N) st md v w s s.heap := hX
  have hl : lv_has ls 2 [(0, .ref (q 0)), (1, .int x)] := hl
  have hS : va_S (own 8 q) s.heap s.heap [] := va_S.rf
  refine lv_aload_n hx hb dX1_isFolded_0 rfl (lv_at hl 0 rfl) ?_
  refine lv_iconst (v := 0) hx hb dX1_isFolded_1 (by decide) ?_
  refine M0.put_th hF hX hS kf_RX1_35 dX1_isFolded_2 (fun H locs hX hS => ?_)
  refine lv_aload_n hx hb dX1_isFolded_5 rfl (lv_at hl 0 rfl) ?_
  refine lv_iload_n hx hb dX1_isFolded_6 rfl (lv_at hl 1 rfl) ?_
  refine cVi (As := [.int x]) (rest := []) hF (mX1_isLeg x) M0.mv hX (M0.rc hX) jyX1_isLeg kl_RX1_115 ⟨rfl, rfl⟩ ⟨Nat.le_of_ble_eq_true rfl, Nat.le_of_ble_eq_true rfl⟩ rfl hl.1 rfl (Nat.le_of_ble_eq_true rfl) ⟨Nat.zero_le _, Nat.zero_le _⟩ dX1_isFolded_7 (fun r hr9 => ?_)
  subst hr9
  refine lv_if_eq (tgt := 21) hx hb dX1_isFolded_10 (by decide) (fun c10 => ?_) (fun c10 => ?_)
  · have c10b := b2i_f c10
    refine lv_aload_n hx hb dX1_isFolded_21 rfl (lv_at hl 0 rfl) ?_
    refine lv_iconst (v := 1) hx hb dX1_isFolded_22 (by decide) ?_
    refine wVi (mc := 0) (ms := 0) (As := [.int 1]) (rest := []) hF (mX1_isNot 1) M0.mv (fun _ => M0.mv) hX (M0.rc hX) jyX1_isNot kl_RX1_135 ⟨rfl, rfl⟩ ⟨Nat.le_of_ble_eq_true rfl, Nat.le_of_ble_eq_true rfl⟩ rfl hl.1 rfl (Nat.le_of_ble_eq_true rfl) ⟨Nat.zero_le _, Nat.zero_le _⟩ hS (fun _ _ h => h) (fun _ h => h) dX1_isFolded_23 (fun r9 w1 H locs hp hX hz hk hS => ?_)
    have hr9 := hp
    rw [hr9]
    exact W.zret hx hb hr rfl (fun t ht hW => ⟨⟨_, w1, rfl, trivial, wEnd M0.mv hX ht hW⟩, hS.F ht⟩) hS.2.2 dX1_isFolded_26
  · have c10b := b2i_t c10
    exact absurd hbad (by rw [c10b]; decide)
set_option maxHeartbeats 4000000 in
set_option maxRecDepth 100000 in
theorem mX1_wordIn (hok : Ok N st v) (i : Nat) (hi : i < N) : Met l yX1_wordIn (wm yX1_wordIn cX1_wordIn 2 (some .int)) ({ frames := 2, cells := 0, slots := 0, locals := 43 } : Room) (va_Pc [.ref (q 0), .int (nI i)] (fun U => M0 D cyI cyZ q th (nI N) st md v w U U.heap)) (va_Qi (fun (r : Int32) (u : Nat → Nat → Int32) => r = wd v i) (fun u U => (fun (u : Nat → Nat → Int32) => (M0 D cyI cyZ q 0 (nI N) st md v u : State → Heap → Prop)) u U U.heap) (own 8 q)) 0 0 (own 8 q) := by
  refine mt (by decide) (Nat.le_of_ble_eq_true rfl) ?_
  intro p ev s m below meth c ls hF hr hlocks hnm hX hl
  have hF : CallFix p m c cX1_wordIn 2 s _ wA RX1 := hF
  obtain ⟨hx, hb, hml, hown, hts⟩ := id hF
  have hX : M0 D cyI cyZ q th (nI N) st md v w s s.heap := hX
  have hl : lv_has ls 2 [(0, .ref (q 0)), (1, .int (nI i))] := hl
  have hS : va_S (own 8 q) s.heap s.heap [] := va_S.rf
  have hN := hok.1
  refine lv_aload_n hx hb dX1_wordIn_0 rfl (lv_at hl 0 rfl) ?_
  refine lv_iconst (v := 0) hx hb dX1_wordIn_1 (by decide) ?_
  refine M0.put_th hF hX hS kf_RX1_35 dX1_wordIn_2 (fun H locs hX hS => ?_)
  refine lv_aload_n hx hb dX1_wordIn_5 rfl (lv_at hl 0 rfl) ?_
  refine lv_iload_n hx hb dX1_wordIn_6 rfl (lv_at hl 1 rfl) ?_
  refine cVi (As := [.int (nI i)]) (rest := []) hF (mX1_isLeg (nI i)) M0.mv hX (M0.rc hX) jyX1_isLeg kl_RX1_115 ⟨rfl, rfl⟩ ⟨Nat.le_of_ble_eq_true rfl, Nat.le_of_ble_eq_true rfl⟩ rfl hl.1 rfl (Nat.le_of_ble_eq_true rfl) ⟨Nat.zero_le _, Nat.zero_le _⟩ dX1_wordIn_7 (fun r hr9 => ?_)
  subst hr9
  refine lv_if_eq (tgt := 27) hx hb dX1_wordIn_10 (by decide) (fun c10 => ?_) (fun c10 => ?_)
  · have c10b := b2i_f c10
    exact absurd (legB_t hi hN) (by rw [c10b]; decide)
  · have c10b := b2i_t c10
    refine lv_aload_n hx hb dX1_wordIn_13 rfl (lv_at hl 0 rfl) ?_
    refine M0.get hF hX 6 (by decide) rfl rfl kf_RX1_23 dX1_wordIn_14 ?_
    refine lv_aload_n hx hb dX1_wordIn_17 rfl (lv_at hl 0 rfl) ?_
    refine M0.get hF hX 5 (by decide) rfl rfl kf_RX1_20 dX1_wordIn_18 ?_
    refine lv_iload_n hx hb dX1_wordIn_21 rfl (lv_at hl 1 rfl) ?_
    refine aldI hF hX.2.1 hX.1 3 0 rfl rfl i (by omega) (by decide) rfl dX1_wordIn_22 ?_
    refine aldI hF hX.2.1 hX.1 4 0 rfl rfl (ix (v 2 i)) (okM10 hok i) (by decide) (okM hok i) dX1_wordIn_23 ?_
    refine lv_goto (tgt := 32) hx hb dX1_wordIn_24 (by decide) ?_
    exact W.iret hx hb hr (fun t ht hW => ⟨⟨_, w, rfl, rfl, wEnd M0.mv hX ht hW⟩, hS.F ht⟩) hS.2.2 dX1_wordIn_32
set_option maxHeartbeats 4000000 in
set_option maxRecDepth 100000 in
theorem nX1_wordIn (x : Int32) (hbad : legB N x = false) : Met l yX1_wordIn (wm yX1_wordIn cX1_wordIn 2 (some .int)) ({ frames := 2, cells := 0, slots := 0, locals := 43 } : Room) (va_Pc [.ref (q 0), .int x] (fun U => M0 D cyI cyZ q th (nI N) st md v w U U.heap)) (va_Qi (fun (r : Int32) (u : Nat → Nat → Int32) => True) (fun u U => (fun (u : Nat → Nat → Int32) => (M0 D cyI cyZ q 1 (nI N) st md v u : State → Heap → Prop)) u U U.heap) (own 8 q)) 0 0 (own 8 q) := by
  refine mt (by decide) (Nat.le_of_ble_eq_true rfl) ?_
  intro p ev s m below meth c ls hF hr hlocks hnm hX hl
  have hF : CallFix p m c cX1_wordIn 2 s _ wA RX1 := hF
  obtain ⟨hx, hb, hml, hown, hts⟩ := id hF
  have hX : M0 D cyI cyZ q th (nI N) st md v w s s.heap := hX
  have hl : lv_has ls 2 [(0, .ref (q 0)), (1, .int x)] := hl
  have hS : va_S (own 8 q) s.heap s.heap [] := va_S.rf
  refine lv_aload_n hx hb dX1_wordIn_0 rfl (lv_at hl 0 rfl) ?_
  refine lv_iconst (v := 0) hx hb dX1_wordIn_1 (by decide) ?_
  refine M0.put_th hF hX hS kf_RX1_35 dX1_wordIn_2 (fun H locs hX hS => ?_)
  refine lv_aload_n hx hb dX1_wordIn_5 rfl (lv_at hl 0 rfl) ?_
  refine lv_iload_n hx hb dX1_wordIn_6 rfl (lv_at hl 1 rfl) ?_
  refine cVi (As := [.int x]) (rest := []) hF (mX1_isLeg x) M0.mv hX (M0.rc hX) jyX1_isLeg kl_RX1_115 ⟨rfl, rfl⟩ ⟨Nat.le_of_ble_eq_true rfl, Nat.le_of_ble_eq_true rfl⟩ rfl hl.1 rfl (Nat.le_of_ble_eq_true rfl) ⟨Nat.zero_le _, Nat.zero_le _⟩ dX1_wordIn_7 (fun r hr9 => ?_)
  subst hr9
  refine lv_if_eq (tgt := 27) hx hb dX1_wordIn_10 (by decide) (fun c10 => ?_) (fun c10 => ?_)
  · have c10b := b2i_f c10
    refine lv_aload_n hx hb dX1_wordIn_27 rfl (lv_at hl 0 rfl) ?_
    refine lv_iconst (v := 1) hx hb dX1_wordIn_28 (by decide) ?_
    refine wVi (mc := 0) (ms := 0) (As := [.int 1]) (rest := []) hF (mX1_no 1) M0.mv (fun _ => M0.mv) hX (M0.rc hX) jyX1_no kl_RX1_112 ⟨rfl, rfl⟩ ⟨Nat.le_of_ble_eq_true rfl, Nat.le_of_ble_eq_true rfl⟩ rfl hl.1 rfl (Nat.le_of_ble_eq_true rfl) ⟨Nat.zero_le _, Nat.zero_le _⟩ hS (fun _ _ h => h) (fun _ h => h) dX1_wordIn_29 (fun r9 w1 H locs hp hX hz hk hS => ?_)
    have hr9 := hp
    rw [hr9]
    exact W.iret hx hb hr (fun t ht hW => ⟨⟨_, w1, rfl, trivial, wEnd M0.mv hX ht hW⟩, hS.F ht⟩) hS.2.2 dX1_wordIn_32
  · have c10b := b2i_t c10
    exact absurd hbad (by rw [c10b]; decide)
set_option maxHeartbeats 4000000 in
set_option maxRecDepth 100000 in
theorem mX1_readings (hok : Ok N st v) (i : Nat) (hi : i < N) : Met l yX1_readings (wm yX1_readings cX1_readings 2 (some .int)) ({ frames := 5, cells := 0, slots := 0, locals := 108 } : Room) (va_Pc [.ref (q 0), .int (nI i)] (fun U => M0 D cyI cyZ q th (nI N) st md v w U U.heap)) (va_Qi (fun (r : Int32) (u : Nat → Nat → Int32) => r = rdn v st i) (fun u U => (fun (u : Nat → Nat → Int32) => (M0 D cyI cyZ q 0 (nI N) st md v u : State → Heap → Prop)) u U U.heap) (own 8 q)) 0 0 (own 8 q) := by
  refine mt (by decide) (Nat.le_of_ble_eq_true rfl) ?_
  intro p ev s m below meth c ls hF hr hlocks hnm hX hl
  have hF : CallFix p m c cX1_readings 2 s _ wA RX1 := hF
  obtain ⟨hx, hb, hml, hown, hts⟩ := id hF
  have hX : M0 D cyI cyZ q th (nI N) st md v w s s.heap := hX
  have hl : lv_has ls 2 [(0, .ref (q 0)), (1, .int (nI i))] := hl
  have hS : va_S (own 8 q) s.heap s.heap [] := va_S.rf
  have hN := hok.1
  refine lv_aload_n hx hb dX1_readings_0 rfl (lv_at hl 0 rfl) ?_
  refine lv_iconst (v := 0) hx hb dX1_readings_1 (by decide) ?_
  refine M0.put_th hF hX hS kf_RX1_35 dX1_readings_2 (fun H locs hX hS => ?_)
  refine lv_aload_n hx hb dX1_readings_5 rfl (lv_at hl 0 rfl) ?_
  refine lv_iload_n hx hb dX1_readings_6 rfl (lv_at hl 1 rfl) ?_
  refine cVi (As := [.int (nI i)]) (rest := []) hF (mX1_isLeg (nI i)) M0.mv hX (M0.rc hX) jyX1_isLeg kl_RX1_115 ⟨rfl, rfl⟩ ⟨Nat.le_of_ble_eq_true rfl, Nat.le_of_ble_eq_true rfl⟩ rfl hl.1 rfl (Nat.le_of_ble_eq_true rfl) ⟨Nat.zero_le _, Nat.zero_le _⟩ dX1_readings_7 (fun r hr9 => ?_)
  subst hr9
  refine lv_if_eq (tgt := 21) hx hb dX1_readings_10 (by decide) (fun c10 => ?_) (fun c10 => ?_)
  · have c10b := b2i_f c10
    exact absurd (legB_t hi hN) (by rw [c10b]; decide)
  · have c10b := b2i_t c10
    refine lv_aload_n hx hb dX1_readings_13 rfl (lv_at hl 0 rfl) ?_
    refine lv_iload_n hx hb dX1_readings_14 rfl (lv_at hl 1 rfl) ?_
    refine wVi (mc := 0) (ms := 0) (As := [.int (nI i)]) (rest := []) hF (mX1_manyNow hok i (by omega)) M0.mv (fun _ => M0.mv) hX (M0.rc hX) jyX1_manyNow kl_RX1_91 ⟨rfl, rfl⟩ ⟨Nat.le_of_ble_eq_true rfl, Nat.le_of_ble_eq_true rfl⟩ rfl hl.1 rfl (Nat.le_of_ble_eq_true rfl) ⟨Nat.zero_le _, Nat.zero_le _⟩ hS (fun _ _ h => h) (fun _ h => h) dX1_readings_15 (fun r9 w1 H locs hp hX hz hk hS => ?_)
    have hr9 := hp
    subst hr9
    refine lv_goto (tgt := 26) hx hb dX1_readings_18 (by decide) ?_
    exact W.iret hx hb hr (fun t ht hW => ⟨⟨_, w1, rfl, rfl, wEnd M0.mv hX ht hW⟩, hS.F ht⟩) hS.2.2 dX1_readings_26
set_option maxHeartbeats 4000000 in
set_option maxRecDepth 100000 in
theorem nX1_readings (x : Int32) (hbad : legB N x = false) : Met l yX1_readings (wm yX1_readings cX1_readings 2 (some .int)) ({ frames := 2, cells := 0, slots := 0, locals := 43 } : Room) (va_Pc [.ref (q 0), .int x] (fun U => M0 D cyI cyZ q th (nI N) st md v w U U.heap)) (va_Qi (fun (r : Int32) (u : Nat → Nat → Int32) => True) (fun u U => (fun (u : Nat → Nat → Int32) => (M0 D cyI cyZ q 1 (nI N) st md v u : State → Heap → Prop)) u U U.heap) (own 8 q)) 0 0 (own 8 q) := by
  refine mt (by decide) (Nat.le_of_ble_eq_true rfl) ?_
  intro p ev s m below meth c ls hF hr hlocks hnm hX hl
  have hF : CallFix p m c cX1_readings 2 s _ wA RX1 := hF
  obtain ⟨hx, hb, hml, hown, hts⟩ := id hF
  have hX : M0 D cyI cyZ q th (nI N) st md v w s s.heap := hX
  have hl : lv_has ls 2 [(0, .ref (q 0)), (1, .int x)] := hl
  have hS : va_S (own 8 q) s.heap s.heap [] := va_S.rf
  refine lv_aload_n hx hb dX1_readings_0 rfl (lv_at hl 0 rfl) ?_
  refine lv_iconst (v := 0) hx hb dX1_readings_1 (by decide) ?_
  refine M0.put_th hF hX hS kf_RX1_35 dX1_readings_2 (fun H locs hX hS => ?_)
  refine lv_aload_n hx hb dX1_readings_5 rfl (lv_at hl 0 rfl) ?_
  refine lv_iload_n hx hb dX1_readings_6 rfl (lv_at hl 1 rfl) ?_
  refine cVi (As := [.int x]) (rest := []) hF (mX1_isLeg x) M0.mv hX (M0.rc hX) jyX1_isLeg kl_RX1_115 ⟨rfl, rfl⟩ ⟨Nat.le_of_ble_eq_true rfl, Nat.le_of_ble_eq_true rfl⟩ rfl hl.1 rfl (Nat.le_of_ble_eq_true rfl) ⟨Nat.zero_le _, Nat.zero_le _⟩ dX1_readings_7 (fun r hr9 => ?_)
  subst hr9
  refine lv_if_eq (tgt := 21) hx hb dX1_readings_10 (by decide) (fun c10 => ?_) (fun c10 => ?_)
  · have c10b := b2i_f c10
    refine lv_aload_n hx hb dX1_readings_21 rfl (lv_at hl 0 rfl) ?_
    refine lv_iconst (v := 1) hx hb dX1_readings_22 (by decide) ?_
    refine wVi (mc := 0) (ms := 0) (As := [.int 1]) (rest := []) hF (mX1_no 1) M0.mv (fun _ => M0.mv) hX (M0.rc hX) jyX1_no kl_RX1_112 ⟨rfl, rfl⟩ ⟨Nat.le_of_ble_eq_true rfl, Nat.le_of_ble_eq_true rfl⟩ rfl hl.1 rfl (Nat.le_of_ble_eq_true rfl) ⟨Nat.zero_le _, Nat.zero_le _⟩ hS (fun _ _ h => h) (fun _ h => h) dX1_readings_23 (fun r9 w1 H locs hp hX hz hk hS => ?_)
    have hr9 := hp
    rw [hr9]
    exact W.iret hx hb hr (fun t ht hW => ⟨⟨_, w1, rfl, trivial, wEnd M0.mv hX ht hW⟩, hS.F ht⟩) hS.2.2 dX1_readings_26
  · have c10b := b2i_t c10
    exact absurd hbad (by rw [c10b]; decide)
set_option maxHeartbeats 4000000 in
set_option maxRecDepth 100000 in
theorem mX1_rightReading (hok : Ok N st v) (i : Nat) (hi : i < N) : Met l yX1_rightReading (wm yX1_rightReading cX1_rightReading 2 (some .int)) ({ frames := 4, cells := 0, slots := 0, locals := 88 } : Room) (va_Pc [.ref (q 0), .int (nI i)] (fun U => M0 D cyI cyZ q th (nI N) st md v w U U.heap)) (va_Qi (fun (r : Int32) (u : Nat → Nat → Int32) => r = rrn v st i) (fun u U => (fun (u : Nat → Nat → Int32) => (M0 D cyI cyZ q 0 (nI N) st md v u : State → Heap → Prop)) u U U.heap) (own 8 q)) 0 0 (own 8 q) := by
  refine mt (by decide) (Nat.le_of_ble_eq_true rfl) ?_
  intro p ev s m below meth c ls hF hr hlocks hnm hX hl
  have hF : CallFix p m c cX1_rightReading 2 s _ wA RX1 := hF
  obtain ⟨hx, hb, hml, hown, hts⟩ := id hF
  have hX : M0 D cyI cyZ q th (nI N) st md v w s s.heap := hX
  have hl : lv_has ls 2 [(0, .ref (q 0)), (1, .int (nI i))] := hl
  have hS : va_S (own 8 q) s.heap s.heap [] := va_S.rf
  have hN := hok.1
  refine lv_aload_n hx hb dX1_rightReading_0 rfl (lv_at hl 0 rfl) ?_
  refine lv_iconst (v := 0) hx hb dX1_rightReading_1 (by decide) ?_
  refine M0.put_th hF hX hS kf_RX1_35 dX1_rightReading_2 (fun H locs hX hS => ?_)
  refine lv_aload_n hx hb dX1_rightReading_5 rfl (lv_at hl 0 rfl) ?_
  refine lv_iload_n hx hb dX1_rightReading_6 rfl (lv_at hl 1 rfl) ?_
  refine cVi (As := [.int (nI i)]) (rest := []) hF (mX1_isLeg (nI i)) M0.mv hX (M0.rc hX) jyX1_isLeg kl_RX1_115 ⟨rfl, rfl⟩ ⟨Nat.le_of_ble_eq_true rfl, Nat.le_of_ble_eq_true rfl⟩ rfl hl.1 rfl (Nat.le_of_ble_eq_true rfl) ⟨Nat.zero_le _, Nat.zero_le _⟩ dX1_rightReading_7 (fun r hr9 => ?_)
  subst hr9
  refine lv_if_eq (tgt := 21) hx hb dX1_rightReading_10 (by decide) (fun c10 => ?_) (fun c10 => ?_)
  · have c10b := b2i_f c10
    exact absurd (legB_t hi hN) (by rw [c10b]; decide)
  · have c10b := b2i_t c10
    refine lv_aload_n hx hb dX1_rightReading_13 rfl (lv_at hl 0 rfl) ?_
    refine lv_iload_n hx hb dX1_rightReading_14 rfl (lv_at hl 1 rfl) ?_
    refine wVi (mc := 0) (ms := 0) (As := [.int (nI i)]) (rest := []) hF (mX1_right hok i (by omega)) M0.mv (fun _ => M0.mv) hX (M0.rc hX) jyX1_right kl_RX1_149 ⟨rfl, rfl⟩ ⟨Nat.le_of_ble_eq_true rfl, Nat.le_of_ble_eq_true rfl⟩ rfl hl.1 rfl (Nat.le_of_ble_eq_true rfl) ⟨Nat.zero_le _, Nat.zero_le _⟩ hS (fun _ _ h => h) (fun _ h => h) dX1_rightReading_15 (fun r9 w1 H locs hp hX hz hk hS => ?_)
    have hr9 := hp
    subst hr9
    refine lv_goto (tgt := 26) hx hb dX1_rightReading_18 (by decide) ?_
    exact W.iret hx hb hr (fun t ht hW => ⟨⟨_, w1, rfl, rfl, wEnd M0.mv hX ht hW⟩, hS.F ht⟩) hS.2.2 dX1_rightReading_26
set_option maxHeartbeats 4000000 in
set_option maxRecDepth 100000 in
theorem nX1_rightReading (x : Int32) (hbad : legB N x = false) : Met l yX1_rightReading (wm yX1_rightReading cX1_rightReading 2 (some .int)) ({ frames := 2, cells := 0, slots := 0, locals := 43 } : Room) (va_Pc [.ref (q 0), .int x] (fun U => M0 D cyI cyZ q th (nI N) st md v w U U.heap)) (va_Qi (fun (r : Int32) (u : Nat → Nat → Int32) => True) (fun u U => (fun (u : Nat → Nat → Int32) => (M0 D cyI cyZ q 1 (nI N) st md v u : State → Heap → Prop)) u U U.heap) (own 8 q)) 0 0 (own 8 q) := by
  refine mt (by decide) (Nat.le_of_ble_eq_true rfl) ?_
  intro p ev s m below meth c ls hF hr hlocks hnm hX hl
  have hF : CallFix p m c cX1_rightReading 2 s _ wA RX1 := hF
  obtain ⟨hx, hb, hml, hown, hts⟩ := id hF
  have hX : M0 D cyI cyZ q th (nI N) st md v w s s.heap := hX
  have hl : lv_has ls 2 [(0, .ref (q 0)), (1, .int x)] := hl
  have hS : va_S (own 8 q) s.heap s.heap [] := va_S.rf
  refine lv_aload_n hx hb dX1_rightReading_0 rfl (lv_at hl 0 rfl) ?_
  refine lv_iconst (v := 0) hx hb dX1_rightReading_1 (by decide) ?_
  refine M0.put_th hF hX hS kf_RX1_35 dX1_rightReading_2 (fun H locs hX hS => ?_)
  refine lv_aload_n hx hb dX1_rightReading_5 rfl (lv_at hl 0 rfl) ?_
  refine lv_iload_n hx hb dX1_rightReading_6 rfl (lv_at hl 1 rfl) ?_
  refine cVi (As := [.int x]) (rest := []) hF (mX1_isLeg x) M0.mv hX (M0.rc hX) jyX1_isLeg kl_RX1_115 ⟨rfl, rfl⟩ ⟨Nat.le_of_ble_eq_true rfl, Nat.le_of_ble_eq_true rfl⟩ rfl hl.1 rfl (Nat.le_of_ble_eq_true rfl) ⟨Nat.zero_le _, Nat.zero_le _⟩ dX1_rightReading_7 (fun r hr9 => ?_)
  subst hr9
  refine lv_if_eq (tgt := 21) hx hb dX1_rightReading_10 (by decide) (fun c10 => ?_) (fun c10 => ?_)
  · have c10b := b2i_f c10
    refine lv_aload_n hx hb dX1_rightReading_21 rfl (lv_at hl 0 rfl) ?_
    refine lv_iconst (v := 1) hx hb dX1_rightReading_22 (by decide) ?_
    refine wVi (mc := 0) (ms := 0) (As := [.int 1]) (rest := []) hF (mX1_no 1) M0.mv (fun _ => M0.mv) hX (M0.rc hX) jyX1_no kl_RX1_112 ⟨rfl, rfl⟩ ⟨Nat.le_of_ble_eq_true rfl, Nat.le_of_ble_eq_true rfl⟩ rfl hl.1 rfl (Nat.le_of_ble_eq_true rfl) ⟨Nat.zero_le _, Nat.zero_le _⟩ hS (fun _ _ h => h) (fun _ h => h) dX1_rightReading_23 (fun r9 w1 H locs hp hX hz hk hS => ?_)
    have hr9 := hp
    rw [hr9]
    exact W.iret hx hb hr (fun t ht hW => ⟨⟨_, w1, rfl, trivial, wEnd M0.mv hX ht hW⟩, hS.F ht⟩) hS.2.2 dX1_rightReading_26
  · have c10b := b2i_t c10
    exact absurd hbad (by rw [c10b]; decide)
set_option maxHeartbeats 4000000 in
set_option maxRecDepth 100000 in
theorem mX1_isAmbiguous (hok : Ok N st v) (hmk : Mk N mk md) (i : Nat) (hi : i < N) : Met l yX1_isAmbiguous (wm yX1_isAmbiguous cX1_isAmbiguous 2 (some .boolean)) ({ frames := 6, cells := 0, slots := 0, locals := 129 } : Room) (va_Pc [.ref (q 0), .int (nI i)] (fun U => M0 D cyI cyZ q th (nI N) st md v w U U.heap)) (va_Qi (fun (r : Int32) (u : Nat → Nat → Int32) => r = b2i (amb v st mk i)) (fun u U => (fun (u : Nat → Nat → Int32) => (M0 D cyI cyZ q 0 (nI N) st md v u : State → Heap → Prop)) u U U.heap) (own 8 q)) 0 0 (own 8 q) := by
  refine mt (by decide) (Nat.le_of_ble_eq_true rfl) ?_
  intro p ev s m below meth c ls hF hr hlocks hnm hX hl
  have hF : CallFix p m c cX1_isAmbiguous 2 s _ wA RX1 := hF
  obtain ⟨hx, hb, hml, hown, hts⟩ := id hF
  have hX : M0 D cyI cyZ q th (nI N) st md v w s s.heap := hX
  have hl : lv_has ls 2 [(0, .ref (q 0)), (1, .int (nI i))] := hl
  have hS : va_S (own 8 q) s.heap s.heap [] := va_S.rf
  have hN := hok.1
  refine lv_aload_n hx hb dX1_isAmbiguous_0 rfl (lv_at hl 0 rfl) ?_
  refine lv_iconst (v := 0) hx hb dX1_isAmbiguous_1 (by decide) ?_
  refine M0.put_th hF hX hS kf_RX1_35 dX1_isAmbiguous_2 (fun H locs hX hS => ?_)
  refine lv_aload_n hx hb dX1_isAmbiguous_5 rfl (lv_at hl 0 rfl) ?_
  refine lv_iload_n hx hb dX1_isAmbiguous_6 rfl (lv_at hl 1 rfl) ?_
  refine cVi (As := [.int (nI i)]) (rest := []) hF (mX1_isLeg (nI i)) M0.mv hX (M0.rc hX) jyX1_isLeg kl_RX1_115 ⟨rfl, rfl⟩ ⟨Nat.le_of_ble_eq_true rfl, Nat.le_of_ble_eq_true rfl⟩ rfl hl.1 rfl (Nat.le_of_ble_eq_true rfl) ⟨Nat.zero_le _, Nat.zero_le _⟩ dX1_isAmbiguous_7 (fun r hr9 => ?_)
  subst hr9
  refine lv_if_eq (tgt := 21) hx hb dX1_isAmbiguous_10 (by decide) (fun c10 => ?_) (fun c10 => ?_)
  · have c10b := b2i_f c10
    exact absurd (legB_t hi hN) (by rw [c10b]; decide)
  · have c10b := b2i_t c10
    refine lv_aload_n hx hb dX1_isAmbiguous_13 rfl (lv_at hl 0 rfl) ?_
    refine lv_iload_n hx hb dX1_isAmbiguous_14 rfl (lv_at hl 1 rfl) ?_
    refine wVi (mc := 0) (ms := 0) (As := [.int (nI i)]) (rest := []) hF (mX1_isOpen hok hmk i (by omega)) M0.mv (fun _ => M0.mv) hX (M0.rc hX) jyX1_isOpen kl_RX1_94 ⟨rfl, rfl⟩ ⟨Nat.le_of_ble_eq_true rfl, Nat.le_of_ble_eq_true rfl⟩ rfl hl.1 rfl (Nat.le_of_ble_eq_true rfl) ⟨Nat.zero_le _, Nat.zero_le _⟩ hS (fun _ _ h => h) (fun _ h => h) dX1_isAmbiguous_15 (fun r9 w1 H locs hp hX hz hk hS => ?_)
    have hr9 := hp
    subst hr9
    refine lv_goto (tgt := 26) hx hb dX1_isAmbiguous_18 (by decide) ?_
    exact W.zret hx hb hr b2i_nar (fun t ht hW => ⟨⟨_, w1, rfl, rfl, wEnd M0.mv hX ht hW⟩, hS.F ht⟩) hS.2.2 dX1_isAmbiguous_26
set_option maxHeartbeats 4000000 in
set_option maxRecDepth 100000 in
theorem nX1_isAmbiguous (x : Int32) (hbad : legB N x = false) : Met l yX1_isAmbiguous (wm yX1_isAmbiguous cX1_isAmbiguous 2 (some .boolean)) ({ frames := 2, cells := 0, slots := 0, locals := 43 } : Room) (va_Pc [.ref (q 0), .int x] (fun U => M0 D cyI cyZ q th (nI N) st md v w U U.heap)) (va_Qi (fun (r : Int32) (u : Nat → Nat → Int32) => True) (fun u U => (fun (u : Nat → Nat → Int32) => (M0 D cyI cyZ q 1 (nI N) st md v u : State → Heap → Prop)) u U U.heap) (own 8 q)) 0 0 (own 8 q) := by
  refine mt (by decide) (Nat.le_of_ble_eq_true rfl) ?_
  intro p ev s m below meth c ls hF hr hlocks hnm hX hl
  have hF : CallFix p m c cX1_isAmbiguous 2 s _ wA RX1 := hF
  obtain ⟨hx, hb, hml, hown, hts⟩ := id hF
  have hX : M0 D cyI cyZ q th (nI N) st md v w s s.heap := hX
  have hl : lv_has ls 2 [(0, .ref (q 0)), (1, .int x)] := hl
  have hS : va_S (own 8 q) s.heap s.heap [] := va_S.rf
  refine lv_aload_n hx hb dX1_isAmbiguous_0 rfl (lv_at hl 0 rfl) ?_
  refine lv_iconst (v := 0) hx hb dX1_isAmbiguous_1 (by decide) ?_
  refine M0.put_th hF hX hS kf_RX1_35 dX1_isAmbiguous_2 (fun H locs hX hS => ?_)
  refine lv_aload_n hx hb dX1_isAmbiguous_5 rfl (lv_at hl 0 rfl) ?_
  refine lv_iload_n hx hb dX1_isAmbiguous_6 rfl (lv_at hl 1 rfl) ?_
  refine cVi (As := [.int x]) (rest := []) hF (mX1_isLeg x) M0.mv hX (M0.rc hX) jyX1_isLeg kl_RX1_115 ⟨rfl, rfl⟩ ⟨Nat.le_of_ble_eq_true rfl, Nat.le_of_ble_eq_true rfl⟩ rfl hl.1 rfl (Nat.le_of_ble_eq_true rfl) ⟨Nat.zero_le _, Nat.zero_le _⟩ dX1_isAmbiguous_7 (fun r hr9 => ?_)
  subst hr9
  refine lv_if_eq (tgt := 21) hx hb dX1_isAmbiguous_10 (by decide) (fun c10 => ?_) (fun c10 => ?_)
  · have c10b := b2i_f c10
    refine lv_aload_n hx hb dX1_isAmbiguous_21 rfl (lv_at hl 0 rfl) ?_
    refine lv_iconst (v := 1) hx hb dX1_isAmbiguous_22 (by decide) ?_
    refine wVi (mc := 0) (ms := 0) (As := [.int 1]) (rest := []) hF (mX1_isNot 1) M0.mv (fun _ => M0.mv) hX (M0.rc hX) jyX1_isNot kl_RX1_135 ⟨rfl, rfl⟩ ⟨Nat.le_of_ble_eq_true rfl, Nat.le_of_ble_eq_true rfl⟩ rfl hl.1 rfl (Nat.le_of_ble_eq_true rfl) ⟨Nat.zero_le _, Nat.zero_le _⟩ hS (fun _ _ h => h) (fun _ h => h) dX1_isAmbiguous_23 (fun r9 w1 H locs hp hX hz hk hS => ?_)
    have hr9 := hp
    rw [hr9]
    exact W.zret hx hb hr rfl (fun t ht hW => ⟨⟨_, w1, rfl, trivial, wEnd M0.mv hX ht hW⟩, hS.F ht⟩) hS.2.2 dX1_isAmbiguous_26
  · have c10b := b2i_t c10
    exact absurd hbad (by rw [c10b]; decide)
set_option maxHeartbeats 4000000 in
set_option maxRecDepth 100000 in
theorem mX1_isMended (hok : Ok N st v) (hmk : Mk N mk md) (i : Nat) (hi : i < N) : Met l yX1_isMended (wm yX1_isMended cX1_isMended 2 (some .boolean)) ({ frames := 2, cells := 0, slots := 0, locals := 43 } : Room) (va_Pc [.ref (q 0), .int (nI i)] (fun U => M0 D cyI cyZ q th (nI N) st md v w U U.heap)) (va_Qi (fun (r : Int32) (u : Nat → Nat → Int32) => r = b2i (mk i)) (fun u U => (fun (u : Nat → Nat → Int32) => (M0 D cyI cyZ q 0 (nI N) st md v u : State → Heap → Prop)) u U U.heap) (own 8 q)) 0 0 (own 8 q) := by
  refine mt (by decide) (Nat.le_of_ble_eq_true rfl) ?_
  intro p ev s m below meth c ls hF hr hlocks hnm hX hl
  have hF : CallFix p m c cX1_isMended 2 s _ wA RX1 := hF
  obtain ⟨hx, hb, hml, hown, hts⟩ := id hF
  have hX : M0 D cyI cyZ q th (nI N) st md v w s s.heap := hX
  have hl : lv_has ls 2 [(0, .ref (q 0)), (1, .int (nI i))] := hl
  have hS : va_S (own 8 q) s.heap s.heap [] := va_S.rf
  have hN := hok.1
  refine lv_aload_n hx hb dX1_isMended_0 rfl (lv_at hl 0 rfl) ?_
  refine lv_iconst (v := 0) hx hb dX1_isMended_1 (by decide) ?_
  refine M0.put_th hF hX hS kf_RX1_35 dX1_isMended_2 (fun H locs hX hS => ?_)
  refine lv_aload_n hx hb dX1_isMended_5 rfl (lv_at hl 0 rfl) ?_
  refine lv_iload_n hx hb dX1_isMended_6 rfl (lv_at hl 1 rfl) ?_
  refine cVi (As := [.int (nI i)]) (rest := []) hF (mX1_isLeg (nI i)) M0.mv hX (M0.rc hX) jyX1_isLeg kl_RX1_115 ⟨rfl, rfl⟩ ⟨Nat.le_of_ble_eq_true rfl, Nat.le_of_ble_eq_true rfl⟩ rfl hl.1 rfl (Nat.le_of_ble_eq_true rfl) ⟨Nat.zero_le _, Nat.zero_le _⟩ dX1_isMended_7 (fun r hr9 => ?_)
  subst hr9
  refine lv_if_eq (tgt := 21) hx hb dX1_isMended_10 (by decide) (fun c10 => ?_) (fun c10 => ?_)
  · have c10b := b2i_f c10
    exact absurd (legB_t hi hN) (by rw [c10b]; decide)
  · have c10b := b2i_t c10
    refine lv_aload_n hx hb dX1_isMended_13 rfl (lv_at hl 0 rfl) ?_
    refine lv_iload_n hx hb dX1_isMended_14 rfl (lv_at hl 1 rfl) ?_
    refine cVi (As := [.int (nI i)]) (rest := []) hF (mX1_isMendedNow hok hmk i (by omega)) M0.mv hX (M0.rc hX) jyX1_isMendedNow kl_RX1_88 ⟨rfl, rfl⟩ ⟨Nat.le_of_ble_eq_true rfl, Nat.le_of_ble_eq_true rfl⟩ rfl hl.1 rfl (Nat.le_of_ble_eq_true rfl) ⟨Nat.zero_le _, Nat.zero_le _⟩ dX1_isMended_15 (fun r hr9 => ?_)
    subst hr9
    refine lv_goto (tgt := 26) hx hb dX1_isMended_18 (by decide) ?_
    exact W.zret hx hb hr b2i_nar (fun t ht hW => ⟨⟨_, w, rfl, rfl, wEnd M0.mv hX ht hW⟩, hS.F ht⟩) hS.2.2 dX1_isMended_26
set_option maxHeartbeats 4000000 in
set_option maxRecDepth 100000 in
theorem nX1_isMended (x : Int32) (hbad : legB N x = false) : Met l yX1_isMended (wm yX1_isMended cX1_isMended 2 (some .boolean)) ({ frames := 2, cells := 0, slots := 0, locals := 43 } : Room) (va_Pc [.ref (q 0), .int x] (fun U => M0 D cyI cyZ q th (nI N) st md v w U U.heap)) (va_Qi (fun (r : Int32) (u : Nat → Nat → Int32) => True) (fun u U => (fun (u : Nat → Nat → Int32) => (M0 D cyI cyZ q 1 (nI N) st md v u : State → Heap → Prop)) u U U.heap) (own 8 q)) 0 0 (own 8 q) := by
  refine mt (by decide) (Nat.le_of_ble_eq_true rfl) ?_
  intro p ev s m below meth c ls hF hr hlocks hnm hX hl
  have hF : CallFix p m c cX1_isMended 2 s _ wA RX1 := hF
  obtain ⟨hx, hb, hml, hown, hts⟩ := id hF
  have hX : M0 D cyI cyZ q th (nI N) st md v w s s.heap := hX
  have hl : lv_has ls 2 [(0, .ref (q 0)), (1, .int x)] := hl
  have hS : va_S (own 8 q) s.heap s.heap [] := va_S.rf
  refine lv_aload_n hx hb dX1_isMended_0 rfl (lv_at hl 0 rfl) ?_
  refine lv_iconst (v := 0) hx hb dX1_isMended_1 (by decide) ?_
  refine M0.put_th hF hX hS kf_RX1_35 dX1_isMended_2 (fun H locs hX hS => ?_)
  refine lv_aload_n hx hb dX1_isMended_5 rfl (lv_at hl 0 rfl) ?_
  refine lv_iload_n hx hb dX1_isMended_6 rfl (lv_at hl 1 rfl) ?_
  refine cVi (As := [.int x]) (rest := []) hF (mX1_isLeg x) M0.mv hX (M0.rc hX) jyX1_isLeg kl_RX1_115 ⟨rfl, rfl⟩ ⟨Nat.le_of_ble_eq_true rfl, Nat.le_of_ble_eq_true rfl⟩ rfl hl.1 rfl (Nat.le_of_ble_eq_true rfl) ⟨Nat.zero_le _, Nat.zero_le _⟩ dX1_isMended_7 (fun r hr9 => ?_)
  subst hr9
  refine lv_if_eq (tgt := 21) hx hb dX1_isMended_10 (by decide) (fun c10 => ?_) (fun c10 => ?_)
  · have c10b := b2i_f c10
    refine lv_aload_n hx hb dX1_isMended_21 rfl (lv_at hl 0 rfl) ?_
    refine lv_iconst (v := 1) hx hb dX1_isMended_22 (by decide) ?_
    refine wVi (mc := 0) (ms := 0) (As := [.int 1]) (rest := []) hF (mX1_isNot 1) M0.mv (fun _ => M0.mv) hX (M0.rc hX) jyX1_isNot kl_RX1_135 ⟨rfl, rfl⟩ ⟨Nat.le_of_ble_eq_true rfl, Nat.le_of_ble_eq_true rfl⟩ rfl hl.1 rfl (Nat.le_of_ble_eq_true rfl) ⟨Nat.zero_le _, Nat.zero_le _⟩ hS (fun _ _ h => h) (fun _ h => h) dX1_isMended_23 (fun r9 w1 H locs hp hX hz hk hS => ?_)
    have hr9 := hp
    rw [hr9]
    exact W.zret hx hb hr rfl (fun t ht hW => ⟨⟨_, w1, rfl, trivial, wEnd M0.mv hX ht hW⟩, hS.F ht⟩) hS.2.2 dX1_isMended_26
  · have c10b := b2i_t c10
    exact absurd hbad (by rw [c10b]; decide)
set_option maxHeartbeats 4000000 in
set_option maxRecDepth 100000 in
theorem mX1_wordOf (hok : Ok N st v) (i : Nat) (hi : i < 10) : Met l yX1_wordOf (wm yX1_wordOf cX1_wordOf 2 (some .int)) ({ frames := 2, cells := 0, slots := 0, locals := 42 } : Room) (va_Pc [.ref (q 0), .int (nI i)] (fun U => M0 D cyI cyZ q th (nI N) st md v w U U.heap)) (va_Qi (fun (r : Int32) (u : Nat → Nat → Int32) => r = v 3 i) (fun u U => (fun (u : Nat → Nat → Int32) => (M0 D cyI cyZ q 0 (nI N) st md v u : State → Heap → Prop)) u U U.heap) (own 8 q)) 0 0 (own 8 q) := by
  refine mt (by decide) (Nat.le_of_ble_eq_true rfl) ?_
  intro p ev s m below meth c ls hF hr hlocks hnm hX hl
  have hF : CallFix p m c cX1_wordOf 2 s _ wA RX1 := hF
  obtain ⟨hx, hb, hml, hown, hts⟩ := id hF
  have hX : M0 D cyI cyZ q th (nI N) st md v w s s.heap := hX
  have hl : lv_has ls 2 [(0, .ref (q 0)), (1, .int (nI i))] := hl
  have hS : va_S (own 8 q) s.heap s.heap [] := va_S.rf
  have hN := hok.1
  refine lv_aload_n hx hb dX1_wordOf_0 rfl (lv_at hl 0 rfl) ?_
  refine lv_iconst (v := 0) hx hb dX1_wordOf_1 (by decide) ?_
  refine M0.put_th hF hX hS kf_RX1_35 dX1_wordOf_2 (fun H locs hX hS => ?_)
  refine lv_iload_n hx hb dX1_wordOf_5 rfl (lv_at hl 1 rfl) ?_
  refine cSi (As := [.int (nI i)]) (rest := []) hF (mX1_isKind (nI i)) Mv.const trivial jyX1_isKind kl_RX1_109 ⟨rfl, rfl⟩ ⟨Nat.le_of_ble_eq_true rfl, Nat.le_of_ble_eq_true rfl⟩ rfl hl.1 rfl (Nat.le_of_ble_eq_true rfl) ⟨Nat.zero_le _, Nat.zero_le _⟩ dX1_wordOf_6 (fun r hr9 => ?_)
  subst hr9
  refine lv_if_eq (tgt := 21) hx hb dX1_wordOf_9 (by decide) (fun c9 => ?_) (fun c9 => ?_)
  · have c9b := b2i_f c9
    exact absurd (isI_k hi) (by rw [c9b]; decide)
  · have c9b := b2i_t c9
    refine lv_aload_n hx hb dX1_wordOf_12 rfl (lv_at hl 0 rfl) ?_
    refine M0.get hF hX 6 (by decide) rfl rfl kf_RX1_23 dX1_wordOf_13 ?_
    refine lv_iload_n hx hb dX1_wordOf_16 rfl (lv_at hl 1 rfl) ?_
    refine aldI hF hX.2.1 hX.1 4 0 rfl rfl i (by omega) (by decide) rfl dX1_wordOf_17 ?_
    refine lv_goto (tgt := 26) hx hb dX1_wordOf_18 (by decide) ?_
    exact W.iret hx hb hr (fun t ht hW => ⟨⟨_, w, rfl, rfl, wEnd M0.mv hX ht hW⟩, hS.F ht⟩) hS.2.2 dX1_wordOf_26
set_option maxHeartbeats 4000000 in
set_option maxRecDepth 100000 in
theorem nX1_wordOf (x : Int32) (hbad : isI x 0 9 = false) : Met l yX1_wordOf (wm yX1_wordOf cX1_wordOf 2 (some .int)) ({ frames := 2, cells := 0, slots := 0, locals := 42 } : Room) (va_Pc [.ref (q 0), .int x] (fun U => M0 D cyI cyZ q th (nI N) st md v w U U.heap)) (va_Qi (fun (r : Int32) (u : Nat → Nat → Int32) => True) (fun u U => (fun (u : Nat → Nat → Int32) => (M0 D cyI cyZ q 1 (nI N) st md v u : State → Heap → Prop)) u U U.heap) (own 8 q)) 0 0 (own 8 q) := by
  refine mt (by decide) (Nat.le_of_ble_eq_true rfl) ?_
  intro p ev s m below meth c ls hF hr hlocks hnm hX hl
  have hF : CallFix p m c cX1_wordOf 2 s _ wA RX1 := hF
  obtain ⟨hx, hb, hml, hown, hts⟩ := id hF
  have hX : M0 D cyI cyZ q th (nI N) st md v w s s.heap := hX
  have hl : lv_has ls 2 [(0, .ref (q 0)), (1, .int x)] := hl
  have hS : va_S (own 8 q) s.heap s.heap [] := va_S.rf
  refine lv_aload_n hx hb dX1_wordOf_0 rfl (lv_at hl 0 rfl) ?_
  refine lv_iconst (v := 0) hx hb dX1_wordOf_1 (by decide) ?_
  refine M0.put_th hF hX hS kf_RX1_35 dX1_wordOf_2 (fun H locs hX hS => ?_)
  refine lv_iload_n hx hb dX1_wordOf_5 rfl (lv_at hl 1 rfl) ?_
  refine cSi (As := [.int x]) (rest := []) hF (mX1_isKind x) Mv.const trivial jyX1_isKind kl_RX1_109 ⟨rfl, rfl⟩ ⟨Nat.le_of_ble_eq_true rfl, Nat.le_of_ble_eq_true rfl⟩ rfl hl.1 rfl (Nat.le_of_ble_eq_true rfl) ⟨Nat.zero_le _, Nat.zero_le _⟩ dX1_wordOf_6 (fun r hr9 => ?_)
  subst hr9
  refine lv_if_eq (tgt := 21) hx hb dX1_wordOf_9 (by decide) (fun c9 => ?_) (fun c9 => ?_)
  · have c9b := b2i_f c9
    refine lv_aload_n hx hb dX1_wordOf_21 rfl (lv_at hl 0 rfl) ?_
    refine lv_iconst (v := 1) hx hb dX1_wordOf_22 (by decide) ?_
    refine wVi (mc := 0) (ms := 0) (As := [.int 1]) (rest := []) hF (mX1_no 1) M0.mv (fun _ => M0.mv) hX (M0.rc hX) jyX1_no kl_RX1_112 ⟨rfl, rfl⟩ ⟨Nat.le_of_ble_eq_true rfl, Nat.le_of_ble_eq_true rfl⟩ rfl hl.1 rfl (Nat.le_of_ble_eq_true rfl) ⟨Nat.zero_le _, Nat.zero_le _⟩ hS (fun _ _ h => h) (fun _ h => h) dX1_wordOf_23 (fun r9 w1 H locs hp hX hz hk hS => ?_)
    have hr9 := hp
    rw [hr9]
    exact W.iret hx hb hr (fun t ht hW => ⟨⟨_, w1, rfl, trivial, wEnd M0.mv hX ht hW⟩, hS.F ht⟩) hS.2.2 dX1_wordOf_26
  · have c9b := b2i_t c9
    exact absurd hbad (by rw [c9b]; decide)
set_option maxHeartbeats 4000000 in
set_option maxRecDepth 100000 in
theorem mX1_bestWord (hok : Ok N st v) (i : Nat) (hi : i < 10) : Met l yX1_bestWord (wm yX1_bestWord cX1_bestWord 2 (some .int)) ({ frames := 7, cells := 0, slots := 0, locals := 157 } : Room) (va_Pc [.ref (q 0), .int (nI i)] (fun U => M0 D cyI cyZ q th (nI N) st md v w U U.heap)) (va_Qi (fun (r : Int32) (u : Nat → Nat → Int32) => r = nI (bwd v st N i)) (fun u U => (fun (u : Nat → Nat → Int32) => (M0 D cyI cyZ q 0 (nI N) st md v u : State → Heap → Prop)) u U U.heap) (own 8 q)) 0 0 (own 8 q) := by
  refine mt (by decide) (Nat.le_of_ble_eq_true rfl) ?_
  intro p ev s m below meth c ls hF hr hlocks hnm hX hl
  have hF : CallFix p m c cX1_bestWord 2 s _ wA RX1 := hF
  obtain ⟨hx, hb, hml, hown, hts⟩ := id hF
  have hX : M0 D cyI cyZ q th (nI N) st md v w s s.heap := hX
  have hl : lv_has ls 2 [(0, .ref (q 0)), (1, .int (nI i))] := hl
  have hS : va_S (own 8 q) s.heap s.heap [] := va_S.rf
  have hN := hok.1
  refine lv_aload_n hx hb dX1_bestWord_0 rfl (lv_at hl 0 rfl) ?_
  refine lv_iconst (v := 0) hx hb dX1_bestWord_1 (by decide) ?_
  refine M0.put_th hF hX hS kf_RX1_35 dX1_bestWord_2 (fun H locs hX hS => ?_)
  refine lv_iload_n hx hb dX1_bestWord_5 rfl (lv_at hl 1 rfl) ?_
  refine cSi (As := [.int (nI i)]) (rest := []) hF (mX1_isKind (nI i)) Mv.const trivial jyX1_isKind kl_RX1_109 ⟨rfl, rfl⟩ ⟨Nat.le_of_ble_eq_true rfl, Nat.le_of_ble_eq_true rfl⟩ rfl hl.1 rfl (Nat.le_of_ble_eq_true rfl) ⟨Nat.zero_le _, Nat.zero_le _⟩ dX1_bestWord_6 (fun r hr9 => ?_)
  subst hr9
  refine lv_if_eq (tgt := 20) hx hb dX1_bestWord_9 (by decide) (fun c9 => ?_) (fun c9 => ?_)
  · have c9b := b2i_f c9
    exact absurd (isI_k hi) (by rw [c9b]; decide)
  · have c9b := b2i_t c9
    refine lv_aload_n hx hb dX1_bestWord_12 rfl (lv_at hl 0 rfl) ?_
    refine lv_iload_n hx hb dX1_bestWord_13 rfl (lv_at hl 1 rfl) ?_
    refine wVi (mc := 0) (ms := 0) (As := [.int (nI i)]) (rest := []) hF (mX1_wordFor hok i (by omega)) M0.mv (fun _ => M0.mv) hX (M0.rc hX) jyX1_wordFor kl_RX1_163 ⟨rfl, rfl⟩ ⟨Nat.le_of_ble_eq_true rfl, Nat.le_of_ble_eq_true rfl⟩ rfl hl.1 rfl (Nat.le_of_ble_eq_true rfl) ⟨Nat.zero_le _, Nat.zero_le _⟩ hS (fun _ _ h => h) (fun _ h => h) dX1_bestWord_14 (fun r9 w1 H locs hp hX hz hk hS => ?_)
    have hr9 := hp
    subst hr9
    refine lv_goto (tgt := 25) hx hb dX1_bestWord_17 (by decide) ?_
    exact W.iret hx hb hr (fun t ht hW => ⟨⟨_, w1, rfl, rfl, wEnd M0.mv hX ht hW⟩, hS.F ht⟩) hS.2.2 dX1_bestWord_25
set_option maxHeartbeats 4000000 in
set_option maxRecDepth 100000 in
theorem nX1_bestWord (x : Int32) (hbad : isI x 0 9 = false) : Met l yX1_bestWord (wm yX1_bestWord cX1_bestWord 2 (some .int)) ({ frames := 2, cells := 0, slots := 0, locals := 42 } : Room) (va_Pc [.ref (q 0), .int x] (fun U => M0 D cyI cyZ q th (nI N) st md v w U U.heap)) (va_Qi (fun (r : Int32) (u : Nat → Nat → Int32) => True) (fun u U => (fun (u : Nat → Nat → Int32) => (M0 D cyI cyZ q 1 (nI N) st md v u : State → Heap → Prop)) u U U.heap) (own 8 q)) 0 0 (own 8 q) := by
  refine mt (by decide) (Nat.le_of_ble_eq_true rfl) ?_
  intro p ev s m below meth c ls hF hr hlocks hnm hX hl
  have hF : CallFix p m c cX1_bestWord 2 s _ wA RX1 := hF
  obtain ⟨hx, hb, hml, hown, hts⟩ := id hF
  have hX : M0 D cyI cyZ q th (nI N) st md v w s s.heap := hX
  have hl : lv_has ls 2 [(0, .ref (q 0)), (1, .int x)] := hl
  have hS : va_S (own 8 q) s.heap s.heap [] := va_S.rf
  refine lv_aload_n hx hb dX1_bestWord_0 rfl (lv_at hl 0 rfl) ?_
  refine lv_iconst (v := 0) hx hb dX1_bestWord_1 (by decide) ?_
  refine M0.put_th hF hX hS kf_RX1_35 dX1_bestWord_2 (fun H locs hX hS => ?_)
  refine lv_iload_n hx hb dX1_bestWord_5 rfl (lv_at hl 1 rfl) ?_
  refine cSi (As := [.int x]) (rest := []) hF (mX1_isKind x) Mv.const trivial jyX1_isKind kl_RX1_109 ⟨rfl, rfl⟩ ⟨Nat.le_of_ble_eq_true rfl, Nat.le_of_ble_eq_true rfl⟩ rfl hl.1 rfl (Nat.le_of_ble_eq_true rfl) ⟨Nat.zero_le _, Nat.zero_le _⟩ dX1_bestWord_6 (fun r hr9 => ?_)
  subst hr9
  refine lv_if_eq (tgt := 20) hx hb dX1_bestWord_9 (by decide) (fun c9 => ?_) (fun c9 => ?_)
  · have c9b := b2i_f c9
    refine lv_aload_n hx hb dX1_bestWord_20 rfl (lv_at hl 0 rfl) ?_
    refine lv_iconst (v := 1) hx hb dX1_bestWord_21 (by decide) ?_
    refine wVi (mc := 0) (ms := 0) (As := [.int 1]) (rest := []) hF (mX1_no 1) M0.mv (fun _ => M0.mv) hX (M0.rc hX) jyX1_no kl_RX1_112 ⟨rfl, rfl⟩ ⟨Nat.le_of_ble_eq_true rfl, Nat.le_of_ble_eq_true rfl⟩ rfl hl.1 rfl (Nat.le_of_ble_eq_true rfl) ⟨Nat.zero_le _, Nat.zero_le _⟩ hS (fun _ _ h => h) (fun _ h => h) dX1_bestWord_22 (fun r9 w1 H locs hp hX hz hk hS => ?_)
    have hr9 := hp
    rw [hr9]
    exact W.iret hx hb hr (fun t ht hW => ⟨⟨_, w1, rfl, trivial, wEnd M0.mv hX ht hW⟩, hS.F ht⟩) hS.2.2 dX1_bestWord_25
  · have c9b := b2i_t c9
    exact absurd hbad (by rw [c9b]; decide)
set_option maxHeartbeats 4000000 in
set_option maxRecDepth 100000 in
theorem mX1_ambiguousWith (hok : Ok N st v) (i : Nat) (hi : i < 10) (x : Nat) (hx10 : x < 10) : Met l yX1_ambiguousWith (wm yX1_ambiguousWith cX1_ambiguousWith 3 (some .int)) ({ frames := 6, cells := 0, slots := 0, locals := 134 } : Room) (va_Pc [.ref (q 0), .int (nI i), .int (nI x)] (fun U => M0 D cyI cyZ q th (nI N) st md v w U U.heap)) (va_Qi (fun (r : Int32) (u : Nat → Nat → Int32) => r = unW v st N i (nI x)) (fun u U => (fun (u : Nat → Nat → Int32) => (M0 D cyI cyZ q 0 (nI N) st md v u : State → Heap → Prop)) u U U.heap) (own 8 q)) 0 0 (own 8 q) := by
  refine mt (by decide) (Nat.le_of_ble_eq_true rfl) ?_
  intro p ev s m below meth c ls hF hr hlocks hnm hX hl
  have hF : CallFix p m c cX1_ambiguousWith 3 s _ wA RX1 := hF
  obtain ⟨hx, hb, hml, hown, hts⟩ := id hF
  have hX : M0 D cyI cyZ q th (nI N) st md v w s s.heap := hX
  have hl : lv_has ls 3 [(0, .ref (q 0)), (1, .int (nI i)), (2, .int (nI x))] := hl
  have hS : va_S (own 8 q) s.heap s.heap [] := va_S.rf
  have hN := hok.1
  refine lv_aload_n hx hb dX1_ambiguousWith_0 rfl (lv_at hl 0 rfl) ?_
  refine lv_iconst (v := 0) hx hb dX1_ambiguousWith_1 (by decide) ?_
  refine M0.put_th hF hX hS kf_RX1_35 dX1_ambiguousWith_2 (fun H locs hX hS => ?_)
  refine lv_iload_n hx hb dX1_ambiguousWith_5 rfl (lv_at hl 1 rfl) ?_
  refine cSi (As := [.int (nI i)]) (rest := []) hF (mX1_isKind (nI i)) Mv.const trivial jyX1_isKind kl_RX1_109 ⟨rfl, rfl⟩ ⟨Nat.le_of_ble_eq_true rfl, Nat.le_of_ble_eq_true rfl⟩ rfl hl.1 rfl (Nat.le_of_ble_eq_true rfl) ⟨Nat.zero_le _, Nat.zero_le _⟩ dX1_ambiguousWith_6 (fun r hr9 => ?_)
  subst hr9
  refine lv_if_eq (tgt := 28) hx hb dX1_ambiguousWith_9 (by decide) (fun c9 => ?_) (fun c9 => ?_)
  · have c9b := b2i_f c9
    exact absurd (isI_k hi) (by rw [c9b]; decide)
  · have c9b := b2i_t c9
    refine lv_iload_n hx hb dX1_ambiguousWith_12 rfl (lv_at hl 2 rfl) ?_
    refine cSi (As := [.int (nI x)]) (rest := []) hF (mX1_isKind (nI x)) Mv.const trivial jyX1_isKind kl_RX1_109 ⟨rfl, rfl⟩ ⟨Nat.le_of_ble_eq_true rfl, Nat.le_of_ble_eq_true rfl⟩ rfl hl.1 rfl (Nat.le_of_ble_eq_true rfl) ⟨Nat.zero_le _, Nat.zero_le _⟩ dX1_ambiguousWith_13 (fun r hr9 => ?_)
    subst hr9
    refine lv_if_eq (tgt := 28) hx hb dX1_ambiguousWith_16 (by decide) (fun c16 => ?_) (fun c16 => ?_)
    · have c16b := b2i_f c16
      exact absurd (isI_k hx10) (by rw [c16b]; decide)
    · have c16b := b2i_t c16
      refine lv_aload_n hx hb dX1_ambiguousWith_19 rfl (lv_at hl 0 rfl) ?_
      refine lv_iload_n hx hb dX1_ambiguousWith_20 rfl (lv_at hl 1 rfl) ?_
      refine lv_iload_n hx hb dX1_ambiguousWith_21 rfl (lv_at hl 2 rfl) ?_
      refine wVi (mc := 0) (ms := 0) (As := [.int (nI i), .int (nI x)]) (rest := []) hF (mX1_openWith hok i (nI x) (by omega)) M0.mv (fun _ => M0.mv) hX (M0.rc hX) jyX1_openWith kl_RX1_106 ⟨rfl, rfl⟩ ⟨Nat.le_of_ble_eq_true rfl, Nat.le_of_ble_eq_true rfl⟩ rfl hl.1 rfl (Nat.le_of_ble_eq_true rfl) ⟨Nat.zero_le _, Nat.zero_le _⟩ hS (fun _ _ h => h) (fun _ h => h) dX1_ambiguousWith_22 (fun r9 w1 H locs hp hX hz hk hS => ?_)
      have hr9 := hp
      subst hr9
      refine lv_goto (tgt := 33) hx hb dX1_ambiguousWith_25 (by decide) ?_
      exact W.iret hx hb hr (fun t ht hW => ⟨⟨_, w1, rfl, rfl, wEnd M0.mv hX ht hW⟩, hS.F ht⟩) hS.2.2 dX1_ambiguousWith_33
set_option maxHeartbeats 4000000 in
set_option maxRecDepth 100000 in
theorem nX1_ambiguousWith (x y : Int32) (hbad : (isI x 0 9 && isI y 0 9) = false) : Met l yX1_ambiguousWith (wm yX1_ambiguousWith cX1_ambiguousWith 3 (some .int)) ({ frames := 2, cells := 0, slots := 0, locals := 42 } : Room) (va_Pc [.ref (q 0), .int x, .int y] (fun U => M0 D cyI cyZ q th (nI N) st md v w U U.heap)) (va_Qi (fun (r : Int32) (u : Nat → Nat → Int32) => True) (fun u U => (fun (u : Nat → Nat → Int32) => (M0 D cyI cyZ q 1 (nI N) st md v u : State → Heap → Prop)) u U U.heap) (own 8 q)) 0 0 (own 8 q) := by
  refine mt (by decide) (Nat.le_of_ble_eq_true rfl) ?_
  intro p ev s m below meth c ls hF hr hlocks hnm hX hl
  have hF : CallFix p m c cX1_ambiguousWith 3 s _ wA RX1 := hF
  obtain ⟨hx, hb, hml, hown, hts⟩ := id hF
  have hX : M0 D cyI cyZ q th (nI N) st md v w s s.heap := hX
  have hl : lv_has ls 3 [(0, .ref (q 0)), (1, .int x), (2, .int y)] := hl
  have hS : va_S (own 8 q) s.heap s.heap [] := va_S.rf
  refine lv_aload_n hx hb dX1_ambiguousWith_0 rfl (lv_at hl 0 rfl) ?_
  refine lv_iconst (v := 0) hx hb dX1_ambiguousWith_1 (by decide) ?_
  refine M0.put_th hF hX hS kf_RX1_35 dX1_ambiguousWith_2 (fun H locs hX hS => ?_)
  refine lv_iload_n hx hb dX1_ambiguousWith_5 rfl (lv_at hl 1 rfl) ?_
  refine cSi (As := [.int x]) (rest := []) hF (mX1_isKind x) Mv.const trivial jyX1_isKind kl_RX1_109 ⟨rfl, rfl⟩ ⟨Nat.le_of_ble_eq_true rfl, Nat.le_of_ble_eq_true rfl⟩ rfl hl.1 rfl (Nat.le_of_ble_eq_true rfl) ⟨Nat.zero_le _, Nat.zero_le _⟩ dX1_ambiguousWith_6 (fun r hr9 => ?_)
  subst hr9
  refine lv_if_eq (tgt := 28) hx hb dX1_ambiguousWith_9 (by decide) (fun c9 => ?_) (fun c9 => ?_)
  · have c9b := b2i_f c9
    refine lv_aload_n hx hb dX1_ambiguousWith_28 rfl (lv_at hl 0 rfl) ?_
    refine lv_iconst (v := 1) hx hb dX1_ambiguousWith_29 (by decide) ?_
    refine wVi (mc := 0) (ms := 0) (As := [.int 1]) (rest := []) hF (mX1_no 1) M0.mv (fun _ => M0.mv) hX (M0.rc hX) jyX1_no kl_RX1_112 ⟨rfl, rfl⟩ ⟨Nat.le_of_ble_eq_true rfl, Nat.le_of_ble_eq_true rfl⟩ rfl hl.1 rfl (Nat.le_of_ble_eq_true rfl) ⟨Nat.zero_le _, Nat.zero_le _⟩ hS (fun _ _ h => h) (fun _ h => h) dX1_ambiguousWith_30 (fun r9 w1 H locs hp hX hz hk hS => ?_)
    have hr9 := hp
    rw [hr9]
    exact W.iret hx hb hr (fun t ht hW => ⟨⟨_, w1, rfl, trivial, wEnd M0.mv hX ht hW⟩, hS.F ht⟩) hS.2.2 dX1_ambiguousWith_33
  · have c9b := b2i_t c9
    refine lv_iload_n hx hb dX1_ambiguousWith_12 rfl (lv_at hl 2 rfl) ?_
    refine cSi (As := [.int y]) (rest := []) hF (mX1_isKind y) Mv.const trivial jyX1_isKind kl_RX1_109 ⟨rfl, rfl⟩ ⟨Nat.le_of_ble_eq_true rfl, Nat.le_of_ble_eq_true rfl⟩ rfl hl.1 rfl (Nat.le_of_ble_eq_true rfl) ⟨Nat.zero_le _, Nat.zero_le _⟩ dX1_ambiguousWith_13 (fun r hr9 => ?_)
    subst hr9
    refine lv_if_eq (tgt := 28) hx hb dX1_ambiguousWith_16 (by decide) (fun c16 => ?_) (fun c16 => ?_)
    · have c16b := b2i_f c16
      refine lv_aload_n hx hb dX1_ambiguousWith_28 rfl (lv_at hl 0 rfl) ?_
      refine lv_iconst (v := 1) hx hb dX1_ambiguousWith_29 (by decide) ?_
      refine wVi (mc := 0) (ms := 0) (As := [.int 1]) (rest := []) hF (mX1_no 1) M0.mv (fun _ => M0.mv) hX (M0.rc hX) jyX1_no kl_RX1_112 ⟨rfl, rfl⟩ ⟨Nat.le_of_ble_eq_true rfl, Nat.le_of_ble_eq_true rfl⟩ rfl hl.1 rfl (Nat.le_of_ble_eq_true rfl) ⟨Nat.zero_le _, Nat.zero_le _⟩ hS (fun _ _ h => h) (fun _ h => h) dX1_ambiguousWith_30 (fun r9 w2 H locs hp hX hz hk hS => ?_)
      have hr9 := hp
      rw [hr9]
      exact W.iret hx hb hr (fun t ht hW => ⟨⟨_, w2, rfl, trivial, wEnd M0.mv hX ht hW⟩, hS.F ht⟩) hS.2.2 dX1_ambiguousWith_33
    · have c16b := b2i_t c16
      exact absurd hbad (by rw [c9b, c16b]; decide)
set_option maxHeartbeats 4000000 in
set_option maxRecDepth 100000 in
theorem mX1_sungWith (hok : Ok N st v) (x : Nat) (hx10 : x < 10) : Met l yX1_sungWith (wm yX1_sungWith cX1_sungWith 4 (some .int)) ({ frames := 2, cells := 0, slots := 0, locals := 42 } : Room) (va_Pc [.ref (q 0), .int (nI x)] (fun U => M0 D cyI cyZ q th (nI N) st md v w U U.heap)) (va_Qi (fun (r : Int32) (u : Nat → Nat → Int32) => r = sung v (nI x) N) (fun u U => (fun (u : Nat → Nat → Int32) => (M0 D cyI cyZ q 0 (nI N) st md v u : State → Heap → Prop)) u U U.heap) (own 8 q)) 0 0 (own 8 q) := by
  refine mt (by decide) (Nat.le_of_ble_eq_true rfl) ?_
  intro p ev s m below meth c ls hF hr hlocks hnm hX hl
  have hF : CallFix p m c cX1_sungWith 4 s _ wA RX1 := hF
  obtain ⟨hx, hb, hml, hown, hts⟩ := id hF
  have hX : M0 D cyI cyZ q th (nI N) st md v w s s.heap := hX
  have hl : lv_has ls 4 [(0, .ref (q 0)), (1, .int (nI x))] := hl
  have hS : va_S (own 8 q) s.heap s.heap [] := va_S.rf
  have hN := hok.1
  refine lv_aload_n hx hb dX1_sungWith_0 rfl (lv_at hl 0 rfl) ?_
  refine lv_iconst (v := 0) hx hb dX1_sungWith_1 (by decide) ?_
  refine M0.put_th hF hX hS kf_RX1_35 dX1_sungWith_2 (fun H locs hX hS => ?_)
  refine lv_iload_n hx hb dX1_sungWith_5 rfl (lv_at hl 1 rfl) ?_
  refine cSi (As := [.int (nI x)]) (rest := []) hF (mX1_isKind (nI x)) Mv.const trivial jyX1_isKind kl_RX1_109 ⟨rfl, rfl⟩ ⟨Nat.le_of_ble_eq_true rfl, Nat.le_of_ble_eq_true rfl⟩ rfl hl.1 rfl (Nat.le_of_ble_eq_true rfl) ⟨Nat.zero_le _, Nat.zero_le _⟩ dX1_sungWith_6 (fun r hr9 => ?_)
  subst hr9
  refine lv_if_ne (tgt := 18) hx hb dX1_sungWith_9 (by decide) (fun c9 => ?_) (fun c9 => ?_)
  · have c9b := b2i_t c9
    refine lv_iconst (v := 0) hx hb dX1_sungWith_18 (by decide) ?_
    refine lv_istore_n (lv' := [(2, .int 0), (0, .ref (q 0)), (1, .int (nI x))]) hx hb dX1_sungWith_19 rfl hl (by decide) rfl (fun ls hl => ?_)
    refine lv_iconst (v := 0) hx hb dX1_sungWith_20 (by decide) ?_
    refine lv_istore_n (lv' := [(3, .int 0), (2, .int 0), (0, .ref (q 0)), (1, .int (nI x))]) hx hb dX1_sungWith_21 rfl hl (by decide) rfl (fun ls hl => ?_)
    refine lpW (σ := Nat) (fun j ls => (j ≤ N) ∧ lv_has ls 4 [(0, .ref (q 0)), (1, .int (nI x)), (2, .int (ctB (sgP v (nI x)) j)), (3, .int (nI j))]) (fun j => N - j) (fun j ls hI ih => ?_) (0) ⟨Nat.zero_le _, lv_sub hl [2, 3, 1, 0] rfl⟩
    obtain ⟨hj, hl⟩ := hI
    refine lv_iload_n hx hb dX1_sungWith_22 rfl (lv_at hl 3 rfl) ?_
    refine lv_aload_n hx hb dX1_sungWith_23 rfl (lv_at hl 0 rfl) ?_
    refine M0.get hF hX 1 (by decide) rfl rfl kf_RX1_38 dX1_sungWith_24 ?_
    refine lv_icmp_ge (tgt := 59) hx hb dX1_sungWith_27 (by decide) (fun c27 => ?_) (fun c27 => ?_)
    · have c27n : N ≤ j := (nI_leI (a := N) (b := j) (by omega) (by omega)).mp c27
      obtain rfl : j = N := by omega
      refine lv_iload_n hx hb dX1_sungWith_59 rfl (lv_at hl 2 rfl) ?_
      exact W.iret hx hb hr (fun t ht hW => ⟨⟨_, w, rfl, rfl, wEnd M0.mv hX ht hW⟩, hS.F ht⟩) hS.2.2 dX1_sungWith_60
    · have c27n : ¬ N ≤ j := fun h9 => c27 ((nI_leI (a := N) (b := j) (by omega) (by omega)).mpr h9)
      refine lv_iload_n hx hb dX1_sungWith_30 rfl (lv_at hl 2 rfl) ?_
      refine lv_aload_n hx hb dX1_sungWith_31 rfl (lv_at hl 0 rfl) ?_
      refine M0.get hF hX 6 (by decide) rfl rfl kf_RX1_23 dX1_sungWith_32 ?_
      refine lv_aload_n hx hb dX1_sungWith_35 rfl (lv_at hl 0 rfl) ?_
      refine M0.get hF hX 5 (by decide) rfl rfl kf_RX1_20 dX1_sungWith_36 ?_
      refine lv_iload_n hx hb dX1_sungWith_39 rfl (lv_at hl 3 rfl) ?_
      refine aldI hF hX.2.1 hX.1 3 0 rfl rfl j (by omega) (by decide) rfl dX1_sungWith_40 ?_
      refine aldI hF hX.2.1 hX.1 4 0 rfl rfl (ix (v 2 j)) (okM10 hok j) (by decide) (okM hok j) dX1_sungWith_41 ?_
      refine lv_iload_n hx hb dX1_sungWith_42 rfl (lv_at hl 1 rfl) ?_
      refine lv_icmp_ne (tgt := 50) hx hb dX1_sungWith_43 (by decide) (fun c43 => ?_) (fun c43 => ?_)
      · refine lv_iconst (v := 0) hx hb dX1_sungWith_50 (by decide) ?_
        refine lv_iadd hx hb dX1_sungWith_51 ?_
        refine topI (show ((ctB (sgP v (nI x)) j) + 0) = ctB (sgP v (nI x)) (j + 1) from ctB_f' (sgP_f c43)) ?_
        refine lv_istore_n (lv' := [(2, .int (ctB (sgP v (nI x)) (j + 1))), (0, .ref (q 0)), (1, .int (nI x)), (3, .int (nI j))]) hx hb dX1_sungWith_52 rfl hl (by decide) rfl (fun ls hl => ?_)
        refine lv_iinc (v := (nI (j + 1))) (lv' := [(3, .int (nI (j + 1))), (2, .int (ctB (sgP v (nI x)) (j + 1))), (0, .ref (q 0)), (1, .int (nI x))]) hx hb dX1_sungWith_53 hl (k := 3) rfl (nI_1 _) (by decide) rfl (fun ls hl => ?_)
        refine lv_goto (tgt := 22) hx hb dX1_sungWith_56 (by decide) ?_
        exact ih (j + 1) ls (by omega) ⟨by omega, by exact lv_sub hl [2, 3, 1, 0] rfl⟩
      · refine lv_iconst (v := 1) hx hb dX1_sungWith_46 (by decide) ?_
        refine lv_goto (tgt := 51) hx hb dX1_sungWith_47 (by decide) ?_
        refine lv_iadd hx hb dX1_sungWith_51 ?_
        refine topI (show ((ctB (sgP v (nI x)) j) + 1) = ctB (sgP v (nI x)) (j + 1) from ctB_t' (sgP_t c43)) ?_
        refine lv_istore_n (lv' := [(2, .int (ctB (sgP v (nI x)) (j + 1))), (0, .ref (q 0)), (1, .int (nI x)), (3, .int (nI j))]) hx hb dX1_sungWith_52 rfl hl (by decide) rfl (fun ls hl => ?_)
        refine lv_iinc (v := (nI (j + 1))) (lv' := [(3, .int (nI (j + 1))), (2, .int (ctB (sgP v (nI x)) (j + 1))), (0, .ref (q 0)), (1, .int (nI x))]) hx hb dX1_sungWith_53 hl (k := 3) rfl (nI_1 _) (by decide) rfl (fun ls hl => ?_)
        refine lv_goto (tgt := 22) hx hb dX1_sungWith_56 (by decide) ?_
        exact ih (j + 1) ls (by omega) ⟨by omega, by exact lv_sub hl [2, 3, 1, 0] rfl⟩
  · have c9b := b2i_f c9
    exact absurd (isI_k hx10) (by rw [c9b]; decide)
set_option maxHeartbeats 4000000 in
set_option maxRecDepth 100000 in
theorem nX1_sungWith (x : Int32) (hbad : isI x 0 9 = false) : Met l yX1_sungWith (wm yX1_sungWith cX1_sungWith 4 (some .int)) ({ frames := 2, cells := 0, slots := 0, locals := 42 } : Room) (va_Pc [.ref (q 0), .int x] (fun U => M0 D cyI cyZ q th (nI N) st md v w U U.heap)) (va_Qi (fun (r : Int32) (u : Nat → Nat → Int32) => True) (fun u U => (fun (u : Nat → Nat → Int32) => (M0 D cyI cyZ q 1 (nI N) st md v u : State → Heap → Prop)) u U U.heap) (own 8 q)) 0 0 (own 8 q) := by
  refine mt (by decide) (Nat.le_of_ble_eq_true rfl) ?_
  intro p ev s m below meth c ls hF hr hlocks hnm hX hl
  have hF : CallFix p m c cX1_sungWith 4 s _ wA RX1 := hF
  obtain ⟨hx, hb, hml, hown, hts⟩ := id hF
  have hX : M0 D cyI cyZ q th (nI N) st md v w s s.heap := hX
  have hl : lv_has ls 4 [(0, .ref (q 0)), (1, .int x)] := hl
  have hS : va_S (own 8 q) s.heap s.heap [] := va_S.rf
  refine lv_aload_n hx hb dX1_sungWith_0 rfl (lv_at hl 0 rfl) ?_
  refine lv_iconst (v := 0) hx hb dX1_sungWith_1 (by decide) ?_
  refine M0.put_th hF hX hS kf_RX1_35 dX1_sungWith_2 (fun H locs hX hS => ?_)
  refine lv_iload_n hx hb dX1_sungWith_5 rfl (lv_at hl 1 rfl) ?_
  refine cSi (As := [.int x]) (rest := []) hF (mX1_isKind x) Mv.const trivial jyX1_isKind kl_RX1_109 ⟨rfl, rfl⟩ ⟨Nat.le_of_ble_eq_true rfl, Nat.le_of_ble_eq_true rfl⟩ rfl hl.1 rfl (Nat.le_of_ble_eq_true rfl) ⟨Nat.zero_le _, Nat.zero_le _⟩ dX1_sungWith_6 (fun r hr9 => ?_)
  subst hr9
  refine lv_if_ne (tgt := 18) hx hb dX1_sungWith_9 (by decide) (fun c9 => ?_) (fun c9 => ?_)
  · have c9b := b2i_t c9
    exact absurd hbad (by rw [c9b]; decide)
  · have c9b := b2i_f c9
    refine lv_aload_n hx hb dX1_sungWith_12 rfl (lv_at hl 0 rfl) ?_
    refine lv_iconst (v := 1) hx hb dX1_sungWith_13 (by decide) ?_
    refine wVi (mc := 0) (ms := 0) (As := [.int 1]) (rest := []) hF (mX1_no 1) M0.mv (fun _ => M0.mv) hX (M0.rc hX) jyX1_no kl_RX1_112 ⟨rfl, rfl⟩ ⟨Nat.le_of_ble_eq_true rfl, Nat.le_of_ble_eq_true rfl⟩ rfl hl.1 rfl (Nat.le_of_ble_eq_true rfl) ⟨Nat.zero_le _, Nat.zero_le _⟩ hS (fun _ _ h => h) (fun _ h => h) dX1_sungWith_14 (fun r9 w1 H locs hp hX hz hk hS => ?_)
    have hr9 := hp
    rw [hr9]
    exact W.iret hx hb hr (fun t ht hW => ⟨⟨_, w1, rfl, trivial, wEnd M0.mv hX ht hW⟩, hS.F ht⟩) hS.2.2 dX1_sungWith_17
set_option maxHeartbeats 4000000 in
set_option maxRecDepth 100000 in
theorem mX1_addLeg (hok : Ok N st v) (e j : Nat) (ln : Int32) (he : e < 7) (hln : isI ln 1 9 = true) (hj10 : j < 10) (hN16 : N < 16) : Met l yX1_addLeg (wm yX1_addLeg cX1_addLeg 4 (some .int)) ({ frames := 2, cells := 0, slots := 0, locals := 42 } : Room) (va_Pc [.ref (q 0), .int (nI e - 3), .int ln, .int (nI j)] (fun U => M0 D cyI cyZ q th (nI N) st md v w U U.heap)) (va_Qi (fun (r : Int32) (u : Nat → Nat → Int32) => r = nI N) (fun u U => (fun (u : Nat → Nat → Int32) => (M0 D cyI cyZ q 0 (nI (N + 1)) st md (addV v N (nI e - 3) ln (nI j)) u : State → Heap → Prop)) u U U.heap) (own 8 q)) 0 0 (own 8 q) := by
  refine mt (by decide) (Nat.le_of_ble_eq_true rfl) ?_
  intro p ev s m below meth c ls hF hr hlocks hnm hX hl
  have hF : CallFix p m c cX1_addLeg 4 s _ wA RX1 := hF
  obtain ⟨hx, hb, hml, hown, hts⟩ := id hF
  have hX : M0 D cyI cyZ q th (nI N) st md v w s s.heap := hX
  have hl : lv_has ls 4 [(0, .ref (q 0)), (1, .int (nI e - 3)), (2, .int ln), (3, .int (nI j))] := hl
  have hS : va_S (own 8 q) s.heap s.heap [] := va_S.rf
  have hN := hok.1
  refine lv_aload_n hx hb dX1_addLeg_0 rfl (lv_at hl 0 rfl) ?_
  refine lv_iconst (v := 0) hx hb dX1_addLeg_1 (by decide) ?_
  refine M0.put_th hF hX hS kf_RX1_35 dX1_addLeg_2 (fun H locs hX hS => ?_)
  refine lv_iload_n hx hb dX1_addLeg_5 rfl (lv_at hl 1 rfl) ?_
  refine lv_bipush (v := (-3)) hx hb dX1_addLeg_6 (by decide) ?_
  refine lv_iconst (v := 3) hx hb dX1_addLeg_8 (by decide) ?_
  refine cSi (As := [.int (nI e - 3), .int (-3), .int 3]) (rest := []) hF (mX1_isIn (nI e - 3) (-3) 3) Mv.const trivial jyX1_isIn kl_RX1_41 ⟨rfl, rfl⟩ ⟨Nat.le_of_ble_eq_true rfl, Nat.le_of_ble_eq_true rfl⟩ rfl hl.1 rfl (Nat.le_of_ble_eq_true rfl) ⟨Nat.zero_le _, Nat.zero_le _⟩ dX1_addLeg_9 (fun r hr9 => ?_)
  subst hr9
  refine lv_if_eq (tgt := 32) hx hb dX1_addLeg_12 (by decide) (fun c12 => ?_) (fun c12 => ?_)
  · have c12b := b2i_f c12
    exact absurd (isI_t he) (by rw [c12b]; decide)
  · have c12b := b2i_t c12
    refine lv_iload_n hx hb dX1_addLeg_15 rfl (lv_at hl 2 rfl) ?_
    refine lv_iconst (v := 1) hx hb dX1_addLeg_16 (by decide) ?_
    refine lv_bipush (v := 9) hx hb dX1_addLeg_17 (by decide) ?_
    refine cSi (As := [.int ln, .int 1, .int 9]) (rest := []) hF (mX1_isIn ln 1 9) Mv.const trivial jyX1_isIn kl_RX1_41 ⟨rfl, rfl⟩ ⟨Nat.le_of_ble_eq_true rfl, Nat.le_of_ble_eq_true rfl⟩ rfl hl.1 rfl (Nat.le_of_ble_eq_true rfl) ⟨Nat.zero_le _, Nat.zero_le _⟩ dX1_addLeg_19 (fun r hr9 => ?_)
    subst hr9
    refine lv_if_eq (tgt := 32) hx hb dX1_addLeg_22 (by decide) (fun c22 => ?_) (fun c22 => ?_)
    · have c22b := b2i_f c22
      exact absurd hln (by rw [c22b]; decide)
    · have c22b := b2i_t c22
      refine lv_iload_n hx hb dX1_addLeg_25 rfl (lv_at hl 3 rfl) ?_
      refine cSi (As := [.int (nI j)]) (rest := []) hF (mX1_isKind (nI j)) Mv.const trivial jyX1_isKind kl_RX1_109 ⟨rfl, rfl⟩ ⟨Nat.le_of_ble_eq_true rfl, Nat.le_of_ble_eq_true rfl⟩ rfl hl.1 rfl (Nat.le_of_ble_eq_true rfl) ⟨Nat.zero_le _, Nat.zero_le _⟩ dX1_addLeg_26 (fun r hr9 => ?_)
      subst hr9
      refine lv_if_ne (tgt := 38) hx hb dX1_addLeg_29 (by decide) (fun c29 => ?_) (fun c29 => ?_)
      · have c29b := b2i_t c29
        refine lv_aload_n hx hb dX1_addLeg_38 rfl (lv_at hl 0 rfl) ?_
        refine M0.get hF hX 1 (by decide) rfl rfl kf_RX1_38 dX1_addLeg_39 ?_
        refine lv_bipush (v := 16) hx hb dX1_addLeg_42 (by decide) ?_
        refine lv_icmp_ne (tgt := 53) hx hb dX1_addLeg_44 (by decide) (fun c44 => ?_) (fun c44 => ?_)
        · have c44n : ¬ N = 16 := fun h9 => c44 ((nI_eq (a := N) (b := 16) (by omega) (by omega)).mpr h9)
          refine lv_aload_n hx hb dX1_addLeg_53 rfl (lv_at hl 0 rfl) ?_
          refine M0.get hF hX 3 (by decide) rfl rfl kf_RX1_13 dX1_addLeg_54 ?_
          refine lv_aload_n hx hb dX1_addLeg_57 rfl (lv_at hl 0 rfl) ?_
          refine M0.get hF hX 1 (by decide) rfl rfl kf_RX1_38 dX1_addLeg_58 ?_
          refine lv_iload_n hx hb dX1_addLeg_61 rfl (lv_at hl 1 rfl) ?_
          refine M0.st_v0 hF hX hS N (by omega) rfl dX1_addLeg_62 (fun H locs hX hS => ?_)
          refine lv_aload_n hx hb dX1_addLeg_63 rfl (lv_at hl 0 rfl) ?_
          refine M0.get hF hX 4 (by decide) rfl rfl kf_RX1_17 dX1_addLeg_64 ?_
          refine lv_aload_n hx hb dX1_addLeg_67 rfl (lv_at hl 0 rfl) ?_
          refine M0.get hF hX 1 (by decide) rfl rfl kf_RX1_38 dX1_addLeg_68 ?_
          refine lv_iload_n hx hb dX1_addLeg_71 rfl (lv_at hl 2 rfl) ?_
          refine M0.st_v1 hF hX hS N (by omega) rfl dX1_addLeg_72 (fun H locs hX hS => ?_)
          refine lv_aload_n hx hb dX1_addLeg_73 rfl (lv_at hl 0 rfl) ?_
          refine M0.get hF hX 5 (by decide) rfl rfl kf_RX1_20 dX1_addLeg_74 ?_
          refine lv_aload_n hx hb dX1_addLeg_77 rfl (lv_at hl 0 rfl) ?_
          refine M0.get hF hX 1 (by decide) rfl rfl kf_RX1_38 dX1_addLeg_78 ?_
          refine lv_iload_n hx hb dX1_addLeg_81 rfl (lv_at hl 3 rfl) ?_
          refine M0.st_v2 hF hX hS N (by omega) rfl dX1_addLeg_82 (fun H locs hX hS => ?_)
          refine lv_aload_n hx hb dX1_addLeg_83 rfl (lv_at hl 0 rfl) ?_
          refine lv_dup hx hb dX1_addLeg_84 rfl ?_
          refine M0.get hF hX 1 (by decide) rfl rfl kf_RX1_38 dX1_addLeg_85 ?_
          refine lv_iconst (v := 1) hx hb dX1_addLeg_88 (by decide) ?_
          refine lv_iadd hx hb dX1_addLeg_89 ?_
          refine topI (show ((nI N) + 1) = nI (N + 1) from nI_1 N) ?_
          refine M0.put_n hF hX hS kf_RX1_38 dX1_addLeg_90 (fun H locs hX hS => ?_)
          refine lv_aload_n hx hb dX1_addLeg_93 rfl (lv_at hl 0 rfl) ?_
          refine M0.get hF hX 1 (by decide) rfl rfl kf_RX1_38 dX1_addLeg_94 ?_
          refine lv_iconst (v := 1) hx hb dX1_addLeg_97 (by decide) ?_
          refine lv_isub hx hb dX1_addLeg_98 ?_
          refine topI (show ((nI (N + 1)) - 1) = nI N from nI_pred N) ?_
          exact W.iret hx hb hr (fun t ht hW => ⟨⟨_, w, rfl, rfl, wEnd M0.mv hX ht hW⟩, hS.F ht⟩) hS.2.2 dX1_addLeg_99
        · have c44n : N = 16 := (nI_eq (a := N) (b := 16) (by omega) (by omega)).mp c44
          exact absurd hN16 (by omega)
      · have c29b := b2i_f c29
        exact absurd (isI_k hj10) (by rw [c29b]; decide)
set_option maxHeartbeats 4000000 in
set_option maxRecDepth 100000 in
theorem nX1_addLeg (a b c3 : Int32) (hbad : (isI a (-3) 3 && (isI b 1 9 && isI c3 0 9)) = false) : Met l yX1_addLeg (wm yX1_addLeg cX1_addLeg 4 (some .int)) ({ frames := 2, cells := 0, slots := 0, locals := 42 } : Room) (va_Pc [.ref (q 0), .int a, .int b, .int c3] (fun U => M0 D cyI cyZ q th (nI N) st md v w U U.heap)) (va_Qi (fun (r : Int32) (u : Nat → Nat → Int32) => True) (fun u U => (fun (u : Nat → Nat → Int32) => (M0 D cyI cyZ q 1 (nI N) st md v u : State → Heap → Prop)) u U U.heap) (own 8 q)) 0 0 (own 8 q) := by
  refine mt (by decide) (Nat.le_of_ble_eq_true rfl) ?_
  intro p ev s m below meth c ls hF hr hlocks hnm hX hl
  have hF : CallFix p m c cX1_addLeg 4 s _ wA RX1 := hF
  obtain ⟨hx, hb, hml, hown, hts⟩ := id hF
  have hX : M0 D cyI cyZ q th (nI N) st md v w s s.heap := hX
  have hl : lv_has ls 4 [(0, .ref (q 0)), (1, .int a), (2, .int b), (3, .int c3)] := hl
  have hS : va_S (own 8 q) s.heap s.heap [] := va_S.rf
  refine lv_aload_n hx hb dX1_addLeg_0 rfl (lv_at hl 0 rfl) ?_
  refine lv_iconst (v := 0) hx hb dX1_addLeg_1 (by decide) ?_
  refine M0.put_th hF hX hS kf_RX1_35 dX1_addLeg_2 (fun H locs hX hS => ?_)
  refine lv_iload_n hx hb dX1_addLeg_5 rfl (lv_at hl 1 rfl) ?_
  refine lv_bipush (v := (-3)) hx hb dX1_addLeg_6 (by decide) ?_
  refine lv_iconst (v := 3) hx hb dX1_addLeg_8 (by decide) ?_
  refine cSi (As := [.int a, .int (-3), .int 3]) (rest := []) hF (mX1_isIn a (-3) 3) Mv.const trivial jyX1_isIn kl_RX1_41 ⟨rfl, rfl⟩ ⟨Nat.le_of_ble_eq_true rfl, Nat.le_of_ble_eq_true rfl⟩ rfl hl.1 rfl (Nat.le_of_ble_eq_true rfl) ⟨Nat.zero_le _, Nat.zero_le _⟩ dX1_addLeg_9 (fun r hr9 => ?_)
  subst hr9
  refine lv_if_eq (tgt := 32) hx hb dX1_addLeg_12 (by decide) (fun c12 => ?_) (fun c12 => ?_)
  · have c12b := b2i_f c12
    refine lv_aload_n hx hb dX1_addLeg_32 rfl (lv_at hl 0 rfl) ?_
    refine lv_iconst (v := 1) hx hb dX1_addLeg_33 (by decide) ?_
    refine wVi (mc := 0) (ms := 0) (As := [.int 1]) (rest := []) hF (mX1_no 1) M0.mv (fun _ => M0.mv) hX (M0.rc hX) jyX1_no kl_RX1_112 ⟨rfl, rfl⟩ ⟨Nat.le_of_ble_eq_true rfl, Nat.le_of_ble_eq_true rfl⟩ rfl hl.1 rfl (Nat.le_of_ble_eq_true rfl) ⟨Nat.zero_le _, Nat.zero_le _⟩ hS (fun _ _ h => h) (fun _ h => h) dX1_addLeg_34 (fun r9 w1 H locs hp hX hz hk hS => ?_)
    have hr9 := hp
    rw [hr9]
    exact W.iret hx hb hr (fun t ht hW => ⟨⟨_, w1, rfl, trivial, wEnd M0.mv hX ht hW⟩, hS.F ht⟩) hS.2.2 dX1_addLeg_37
  · have c12b := b2i_t c12
    refine lv_iload_n hx hb dX1_addLeg_15 rfl (lv_at hl 2 rfl) ?_
    refine lv_iconst (v := 1) hx hb dX1_addLeg_16 (by decide) ?_
    refine lv_bipush (v := 9) hx hb dX1_addLeg_17 (by decide) ?_
    refine cSi (As := [.int b, .int 1, .int 9]) (rest := []) hF (mX1_isIn b 1 9) Mv.const trivial jyX1_isIn kl_RX1_41 ⟨rfl, rfl⟩ ⟨Nat.le_of_ble_eq_true rfl, Nat.le_of_ble_eq_true rfl⟩ rfl hl.1 rfl (Nat.le_of_ble_eq_true rfl) ⟨Nat.zero_le _, Nat.zero_le _⟩ dX1_addLeg_19 (fun r hr9 => ?_)
    subst hr9
    refine lv_if_eq (tgt := 32) hx hb dX1_addLeg_22 (by decide) (fun c22 => ?_) (fun c22 => ?_)
    · have c22b := b2i_f c22
      refine lv_aload_n hx hb dX1_addLeg_32 rfl (lv_at hl 0 rfl) ?_
      refine lv_iconst (v := 1) hx hb dX1_addLeg_33 (by decide) ?_
      refine wVi (mc := 0) (ms := 0) (As := [.int 1]) (rest := []) hF (mX1_no 1) M0.mv (fun _ => M0.mv) hX (M0.rc hX) jyX1_no kl_RX1_112 ⟨rfl, rfl⟩ ⟨Nat.le_of_ble_eq_true rfl, Nat.le_of_ble_eq_true rfl⟩ rfl hl.1 rfl (Nat.le_of_ble_eq_true rfl) ⟨Nat.zero_le _, Nat.zero_le _⟩ hS (fun _ _ h => h) (fun _ h => h) dX1_addLeg_34 (fun r9 w2 H locs hp hX hz hk hS => ?_)
      have hr9 := hp
      rw [hr9]
      exact W.iret hx hb hr (fun t ht hW => ⟨⟨_, w2, rfl, trivial, wEnd M0.mv hX ht hW⟩, hS.F ht⟩) hS.2.2 dX1_addLeg_37
    · have c22b := b2i_t c22
      refine lv_iload_n hx hb dX1_addLeg_25 rfl (lv_at hl 3 rfl) ?_
      refine cSi (As := [.int c3]) (rest := []) hF (mX1_isKind c3) Mv.const trivial jyX1_isKind kl_RX1_109 ⟨rfl, rfl⟩ ⟨Nat.le_of_ble_eq_true rfl, Nat.le_of_ble_eq_true rfl⟩ rfl hl.1 rfl (Nat.le_of_ble_eq_true rfl) ⟨Nat.zero_le _, Nat.zero_le _⟩ dX1_addLeg_26 (fun r hr9 => ?_)
      subst hr9
      refine lv_if_ne (tgt := 38) hx hb dX1_addLeg_29 (by decide) (fun c29 => ?_) (fun c29 => ?_)
      · have c29b := b2i_t c29
        exact absurd hbad (by rw [c12b, c22b, c29b]; decide)
      · have c29b := b2i_f c29
        refine lv_aload_n hx hb dX1_addLeg_32 rfl (lv_at hl 0 rfl) ?_
        refine lv_iconst (v := 1) hx hb dX1_addLeg_33 (by decide) ?_
        refine wVi (mc := 0) (ms := 0) (As := [.int 1]) (rest := []) hF (mX1_no 1) M0.mv (fun _ => M0.mv) hX (M0.rc hX) jyX1_no kl_RX1_112 ⟨rfl, rfl⟩ ⟨Nat.le_of_ble_eq_true rfl, Nat.le_of_ble_eq_true rfl⟩ rfl hl.1 rfl (Nat.le_of_ble_eq_true rfl) ⟨Nat.zero_le _, Nat.zero_le _⟩ hS (fun _ _ h => h) (fun _ h => h) dX1_addLeg_34 (fun r9 w3 H locs hp hX hz hk hS => ?_)
        have hr9 := hp
        rw [hr9]
        exact W.iret hx hb hr (fun t ht hW => ⟨⟨_, w3, rfl, trivial, wEnd M0.mv hX ht hW⟩, hS.F ht⟩) hS.2.2 dX1_addLeg_37
set_option maxHeartbeats 4000000 in
set_option maxRecDepth 100000 in
theorem oX1_addLeg (e j : Nat) (ln : Int32) (he : e < 7) (hln : isI ln 1 9 = true) (hj10 : j < 10) : Met l yX1_addLeg (wm yX1_addLeg cX1_addLeg 4 (some .int)) ({ frames := 2, cells := 0, slots := 0, locals := 42 } : Room) (va_Pc [.ref (q 0), .int (nI e - 3), .int ln, .int (nI j)] (fun U => M0 D cyI cyZ q th (nI 16) st md v w U U.heap)) (va_Qi (fun (r : Int32) (u : Nat → Nat → Int32) => True) (fun u U => (fun (u : Nat → Nat → Int32) => (M0 D cyI cyZ q 2 (nI 16) st md v u : State → Heap → Prop)) u U U.heap) (own 8 q)) 0 0 (own 8 q) := by
  refine mt (by decide) (Nat.le_of_ble_eq_true rfl) ?_
  intro p ev s m below meth c ls hF hr hlocks hnm hX hl
  have hF : CallFix p m c cX1_addLeg 4 s _ wA RX1 := hF
  obtain ⟨hx, hb, hml, hown, hts⟩ := id hF
  have hX : M0 D cyI cyZ q th (nI 16) st md v w s s.heap := hX
  have hl : lv_has ls 4 [(0, .ref (q 0)), (1, .int (nI e - 3)), (2, .int ln), (3, .int (nI j))] := hl
  have hS : va_S (own 8 q) s.heap s.heap [] := va_S.rf
  refine lv_aload_n hx hb dX1_addLeg_0 rfl (lv_at hl 0 rfl) ?_
  refine lv_iconst (v := 0) hx hb dX1_addLeg_1 (by decide) ?_
  refine M0.put_th hF hX hS kf_RX1_35 dX1_addLeg_2 (fun H locs hX hS => ?_)
  refine lv_iload_n hx hb dX1_addLeg_5 rfl (lv_at hl 1 rfl) ?_
  refine lv_bipush (v := (-3)) hx hb dX1_addLeg_6 (by decide) ?_
  refine lv_iconst (v := 3) hx hb dX1_addLeg_8 (by decide) ?_
  refine cSi (As := [.int (nI e - 3), .int (-3), .int 3]) (rest := []) hF (mX1_isIn (nI e - 3) (-3) 3) Mv.const trivial jyX1_isIn kl_RX1_41 ⟨rfl, rfl⟩ ⟨Nat.le_of_ble_eq_true rfl, Nat.le_of_ble_eq_true rfl⟩ rfl hl.1 rfl (Nat.le_of_ble_eq_true rfl) ⟨Nat.zero_le _, Nat.zero_le _⟩ dX1_addLeg_9 (fun r hr9 => ?_)
  subst hr9
  refine lv_if_eq (tgt := 32) hx hb dX1_addLeg_12 (by decide) (fun c12 => ?_) (fun c12 => ?_)
  · have c12b := b2i_f c12
    exact absurd (isI_t he) (by rw [c12b]; decide)
  · have c12b := b2i_t c12
    refine lv_iload_n hx hb dX1_addLeg_15 rfl (lv_at hl 2 rfl) ?_
    refine lv_iconst (v := 1) hx hb dX1_addLeg_16 (by decide) ?_
    refine lv_bipush (v := 9) hx hb dX1_addLeg_17 (by decide) ?_
    refine cSi (As := [.int ln, .int 1, .int 9]) (rest := []) hF (mX1_isIn ln 1 9) Mv.const trivial jyX1_isIn kl_RX1_41 ⟨rfl, rfl⟩ ⟨Nat.le_of_ble_eq_true rfl, Nat.le_of_ble_eq_true rfl⟩ rfl hl.1 rfl (Nat.le_of_ble_eq_true rfl) ⟨Nat.zero_le _, Nat.zero_le _⟩ dX1_addLeg_19 (fun r hr9 => ?_)
    subst hr9
    refine lv_if_eq (tgt := 32) hx hb dX1_addLeg_22 (by decide) (fun c22 => ?_) (fun c22 => ?_)
    · have c22b := b2i_f c22
      exact absurd hln (by rw [c22b]; decide)
    · have c22b := b2i_t c22
      refine lv_iload_n hx hb dX1_addLeg_25 rfl (lv_at hl 3 rfl) ?_
      refine cSi (As := [.int (nI j)]) (rest := []) hF (mX1_isKind (nI j)) Mv.const trivial jyX1_isKind kl_RX1_109 ⟨rfl, rfl⟩ ⟨Nat.le_of_ble_eq_true rfl, Nat.le_of_ble_eq_true rfl⟩ rfl hl.1 rfl (Nat.le_of_ble_eq_true rfl) ⟨Nat.zero_le _, Nat.zero_le _⟩ dX1_addLeg_26 (fun r hr9 => ?_)
      subst hr9
      refine lv_if_ne (tgt := 38) hx hb dX1_addLeg_29 (by decide) (fun c29 => ?_) (fun c29 => ?_)
      · have c29b := b2i_t c29
        refine lv_aload_n hx hb dX1_addLeg_38 rfl (lv_at hl 0 rfl) ?_
        refine M0.get hF hX 1 (by decide) rfl rfl kf_RX1_38 dX1_addLeg_39 ?_
        refine lv_bipush (v := 16) hx hb dX1_addLeg_42 (by decide) ?_
        refine lv_icmp_ne (tgt := 53) hx hb dX1_addLeg_44 (by decide) (fun c44 => ?_) (fun c44 => ?_)
        · exact absurd rfl c44
        · refine lv_aload_n hx hb dX1_addLeg_47 rfl (lv_at hl 0 rfl) ?_
          refine lv_iconst (v := 2) hx hb dX1_addLeg_48 (by decide) ?_
          refine wVi (mc := 0) (ms := 0) (As := [.int 2]) (rest := []) hF (mX1_no 2) M0.mv (fun _ => M0.mv) hX (M0.rc hX) jyX1_no kl_RX1_112 ⟨rfl, rfl⟩ ⟨Nat.le_of_ble_eq_true rfl, Nat.le_of_ble_eq_true rfl⟩ rfl hl.1 rfl (Nat.le_of_ble_eq_true rfl) ⟨Nat.zero_le _, Nat.zero_le _⟩ hS (fun _ _ h => h) (fun _ h => h) dX1_addLeg_49 (fun r9 w1 H locs hp hX hz hk hS => ?_)
          have hr9 := hp
          rw [hr9]
          exact W.iret hx hb hr (fun t ht hW => ⟨⟨_, w1, rfl, trivial, wEnd M0.mv hX ht hW⟩, hS.F ht⟩) hS.2.2 dX1_addLeg_52
      · have c29b := b2i_f c29
        exact absurd (isI_k hj10) (by rw [c29b]; decide)
set_option maxHeartbeats 4000000 in
set_option maxRecDepth 100000 in
theorem mX1_strikeLeg (M : Nat) (hM : M < 16) : Met l yX1_strikeLeg (wm yX1_strikeLeg cX1_strikeLeg 1 (some .int)) ({ frames := 0, cells := 0, slots := 0, locals := 0 } : Room) (va_Pc [.ref (q 0)] (fun U => M0 D cyI cyZ q th (nI (M + 1)) st md v w U U.heap)) (va_Qi (fun (r : Int32) (u : Nat → Nat → Int32) => r = v 2 M) (fun u U => (fun (u : Nat → Nat → Int32) => (M0 D cyI cyZ q 0 (nI M) st (md &&& ((1 <<< (nI M &&& 31)) ^^^ (-1))) v u : State → Heap → Prop)) u U U.heap) (own 8 q)) 0 0 (own 8 q) := by
  refine mt (by decide) (Nat.le_of_ble_eq_true rfl) ?_
  intro p ev s m below meth c ls hF hr hlocks hnm hX hl
  have hF : CallFix p m c cX1_strikeLeg 1 s _ wA RX1 := hF
  obtain ⟨hx, hb, hml, hown, hts⟩ := id hF
  have hX : M0 D cyI cyZ q th (nI (M + 1)) st md v w s s.heap := hX
  have hl : lv_has ls 1 [(0, .ref (q 0))] := hl
  have hS : va_S (own 8 q) s.heap s.heap [] := va_S.rf
  refine lv_aload_n hx hb dX1_strikeLeg_0 rfl (lv_at hl 0 rfl) ?_
  refine lv_iconst (v := 0) hx hb dX1_strikeLeg_1 (by decide) ?_
  refine M0.put_th hF hX hS kf_RX1_35 dX1_strikeLeg_2 (fun H locs hX hS => ?_)
  refine lv_aload_n hx hb dX1_strikeLeg_5 rfl (lv_at hl 0 rfl) ?_
  refine M0.get hF hX 1 (by decide) rfl rfl kf_RX1_38 dX1_strikeLeg_6 ?_
  refine lv_if_ne (tgt := 18) hx hb dX1_strikeLeg_9 (by decide) (fun c9 => ?_) (fun c9 => ?_)
  · have c9n : ¬ (M + 1) = 0 := fun h9 => c9 ((nI_eq (a := (M + 1)) (b := 0) (by omega) (by omega)).mpr h9)
    refine lv_aload_n hx hb dX1_strikeLeg_18 rfl (lv_at hl 0 rfl) ?_
    refine lv_dup hx hb dX1_strikeLeg_19 rfl ?_
    refine M0.get hF hX 1 (by decide) rfl rfl kf_RX1_38 dX1_strikeLeg_20 ?_
    refine lv_iconst (v := 1) hx hb dX1_strikeLeg_23 (by decide) ?_
    refine lv_isub hx hb dX1_strikeLeg_24 ?_
    refine topI (show ((nI (M + 1)) - 1) = nI M from nI_pred M) ?_
    refine M0.put_n hF hX hS kf_RX1_38 dX1_strikeLeg_25 (fun H locs hX hS => ?_)
    refine lv_aload_n hx hb dX1_strikeLeg_28 rfl (lv_at hl 0 rfl) ?_
    refine lv_dup hx hb dX1_strikeLeg_29 rfl ?_
    refine M0.get hF hX 7 (by decide) rfl rfl kf_RX1_85 dX1_strikeLeg_30 ?_
    refine lv_iconst (v := 1) hx hb dX1_strikeLeg_33 (by decide) ?_
    refine lv_aload_n hx hb dX1_strikeLeg_34 rfl (lv_at hl 0 rfl) ?_
    refine M0.get hF hX 1 (by decide) rfl rfl kf_RX1_38 dX1_strikeLeg_35 ?_
    refine lv_ishl hx hb dX1_strikeLeg_38 ?_
    refine lv_iconst (v := (-1)) hx hb dX1_strikeLeg_39 (by decide) ?_
    refine lv_ixor hx hb dX1_strikeLeg_40 ?_
    refine lv_iand hx hb dX1_strikeLeg_41 ?_
    refine M0.put_md hF hX hS kf_RX1_85 dX1_strikeLeg_42 (fun H locs hX hS => ?_)
    refine lv_aload_n hx hb dX1_strikeLeg_45 rfl (lv_at hl 0 rfl) ?_
    refine M0.get hF hX 5 (by decide) rfl rfl kf_RX1_20 dX1_strikeLeg_46 ?_
    refine lv_aload_n hx hb dX1_strikeLeg_49 rfl (lv_at hl 0 rfl) ?_
    refine M0.get hF hX 1 (by decide) rfl rfl kf_RX1_38 dX1_strikeLeg_50 ?_
    refine aldI hF hX.2.1 hX.1 3 0 rfl rfl M (by omega) (by decide) rfl dX1_strikeLeg_53 ?_
    exact W.iret hx hb hr (fun t ht hW => ⟨⟨_, w, rfl, rfl, wEnd M0.mv hX ht hW⟩, hS.F ht⟩) hS.2.2 dX1_strikeLeg_54
  · have c9n : (M + 1) = 0 := (nI_eq (a := (M + 1)) (b := 0) (by omega) (by omega)).mp c9
    exact absurd c9n (by omega)
set_option maxHeartbeats 4000000 in
set_option maxRecDepth 100000 in
theorem nX1_strikeLeg  : Met l yX1_strikeLeg (wm yX1_strikeLeg cX1_strikeLeg 1 (some .int)) ({ frames := 1, cells := 0, slots := 0, locals := 21 } : Room) (va_Pc [.ref (q 0)] (fun U => M0 D cyI cyZ q th (nI 0) st md v w U U.heap)) (va_Qi (fun (r : Int32) (u : Nat → Nat → Int32) => True) (fun u U => (fun (u : Nat → Nat → Int32) => (M0 D cyI cyZ q 1 (nI 0) st md v u : State → Heap → Prop)) u U U.heap) (own 8 q)) 0 0 (own 8 q) := by
  refine mt (by decide) (Nat.le_of_ble_eq_true rfl) ?_
  intro p ev s m below meth c ls hF hr hlocks hnm hX hl
  have hF : CallFix p m c cX1_strikeLeg 1 s _ wA RX1 := hF
  obtain ⟨hx, hb, hml, hown, hts⟩ := id hF
  have hX : M0 D cyI cyZ q th (nI 0) st md v w s s.heap := hX
  have hl : lv_has ls 1 [(0, .ref (q 0))] := hl
  have hS : va_S (own 8 q) s.heap s.heap [] := va_S.rf
  refine lv_aload_n hx hb dX1_strikeLeg_0 rfl (lv_at hl 0 rfl) ?_
  refine lv_iconst (v := 0) hx hb dX1_strikeLeg_1 (by decide) ?_
  refine M0.put_th hF hX hS kf_RX1_35 dX1_strikeLeg_2 (fun H locs hX hS => ?_)
  refine lv_aload_n hx hb dX1_strikeLeg_5 rfl (lv_at hl 0 rfl) ?_
  refine M0.get hF hX 1 (by decide) rfl rfl kf_RX1_38 dX1_strikeLeg_6 ?_
  refine lv_if_ne (tgt := 18) hx hb dX1_strikeLeg_9 (by decide) (fun c9 => ?_) (fun c9 => ?_)
  · exact absurd rfl c9
  · refine lv_aload_n hx hb dX1_strikeLeg_12 rfl (lv_at hl 0 rfl) ?_
    refine lv_iconst (v := 1) hx hb dX1_strikeLeg_13 (by decide) ?_
    refine wVi (mc := 0) (ms := 0) (As := [.int 1]) (rest := []) hF (mX1_no 1) M0.mv (fun _ => M0.mv) hX (M0.rc hX) jyX1_no kl_RX1_112 ⟨rfl, rfl⟩ ⟨Nat.le_of_ble_eq_true rfl, Nat.le_of_ble_eq_true rfl⟩ rfl hl.1 rfl (Nat.le_of_ble_eq_true rfl) ⟨Nat.zero_le _, Nat.zero_le _⟩ hS (fun _ _ h => h) (fun _ h => h) dX1_strikeLeg_14 (fun r9 w1 H locs hp hX hz hk hS => ?_)
    have hr9 := hp
    rw [hr9]
    exact W.iret hx hb hr (fun t ht hW => ⟨⟨_, w1, rfl, trivial, wEnd M0.mv hX ht hW⟩, hS.F ht⟩) hS.2.2 dX1_strikeLeg_17
set_option maxHeartbeats 4000000 in
set_option maxRecDepth 100000 in
theorem mX1_bend (hok : Ok N st v) (i e : Nat) (hi : i < N) (he : e < 7) : Met l yX1_bend (wm yX1_bend cX1_bend 4 (some .int)) ({ frames := 2, cells := 0, slots := 0, locals := 43 } : Room) (va_Pc [.ref (q 0), .int (nI i), .int (nI e - 3)] (fun U => M0 D cyI cyZ q th (nI N) st md v w U U.heap)) (va_Qi (fun (r : Int32) (u : Nat → Nat → Int32) => r = v 0 i) (fun u U => (fun (u : Nat → Nat → Int32) => (M0 D cyI cyZ q 0 (nI N) st 0 (va_up v 0 (upd (v 0) i (nI e - 3))) u : State → Heap → Prop)) u U U.heap) (own 8 q)) 0 0 (own 8 q) := by
  refine mt (by decide) (Nat.le_of_ble_eq_true rfl) ?_
  intro p ev s m below meth c ls hF hr hlocks hnm hX hl
  have hF : CallFix p m c cX1_bend 4 s _ wA RX1 := hF
  obtain ⟨hx, hb, hml, hown, hts⟩ := id hF
  have hX : M0 D cyI cyZ q th (nI N) st md v w s s.heap := hX
  have hl : lv_has ls 4 [(0, .ref (q 0)), (1, .int (nI i)), (2, .int (nI e - 3))] := hl
  have hS : va_S (own 8 q) s.heap s.heap [] := va_S.rf
  have hN := hok.1
  refine lv_aload_n hx hb dX1_bend_0 rfl (lv_at hl 0 rfl) ?_
  refine lv_iconst (v := 0) hx hb dX1_bend_1 (by decide) ?_
  refine M0.put_th hF hX hS kf_RX1_35 dX1_bend_2 (fun H locs hX hS => ?_)
  refine lv_aload_n hx hb dX1_bend_5 rfl (lv_at hl 0 rfl) ?_
  refine lv_iload_n hx hb dX1_bend_6 rfl (lv_at hl 1 rfl) ?_
  refine cVi (As := [.int (nI i)]) (rest := []) hF (mX1_isLeg (nI i)) M0.mv hX (M0.rc hX) jyX1_isLeg kl_RX1_115 ⟨rfl, rfl⟩ ⟨Nat.le_of_ble_eq_true rfl, Nat.le_of_ble_eq_true rfl⟩ rfl hl.1 rfl (Nat.le_of_ble_eq_true rfl) ⟨Nat.zero_le _, Nat.zero_le _⟩ dX1_bend_7 (fun r hr9 => ?_)
  subst hr9
  refine lv_if_ne (tgt := 19) hx hb dX1_bend_10 (by decide) (fun c10 => ?_) (fun c10 => ?_)
  · have c10b := b2i_t c10
    refine lv_iload_n hx hb dX1_bend_19 rfl (lv_at hl 2 rfl) ?_
    refine lv_bipush (v := (-3)) hx hb dX1_bend_20 (by decide) ?_
    refine lv_iconst (v := 3) hx hb dX1_bend_22 (by decide) ?_
    refine cSi (As := [.int (nI e - 3), .int (-3), .int 3]) (rest := []) hF (mX1_isIn (nI e - 3) (-3) 3) Mv.const trivial jyX1_isIn kl_RX1_41 ⟨rfl, rfl⟩ ⟨Nat.le_of_ble_eq_true rfl, Nat.le_of_ble_eq_true rfl⟩ rfl hl.1 rfl (Nat.le_of_ble_eq_true rfl) ⟨Nat.zero_le _, Nat.zero_le _⟩ dX1_bend_23 (fun r hr9 => ?_)
    subst hr9
    refine lv_if_ne (tgt := 35) hx hb dX1_bend_26 (by decide) (fun c26 => ?_) (fun c26 => ?_)
    · have c26b := b2i_t c26
      refine lv_aload_n hx hb dX1_bend_35 rfl (lv_at hl 0 rfl) ?_
      refine M0.get hF hX 3 (by decide) rfl rfl kf_RX1_13 dX1_bend_36 ?_
      refine lv_iload_n hx hb dX1_bend_39 rfl (lv_at hl 1 rfl) ?_
      refine aldI hF hX.2.1 hX.1 1 0 rfl rfl i (by omega) (by decide) rfl dX1_bend_40 ?_
      refine lv_istore_n (lv' := [(3, .int (v 0 i)), (0, .ref (q 0)), (1, .int (nI i)), (2, .int (nI e - 3))]) hx hb dX1_bend_41 rfl hl (by decide) rfl (fun ls hl => ?_)
      refine lv_aload_n hx hb dX1_bend_42 rfl (lv_at hl 1 rfl) ?_
      refine M0.get hF hX 3 (by decide) rfl rfl kf_RX1_13 dX1_bend_43 ?_
      refine lv_iload_n hx hb dX1_bend_46 rfl (lv_at hl 2 rfl) ?_
      refine lv_iload_n hx hb dX1_bend_47 rfl (lv_at hl 3 rfl) ?_
      refine M0.st_v0 hF hX hS i (by omega) rfl dX1_bend_48 (fun H locs hX hS => ?_)
      refine lv_aload_n hx hb dX1_bend_49 rfl (lv_at hl 1 rfl) ?_
      refine lv_iconst (v := 0) hx hb dX1_bend_50 (by decide) ?_
      refine M0.put_md hF hX hS kf_RX1_85 dX1_bend_51 (fun H locs hX hS => ?_)
      refine lv_iload_n hx hb dX1_bend_54 rfl (lv_at hl 0 rfl) ?_
      exact W.iret hx hb hr (fun t ht hW => ⟨⟨_, w, rfl, rfl, wEnd M0.mv hX ht hW⟩, hS.F ht⟩) hS.2.2 dX1_bend_55
    · have c26b := b2i_f c26
      exact absurd (isI_t he) (by rw [c26b]; decide)
  · have c10b := b2i_f c10
    exact absurd (legB_t hi hN) (by rw [c10b]; decide)
set_option maxHeartbeats 4000000 in
set_option maxRecDepth 100000 in
theorem nX1_bend (x y : Int32) (hbad : legB N x = false) : Met l yX1_bend (wm yX1_bend cX1_bend 4 (some .int)) ({ frames := 2, cells := 0, slots := 0, locals := 43 } : Room) (va_Pc [.ref (q 0), .int x, .int y] (fun U => M0 D cyI cyZ q th (nI N) st md v w U U.heap)) (va_Qi (fun (r : Int32) (u : Nat → Nat → Int32) => True) (fun u U => (fun (u : Nat → Nat → Int32) => (M0 D cyI cyZ q 1 (nI N) st md v u : State → Heap → Prop)) u U U.heap) (own 8 q)) 0 0 (own 8 q) := by
  refine mt (by decide) (Nat.le_of_ble_eq_true rfl) ?_
  intro p ev s m below meth c ls hF hr hlocks hnm hX hl
  have hF : CallFix p m c cX1_bend 4 s _ wA RX1 := hF
  obtain ⟨hx, hb, hml, hown, hts⟩ := id hF
  have hX : M0 D cyI cyZ q th (nI N) st md v w s s.heap := hX
  have hl : lv_has ls 4 [(0, .ref (q 0)), (1, .int x), (2, .int y)] := hl
  have hS : va_S (own 8 q) s.heap s.heap [] := va_S.rf
  refine lv_aload_n hx hb dX1_bend_0 rfl (lv_at hl 0 rfl) ?_
  refine lv_iconst (v := 0) hx hb dX1_bend_1 (by decide) ?_
  refine M0.put_th hF hX hS kf_RX1_35 dX1_bend_2 (fun H locs hX hS => ?_)
  refine lv_aload_n hx hb dX1_bend_5 rfl (lv_at hl 0 rfl) ?_
  refine lv_iload_n hx hb dX1_bend_6 rfl (lv_at hl 1 rfl) ?_
  refine cVi (As := [.int x]) (rest := []) hF (mX1_isLeg x) M0.mv hX (M0.rc hX) jyX1_isLeg kl_RX1_115 ⟨rfl, rfl⟩ ⟨Nat.le_of_ble_eq_true rfl, Nat.le_of_ble_eq_true rfl⟩ rfl hl.1 rfl (Nat.le_of_ble_eq_true rfl) ⟨Nat.zero_le _, Nat.zero_le _⟩ dX1_bend_7 (fun r hr9 => ?_)
  subst hr9
  refine lv_if_ne (tgt := 19) hx hb dX1_bend_10 (by decide) (fun c10 => ?_) (fun c10 => ?_)
  · have c10b := b2i_t c10
    exact absurd hbad (by rw [c10b]; decide)
  · have c10b := b2i_f c10
    refine lv_aload_n hx hb dX1_bend_13 rfl (lv_at hl 0 rfl) ?_
    refine lv_iconst (v := 1) hx hb dX1_bend_14 (by decide) ?_
    refine wVi (mc := 0) (ms := 0) (As := [.int 1]) (rest := []) hF (mX1_no 1) M0.mv (fun _ => M0.mv) hX (M0.rc hX) jyX1_no kl_RX1_112 ⟨rfl, rfl⟩ ⟨Nat.le_of_ble_eq_true rfl, Nat.le_of_ble_eq_true rfl⟩ rfl hl.1 rfl (Nat.le_of_ble_eq_true rfl) ⟨Nat.zero_le _, Nat.zero_le _⟩ hS (fun _ _ h => h) (fun _ h => h) dX1_bend_15 (fun r9 w1 H locs hp hX hz hk hS => ?_)
    have hr9 := hp
    rw [hr9]
    exact W.iret hx hb hr (fun t ht hW => ⟨⟨_, w1, rfl, trivial, wEnd M0.mv hX ht hW⟩, hS.F ht⟩) hS.2.2 dX1_bend_18
set_option maxHeartbeats 4000000 in
set_option maxRecDepth 100000 in
theorem oX1_bend (hok : Ok N st v) (i : Nat) (hi : i < N) (y : Int32) (hbad : isI y (-3) 3 = false) : Met l yX1_bend (wm yX1_bend cX1_bend 4 (some .int)) ({ frames := 2, cells := 0, slots := 0, locals := 43 } : Room) (va_Pc [.ref (q 0), .int (nI i), .int y] (fun U => M0 D cyI cyZ q th (nI N) st md v w U U.heap)) (va_Qi (fun (r : Int32) (u : Nat → Nat → Int32) => True) (fun u U => (fun (u : Nat → Nat → Int32) => (M0 D cyI cyZ q 2 (nI N) st md v u : State → Heap → Prop)) u U U.heap) (own 8 q)) 0 0 (own 8 q) := by
  refine mt (by decide) (Nat.le_of_ble_eq_true rfl) ?_
  intro p ev s m below meth c ls hF hr hlocks hnm hX hl
  have hF : CallFix p m c cX1_bend 4 s _ wA RX1 := hF
  obtain ⟨hx, hb, hml, hown, hts⟩ := id hF
  have hX : M0 D cyI cyZ q th (nI N) st md v w s s.heap := hX
  have hl : lv_has ls 4 [(0, .ref (q 0)), (1, .int (nI i)), (2, .int y)] := hl
  have hS : va_S (own 8 q) s.heap s.heap [] := va_S.rf
  have hN := hok.1
  refine lv_aload_n hx hb dX1_bend_0 rfl (lv_at hl 0 rfl) ?_
  refine lv_iconst (v := 0) hx hb dX1_bend_1 (by decide) ?_
  refine M0.put_th hF hX hS kf_RX1_35 dX1_bend_2 (fun H locs hX hS => ?_)
  refine lv_aload_n hx hb dX1_bend_5 rfl (lv_at hl 0 rfl) ?_
  refine lv_iload_n hx hb dX1_bend_6 rfl (lv_at hl 1 rfl) ?_
  refine cVi (As := [.int (nI i)]) (rest := []) hF (mX1_isLeg (nI i)) M0.mv hX (M0.rc hX) jyX1_isLeg kl_RX1_115 ⟨rfl, rfl⟩ ⟨Nat.le_of_ble_eq_true rfl, Nat.le_of_ble_eq_true rfl⟩ rfl hl.1 rfl (Nat.le_of_ble_eq_true rfl) ⟨Nat.zero_le _, Nat.zero_le _⟩ dX1_bend_7 (fun r hr9 => ?_)
  subst hr9
  refine lv_if_ne (tgt := 19) hx hb dX1_bend_10 (by decide) (fun c10 => ?_) (fun c10 => ?_)
  · have c10b := b2i_t c10
    refine lv_iload_n hx hb dX1_bend_19 rfl (lv_at hl 2 rfl) ?_
    refine lv_bipush (v := (-3)) hx hb dX1_bend_20 (by decide) ?_
    refine lv_iconst (v := 3) hx hb dX1_bend_22 (by decide) ?_
    refine cSi (As := [.int y, .int (-3), .int 3]) (rest := []) hF (mX1_isIn y (-3) 3) Mv.const trivial jyX1_isIn kl_RX1_41 ⟨rfl, rfl⟩ ⟨Nat.le_of_ble_eq_true rfl, Nat.le_of_ble_eq_true rfl⟩ rfl hl.1 rfl (Nat.le_of_ble_eq_true rfl) ⟨Nat.zero_le _, Nat.zero_le _⟩ dX1_bend_23 (fun r hr9 => ?_)
    subst hr9
    refine lv_if_ne (tgt := 35) hx hb dX1_bend_26 (by decide) (fun c26 => ?_) (fun c26 => ?_)
    · have c26b := b2i_t c26
      exact absurd hbad (by rw [c26b]; decide)
    · have c26b := b2i_f c26
      refine lv_aload_n hx hb dX1_bend_29 rfl (lv_at hl 0 rfl) ?_
      refine lv_iconst (v := 2) hx hb dX1_bend_30 (by decide) ?_
      refine wVi (mc := 0) (ms := 0) (As := [.int 2]) (rest := []) hF (mX1_no 2) M0.mv (fun _ => M0.mv) hX (M0.rc hX) jyX1_no kl_RX1_112 ⟨rfl, rfl⟩ ⟨Nat.le_of_ble_eq_true rfl, Nat.le_of_ble_eq_true rfl⟩ rfl hl.1 rfl (Nat.le_of_ble_eq_true rfl) ⟨Nat.zero_le _, Nat.zero_le _⟩ hS (fun _ _ h => h) (fun _ h => h) dX1_bend_31 (fun r9 w1 H locs hp hX hz hk hS => ?_)
      have hr9 := hp
      rw [hr9]
      exact W.iret hx hb hr (fun t ht hW => ⟨⟨_, w1, rfl, trivial, wEnd M0.mv hX ht hW⟩, hS.F ht⟩) hS.2.2 dX1_bend_34
  · have c10b := b2i_f c10
    exact absurd (legB_t hi hN) (by rw [c10b]; decide)
set_option maxHeartbeats 4000000 in
set_option maxRecDepth 100000 in
theorem mX1_setWord (j x : Nat) (hj10 : j < 10) (hx10 : x < 10) : Met l yX1_setWord (wm yX1_setWord cX1_setWord 4 (some .int)) ({ frames := 2, cells := 0, slots := 0, locals := 42 } : Room) (va_Pc [.ref (q 0), .int (nI j), .int (nI x)] (fun U => M0 D cyI cyZ q th (nI N) st md v w U U.heap)) (va_Qi (fun (r : Int32) (u : Nat → Nat → Int32) => r = v 3 j) (fun u U => (fun (u : Nat → Nat → Int32) => (M0 D cyI cyZ q 0 (nI N) st 0 (va_up v 3 (upd (v 3) j (nI x))) u : State → Heap → Prop)) u U U.heap) (own 8 q)) 0 0 (own 8 q) := by
  refine mt (by decide) (Nat.le_of_ble_eq_true rfl) ?_
  intro p ev s m below meth c ls hF hr hlocks hnm hX hl
  have hF : CallFix p m c cX1_setWord 4 s _ wA RX1 := hF
  obtain ⟨hx, hb, hml, hown, hts⟩ := id hF
  have hX : M0 D cyI cyZ q th (nI N) st md v w s s.heap := hX
  have hl : lv_has ls 4 [(0, .ref (q 0)), (1, .int (nI j)), (2, .int (nI x))] := hl
  have hS : va_S (own 8 q) s.heap s.heap [] := va_S.rf
  refine lv_aload_n hx hb dX1_setWord_0 rfl (lv_at hl 0 rfl) ?_
  refine lv_iconst (v := 0) hx hb dX1_setWord_1 (by decide) ?_
  refine M0.put_th hF hX hS kf_RX1_35 dX1_setWord_2 (fun H locs hX hS => ?_)
  refine lv_iload_n hx hb dX1_setWord_5 rfl (lv_at hl 1 rfl) ?_
  refine cSi (As := [.int (nI j)]) (rest := []) hF (mX1_isKind (nI j)) Mv.const trivial jyX1_isKind kl_RX1_109 ⟨rfl, rfl⟩ ⟨Nat.le_of_ble_eq_true rfl, Nat.le_of_ble_eq_true rfl⟩ rfl hl.1 rfl (Nat.le_of_ble_eq_true rfl) ⟨Nat.zero_le _, Nat.zero_le _⟩ dX1_setWord_6 (fun r hr9 => ?_)
  subst hr9
  refine lv_if_ne (tgt := 18) hx hb dX1_setWord_9 (by decide) (fun c9 => ?_) (fun c9 => ?_)
  · have c9b := b2i_t c9
    refine lv_iload_n hx hb dX1_setWord_18 rfl (lv_at hl 2 rfl) ?_
    refine cSi (As := [.int (nI x)]) (rest := []) hF (mX1_isKind (nI x)) Mv.const trivial jyX1_isKind kl_RX1_109 ⟨rfl, rfl⟩ ⟨Nat.le_of_ble_eq_true rfl, Nat.le_of_ble_eq_true rfl⟩ rfl hl.1 rfl (Nat.le_of_ble_eq_true rfl) ⟨Nat.zero_le _, Nat.zero_le _⟩ dX1_setWord_19 (fun r hr9 => ?_)
    subst hr9
    refine lv_if_ne (tgt := 31) hx hb dX1_setWord_22 (by decide) (fun c22 => ?_) (fun c22 => ?_)
    · have c22b := b2i_t c22
      refine lv_aload_n hx hb dX1_setWord_31 rfl (lv_at hl 0 rfl) ?_
      refine M0.get hF hX 6 (by decide) rfl rfl kf_RX1_23 dX1_setWord_32 ?_
      refine lv_iload_n hx hb dX1_setWord_35 rfl (lv_at hl 1 rfl) ?_
      refine aldI hF hX.2.1 hX.1 4 0 rfl rfl j (by omega) (by decide) rfl dX1_setWord_36 ?_
      refine lv_istore_n (lv' := [(3, .int (v 3 j)), (0, .ref (q 0)), (1, .int (nI j)), (2, .int (nI x))]) hx hb dX1_setWord_37 rfl hl (by decide) rfl (fun ls hl => ?_)
      refine lv_aload_n hx hb dX1_setWord_38 rfl (lv_at hl 1 rfl) ?_
      refine M0.get hF hX 6 (by decide) rfl rfl kf_RX1_23 dX1_setWord_39 ?_
      refine lv_iload_n hx hb dX1_setWord_42 rfl (lv_at hl 2 rfl) ?_
      refine lv_iload_n hx hb dX1_setWord_43 rfl (lv_at hl 3 rfl) ?_
      refine M0.st_v3 hF hX hS j (by omega) rfl dX1_setWord_44 (fun H locs hX hS => ?_)
      refine lv_aload_n hx hb dX1_setWord_45 rfl (lv_at hl 1 rfl) ?_
      refine lv_iconst (v := 0) hx hb dX1_setWord_46 (by decide) ?_
      refine M0.put_md hF hX hS kf_RX1_85 dX1_setWord_47 (fun H locs hX hS => ?_)
      refine lv_iload_n hx hb dX1_setWord_50 rfl (lv_at hl 0 rfl) ?_
      exact W.iret hx hb hr (fun t ht hW => ⟨⟨_, w, rfl, rfl, wEnd M0.mv hX ht hW⟩, hS.F ht⟩) hS.2.2 dX1_setWord_51
    · have c22b := b2i_f c22
      exact absurd (isI_k hx10) (by rw [c22b]; decide)
  · have c9b := b2i_f c9
    exact absurd (isI_k hj10) (by rw [c9b]; decide)
set_option maxHeartbeats 4000000 in
set_option maxRecDepth 100000 in
theorem nX1_setWord (x y : Int32) (hbad : isI x 0 9 = false) : Met l yX1_setWord (wm yX1_setWord cX1_setWord 4 (some .int)) ({ frames := 2, cells := 0, slots := 0, locals := 42 } : Room) (va_Pc [.ref (q 0), .int x, .int y] (fun U => M0 D cyI cyZ q th (nI N) st md v w U U.heap)) (va_Qi (fun (r : Int32) (u : Nat → Nat → Int32) => True) (fun u U => (fun (u : Nat → Nat → Int32) => (M0 D cyI cyZ q 1 (nI N) st md v u : State → Heap → Prop)) u U U.heap) (own 8 q)) 0 0 (own 8 q) := by
  refine mt (by decide) (Nat.le_of_ble_eq_true rfl) ?_
  intro p ev s m below meth c ls hF hr hlocks hnm hX hl
  have hF : CallFix p m c cX1_setWord 4 s _ wA RX1 := hF
  obtain ⟨hx, hb, hml, hown, hts⟩ := id hF
  have hX : M0 D cyI cyZ q th (nI N) st md v w s s.heap := hX
  have hl : lv_has ls 4 [(0, .ref (q 0)), (1, .int x), (2, .int y)] := hl
  have hS : va_S (own 8 q) s.heap s.heap [] := va_S.rf
  refine lv_aload_n hx hb dX1_setWord_0 rfl (lv_at hl 0 rfl) ?_
  refine lv_iconst (v := 0) hx hb dX1_setWord_1 (by decide) ?_
  refine M0.put_th hF hX hS kf_RX1_35 dX1_setWord_2 (fun H locs hX hS => ?_)
  refine lv_iload_n hx hb dX1_setWord_5 rfl (lv_at hl 1 rfl) ?_
  refine cSi (As := [.int x]) (rest := []) hF (mX1_isKind x) Mv.const trivial jyX1_isKind kl_RX1_109 ⟨rfl, rfl⟩ ⟨Nat.le_of_ble_eq_true rfl, Nat.le_of_ble_eq_true rfl⟩ rfl hl.1 rfl (Nat.le_of_ble_eq_true rfl) ⟨Nat.zero_le _, Nat.zero_le _⟩ dX1_setWord_6 (fun r hr9 => ?_)
  subst hr9
  refine lv_if_ne (tgt := 18) hx hb dX1_setWord_9 (by decide) (fun c9 => ?_) (fun c9 => ?_)
  · have c9b := b2i_t c9
    exact absurd hbad (by rw [c9b]; decide)
  · have c9b := b2i_f c9
    refine lv_aload_n hx hb dX1_setWord_12 rfl (lv_at hl 0 rfl) ?_
    refine lv_iconst (v := 1) hx hb dX1_setWord_13 (by decide) ?_
    refine wVi (mc := 0) (ms := 0) (As := [.int 1]) (rest := []) hF (mX1_no 1) M0.mv (fun _ => M0.mv) hX (M0.rc hX) jyX1_no kl_RX1_112 ⟨rfl, rfl⟩ ⟨Nat.le_of_ble_eq_true rfl, Nat.le_of_ble_eq_true rfl⟩ rfl hl.1 rfl (Nat.le_of_ble_eq_true rfl) ⟨Nat.zero_le _, Nat.zero_le _⟩ hS (fun _ _ h => h) (fun _ h => h) dX1_setWord_14 (fun r9 w1 H locs hp hX hz hk hS => ?_)
    have hr9 := hp
    rw [hr9]
    exact W.iret hx hb hr (fun t ht hW => ⟨⟨_, w1, rfl, trivial, wEnd M0.mv hX ht hW⟩, hS.F ht⟩) hS.2.2 dX1_setWord_17
set_option maxHeartbeats 4000000 in
set_option maxRecDepth 100000 in
theorem oX1_setWord (j : Nat) (hj10 : j < 10) (y : Int32) (hbad : isI y 0 9 = false) : Met l yX1_setWord (wm yX1_setWord cX1_setWord 4 (some .int)) ({ frames := 2, cells := 0, slots := 0, locals := 42 } : Room) (va_Pc [.ref (q 0), .int (nI j), .int y] (fun U => M0 D cyI cyZ q th (nI N) st md v w U U.heap)) (va_Qi (fun (r : Int32) (u : Nat → Nat → Int32) => True) (fun u U => (fun (u : Nat → Nat → Int32) => (M0 D cyI cyZ q 2 (nI N) st md v u : State → Heap → Prop)) u U U.heap) (own 8 q)) 0 0 (own 8 q) := by
  refine mt (by decide) (Nat.le_of_ble_eq_true rfl) ?_
  intro p ev s m below meth c ls hF hr hlocks hnm hX hl
  have hF : CallFix p m c cX1_setWord 4 s _ wA RX1 := hF
  obtain ⟨hx, hb, hml, hown, hts⟩ := id hF
  have hX : M0 D cyI cyZ q th (nI N) st md v w s s.heap := hX
  have hl : lv_has ls 4 [(0, .ref (q 0)), (1, .int (nI j)), (2, .int y)] := hl
  have hS : va_S (own 8 q) s.heap s.heap [] := va_S.rf
  refine lv_aload_n hx hb dX1_setWord_0 rfl (lv_at hl 0 rfl) ?_
  refine lv_iconst (v := 0) hx hb dX1_setWord_1 (by decide) ?_
  refine M0.put_th hF hX hS kf_RX1_35 dX1_setWord_2 (fun H locs hX hS => ?_)
  refine lv_iload_n hx hb dX1_setWord_5 rfl (lv_at hl 1 rfl) ?_
  refine cSi (As := [.int (nI j)]) (rest := []) hF (mX1_isKind (nI j)) Mv.const trivial jyX1_isKind kl_RX1_109 ⟨rfl, rfl⟩ ⟨Nat.le_of_ble_eq_true rfl, Nat.le_of_ble_eq_true rfl⟩ rfl hl.1 rfl (Nat.le_of_ble_eq_true rfl) ⟨Nat.zero_le _, Nat.zero_le _⟩ dX1_setWord_6 (fun r hr9 => ?_)
  subst hr9
  refine lv_if_ne (tgt := 18) hx hb dX1_setWord_9 (by decide) (fun c9 => ?_) (fun c9 => ?_)
  · have c9b := b2i_t c9
    refine lv_iload_n hx hb dX1_setWord_18 rfl (lv_at hl 2 rfl) ?_
    refine cSi (As := [.int y]) (rest := []) hF (mX1_isKind y) Mv.const trivial jyX1_isKind kl_RX1_109 ⟨rfl, rfl⟩ ⟨Nat.le_of_ble_eq_true rfl, Nat.le_of_ble_eq_true rfl⟩ rfl hl.1 rfl (Nat.le_of_ble_eq_true rfl) ⟨Nat.zero_le _, Nat.zero_le _⟩ dX1_setWord_19 (fun r hr9 => ?_)
    subst hr9
    refine lv_if_ne (tgt := 31) hx hb dX1_setWord_22 (by decide) (fun c22 => ?_) (fun c22 => ?_)
    · have c22b := b2i_t c22
      exact absurd hbad (by rw [c22b]; decide)
    · have c22b := b2i_f c22
      refine lv_aload_n hx hb dX1_setWord_25 rfl (lv_at hl 0 rfl) ?_
      refine lv_iconst (v := 2) hx hb dX1_setWord_26 (by decide) ?_
      refine wVi (mc := 0) (ms := 0) (As := [.int 2]) (rest := []) hF (mX1_no 2) M0.mv (fun _ => M0.mv) hX (M0.rc hX) jyX1_no kl_RX1_112 ⟨rfl, rfl⟩ ⟨Nat.le_of_ble_eq_true rfl, Nat.le_of_ble_eq_true rfl⟩ rfl hl.1 rfl (Nat.le_of_ble_eq_true rfl) ⟨Nat.zero_le _, Nat.zero_le _⟩ hS (fun _ _ h => h) (fun _ h => h) dX1_setWord_27 (fun r9 w1 H locs hp hX hz hk hS => ?_)
      have hr9 := hp
      rw [hr9]
      exact W.iret hx hb hr (fun t ht hW => ⟨⟨_, w1, rfl, trivial, wEnd M0.mv hX ht hW⟩, hS.F ht⟩) hS.2.2 dX1_setWord_30
  · have c9b := b2i_f c9
    exact absurd (isI_k hj10) (by rw [c9b]; decide)
set_option maxHeartbeats 4000000 in
set_option maxRecDepth 100000 in
theorem mX1_setStep (x : Nat) (hx4 : x < 4) : Met l yX1_setStep (wm yX1_setStep cX1_setStep 3 (some .int)) ({ frames := 1, cells := 0, slots := 0, locals := 22 } : Room) (va_Pc [.ref (q 0), .int (nI (x + 1))] (fun U => M0 D cyI cyZ q th (nI N) st md v w U U.heap)) (va_Qi (fun (r : Int32) (u : Nat → Nat → Int32) => r = st) (fun u U => (fun (u : Nat → Nat → Int32) => (M0 D cyI cyZ q 0 (nI N) (nI (x + 1)) 0 v u : State → Heap → Prop)) u U U.heap) (own 8 q)) 0 0 (own 8 q) := by
  refine mt (by decide) (Nat.le_of_ble_eq_true rfl) ?_
  intro p ev s m below meth c ls hF hr hlocks hnm hX hl
  have hF : CallFix p m c cX1_setStep 3 s _ wA RX1 := hF
  obtain ⟨hx, hb, hml, hown, hts⟩ := id hF
  have hX : M0 D cyI cyZ q th (nI N) st md v w s s.heap := hX
  have hl : lv_has ls 3 [(0, .ref (q 0)), (1, .int (nI (x + 1)))] := hl
  have hS : va_S (own 8 q) s.heap s.heap [] := va_S.rf
  refine lv_aload_n hx hb dX1_setStep_0 rfl (lv_at hl 0 rfl) ?_
  refine lv_iconst (v := 0) hx hb dX1_setStep_1 (by decide) ?_
  refine M0.put_th hF hX hS kf_RX1_35 dX1_setStep_2 (fun H locs hX hS => ?_)
  refine lv_iload_n hx hb dX1_setStep_5 rfl (lv_at hl 1 rfl) ?_
  refine lv_iconst (v := 1) hx hb dX1_setStep_6 (by decide) ?_
  refine lv_iconst (v := 4) hx hb dX1_setStep_7 (by decide) ?_
  refine cSi (As := [.int (nI (x + 1)), .int 1, .int 4]) (rest := []) hF (mX1_isIn (nI (x + 1)) 1 4) Mv.const trivial jyX1_isIn kl_RX1_41 ⟨rfl, rfl⟩ ⟨Nat.le_of_ble_eq_true rfl, Nat.le_of_ble_eq_true rfl⟩ rfl hl.1 rfl (Nat.le_of_ble_eq_true rfl) ⟨Nat.zero_le _, Nat.zero_le _⟩ dX1_setStep_8 (fun r hr9 => ?_)
  subst hr9
  refine lv_if_ne (tgt := 20) hx hb dX1_setStep_11 (by decide) (fun c11 => ?_) (fun c11 => ?_)
  · have c11b := b2i_t c11
    refine lv_aload_n hx hb dX1_setStep_20 rfl (lv_at hl 0 rfl) ?_
    refine M0.get hF hX 2 (by decide) rfl rfl kf_RX1_7 dX1_setStep_21 ?_
    refine lv_istore_n (lv' := [(2, .int st), (0, .ref (q 0)), (1, .int (nI (x + 1)))]) hx hb dX1_setStep_24 rfl hl (by decide) rfl (fun ls hl => ?_)
    refine lv_aload_n hx hb dX1_setStep_25 rfl (lv_at hl 1 rfl) ?_
    refine lv_iload_n hx hb dX1_setStep_26 rfl (lv_at hl 2 rfl) ?_
    refine M0.put_st hF hX hS kf_RX1_7 dX1_setStep_27 (fun H locs hX hS => ?_)
    refine lv_aload_n hx hb dX1_setStep_30 rfl (lv_at hl 1 rfl) ?_
    refine lv_iconst (v := 0) hx hb dX1_setStep_31 (by decide) ?_
    refine M0.put_md hF hX hS kf_RX1_85 dX1_setStep_32 (fun H locs hX hS => ?_)
    refine lv_iload_n hx hb dX1_setStep_35 rfl (lv_at hl 0 rfl) ?_
    exact W.iret hx hb hr (fun t ht hW => ⟨⟨_, w, rfl, rfl, wEnd M0.mv hX ht hW⟩, hS.F ht⟩) hS.2.2 dX1_setStep_36
  · have c11b := b2i_f c11
    exact absurd (isI_s hx4) (by rw [c11b]; decide)
set_option maxHeartbeats 4000000 in
set_option maxRecDepth 100000 in
theorem nX1_setStep (x : Int32) (hbad : isI x 1 4 = false) : Met l yX1_setStep (wm yX1_setStep cX1_setStep 3 (some .int)) ({ frames := 1, cells := 0, slots := 0, locals := 22 } : Room) (va_Pc [.ref (q 0), .int x] (fun U => M0 D cyI cyZ q th (nI N) st md v w U U.heap)) (va_Qi (fun (r : Int32) (u : Nat → Nat → Int32) => True) (fun u U => (fun (u : Nat → Nat → Int32) => (M0 D cyI cyZ q 1 (nI N) st md v u : State → Heap → Prop)) u U U.heap) (own 8 q)) 0 0 (own 8 q) := by
  refine mt (by decide) (Nat.le_of_ble_eq_true rfl) ?_
  intro p ev s m below meth c ls hF hr hlocks hnm hX hl
  have hF : CallFix p m c cX1_setStep 3 s _ wA RX1 := hF
  obtain ⟨hx, hb, hml, hown, hts⟩ := id hF
  have hX : M0 D cyI cyZ q th (nI N) st md v w s s.heap := hX
  have hl : lv_has ls 3 [(0, .ref (q 0)), (1, .int x)] := hl
  have hS : va_S (own 8 q) s.heap s.heap [] := va_S.rf
  refine lv_aload_n hx hb dX1_setStep_0 rfl (lv_at hl 0 rfl) ?_
  refine lv_iconst (v := 0) hx hb dX1_setStep_1 (by decide) ?_
  refine M0.put_th hF hX hS kf_RX1_35 dX1_setStep_2 (fun H locs hX hS => ?_)
  refine lv_iload_n hx hb dX1_setStep_5 rfl (lv_at hl 1 rfl) ?_
  refine lv_iconst (v := 1) hx hb dX1_setStep_6 (by decide) ?_
  refine lv_iconst (v := 4) hx hb dX1_setStep_7 (by decide) ?_
  refine cSi (As := [.int x, .int 1, .int 4]) (rest := []) hF (mX1_isIn x 1 4) Mv.const trivial jyX1_isIn kl_RX1_41 ⟨rfl, rfl⟩ ⟨Nat.le_of_ble_eq_true rfl, Nat.le_of_ble_eq_true rfl⟩ rfl hl.1 rfl (Nat.le_of_ble_eq_true rfl) ⟨Nat.zero_le _, Nat.zero_le _⟩ dX1_setStep_8 (fun r hr9 => ?_)
  subst hr9
  refine lv_if_ne (tgt := 20) hx hb dX1_setStep_11 (by decide) (fun c11 => ?_) (fun c11 => ?_)
  · have c11b := b2i_t c11
    exact absurd hbad (by rw [c11b]; decide)
  · have c11b := b2i_f c11
    refine lv_aload_n hx hb dX1_setStep_14 rfl (lv_at hl 0 rfl) ?_
    refine lv_iconst (v := 1) hx hb dX1_setStep_15 (by decide) ?_
    refine wVi (mc := 0) (ms := 0) (As := [.int 1]) (rest := []) hF (mX1_no 1) M0.mv (fun _ => M0.mv) hX (M0.rc hX) jyX1_no kl_RX1_112 ⟨rfl, rfl⟩ ⟨Nat.le_of_ble_eq_true rfl, Nat.le_of_ble_eq_true rfl⟩ rfl hl.1 rfl (Nat.le_of_ble_eq_true rfl) ⟨Nat.zero_le _, Nat.zero_le _⟩ hS (fun _ _ h => h) (fun _ h => h) dX1_setStep_16 (fun r9 w1 H locs hp hX hz hk hS => ?_)
    have hr9 := hp
    rw [hr9]
    exact W.iret hx hb hr (fun t ht hW => ⟨⟨_, w1, rfl, trivial, wEnd M0.mv hX ht hW⟩, hS.F ht⟩) hS.2.2 dX1_setStep_19
set_option maxHeartbeats 4000000 in
set_option maxRecDepth 100000 in
theorem mX1_mend (hok : Ok N st v) (hmk : Mk N mk md) (i : Nat) (hi : i < N) (ha : amb v st mk i = true) : Met l yX1_mend (wm yX1_mend cX1_mend 2 (some .int)) ({ frames := 6, cells := 0, slots := 0, locals := 129 } : Room) (va_Pc [.ref (q 0), .int (nI i)] (fun U => M0 D cyI cyZ q th (nI N) st md v w U U.heap)) (va_Qi (fun (r : Int32) (u : Nat → Nat → Int32) => r = rrn v st i) (fun u U => (fun (u : Nat → Nat → Int32) => (M0 D cyI cyZ q 0 (nI N) st (md ||| (1 <<< (nI i &&& 31))) v u : State → Heap → Prop)) u U U.heap) (own 8 q)) 0 0 (own 8 q) := by
  refine mt (by decide) (Nat.le_of_ble_eq_true rfl) ?_
  intro p ev s m below meth c ls hF hr hlocks hnm hX hl
  have hF : CallFix p m c cX1_mend 2 s _ wA RX1 := hF
  obtain ⟨hx, hb, hml, hown, hts⟩ := id hF
  have hX : M0 D cyI cyZ q th (nI N) st md v w s s.heap := hX
  have hl : lv_has ls 2 [(0, .ref (q 0)), (1, .int (nI i))] := hl
  have hS : va_S (own 8 q) s.heap s.heap [] := va_S.rf
  have hN := hok.1
  refine lv_aload_n hx hb dX1_mend_0 rfl (lv_at hl 0 rfl) ?_
  refine lv_iconst (v := 0) hx hb dX1_mend_1 (by decide) ?_
  refine M0.put_th hF hX hS kf_RX1_35 dX1_mend_2 (fun H locs hX hS => ?_)
  refine lv_aload_n hx hb dX1_mend_5 rfl (lv_at hl 0 rfl) ?_
  refine lv_iload_n hx hb dX1_mend_6 rfl (lv_at hl 1 rfl) ?_
  refine cVi (As := [.int (nI i)]) (rest := []) hF (mX1_isLeg (nI i)) M0.mv hX (M0.rc hX) jyX1_isLeg kl_RX1_115 ⟨rfl, rfl⟩ ⟨Nat.le_of_ble_eq_true rfl, Nat.le_of_ble_eq_true rfl⟩ rfl hl.1 rfl (Nat.le_of_ble_eq_true rfl) ⟨Nat.zero_le _, Nat.zero_le _⟩ dX1_mend_7 (fun r hr9 => ?_)
  subst hr9
  refine lv_if_ne (tgt := 19) hx hb dX1_mend_10 (by decide) (fun c10 => ?_) (fun c10 => ?_)
  · have c10b := b2i_t c10
    refine lv_aload_n hx hb dX1_mend_19 rfl (lv_at hl 0 rfl) ?_
    refine lv_iload_n hx hb dX1_mend_20 rfl (lv_at hl 1 rfl) ?_
    refine wVi (mc := 0) (ms := 0) (As := [.int (nI i)]) (rest := []) hF (mX1_isOpen hok hmk i (by omega)) M0.mv (fun _ => M0.mv) hX (M0.rc hX) jyX1_isOpen kl_RX1_94 ⟨rfl, rfl⟩ ⟨Nat.le_of_ble_eq_true rfl, Nat.le_of_ble_eq_true rfl⟩ rfl hl.1 rfl (Nat.le_of_ble_eq_true rfl) ⟨Nat.zero_le _, Nat.zero_le _⟩ hS (fun _ _ h => h) (fun _ h => h) dX1_mend_21 (fun r9 w1 H locs hp hX hz hk hS => ?_)
    have hr9 := hp
    subst hr9
    refine lv_if_ne (tgt := 33) hx hb dX1_mend_24 (by decide) (fun c24 => ?_) (fun c24 => ?_)
    · have c24b := b2i_t c24
      refine lv_aload_n hx hb dX1_mend_33 rfl (lv_at hl 0 rfl) ?_
      refine lv_dup hx hb dX1_mend_34 rfl ?_
      refine M0.get hF hX 7 (by decide) rfl rfl kf_RX1_85 dX1_mend_35 ?_
      refine lv_iconst (v := 1) hx hb dX1_mend_38 (by decide) ?_
      refine lv_iload_n hx hb dX1_mend_39 rfl (lv_at hl 1 rfl) ?_
      refine lv_ishl hx hb dX1_mend_40 ?_
      refine lv_ior hx hb dX1_mend_41 ?_
      refine M0.put_md hF hX hS kf_RX1_85 dX1_mend_42 (fun H locs hX hS => ?_)
      refine lv_aload_n hx hb dX1_mend_45 rfl (lv_at hl 0 rfl) ?_
      refine lv_iload_n hx hb dX1_mend_46 rfl (lv_at hl 1 rfl) ?_
      refine wVi (mc := 0) (ms := 0) (As := [.int (nI i)]) (rest := []) hF (mX1_right hok i (by omega)) M0.mv (fun _ => M0.mv) hX (M0.rc hX) jyX1_right kl_RX1_149 ⟨rfl, rfl⟩ ⟨Nat.le_of_ble_eq_true rfl, Nat.le_of_ble_eq_true rfl⟩ rfl hl.1 rfl (Nat.le_of_ble_eq_true rfl) ⟨Nat.zero_le _, Nat.zero_le _⟩ hS (fun _ _ h => h) (fun _ h => h) dX1_mend_47 (fun r9 w2 H locs hp hX hz hk hS => ?_)
      have hr9 := hp
      subst hr9
      exact W.iret hx hb hr (fun t ht hW => ⟨⟨_, w2, rfl, rfl, wEnd M0.mv hX ht hW⟩, hS.F ht⟩) hS.2.2 dX1_mend_50
    · have c24b := b2i_f c24
      exact absurd ha (by rw [c24b]; decide)
  · have c10b := b2i_f c10
    exact absurd (legB_t hi hN) (by rw [c10b]; decide)
set_option maxHeartbeats 4000000 in
set_option maxRecDepth 100000 in
theorem nX1_mend (x : Int32) (hbad : legB N x = false) : Met l yX1_mend (wm yX1_mend cX1_mend 2 (some .int)) ({ frames := 2, cells := 0, slots := 0, locals := 43 } : Room) (va_Pc [.ref (q 0), .int x] (fun U => M0 D cyI cyZ q th (nI N) st md v w U U.heap)) (va_Qi (fun (r : Int32) (u : Nat → Nat → Int32) => True) (fun u U => (fun (u : Nat → Nat → Int32) => (M0 D cyI cyZ q 1 (nI N) st md v u : State → Heap → Prop)) u U U.heap) (own 8 q)) 0 0 (own 8 q) := by
  refine mt (by decide) (Nat.le_of_ble_eq_true rfl) ?_
  intro p ev s m below meth c ls hF hr hlocks hnm hX hl
  have hF : CallFix p m c cX1_mend 2 s _ wA RX1 := hF
  obtain ⟨hx, hb, hml, hown, hts⟩ := id hF
  have hX : M0 D cyI cyZ q th (nI N) st md v w s s.heap := hX
  have hl : lv_has ls 2 [(0, .ref (q 0)), (1, .int x)] := hl
  have hS : va_S (own 8 q) s.heap s.heap [] := va_S.rf
  refine lv_aload_n hx hb dX1_mend_0 rfl (lv_at hl 0 rfl) ?_
  refine lv_iconst (v := 0) hx hb dX1_mend_1 (by decide) ?_
  refine M0.put_th hF hX hS kf_RX1_35 dX1_mend_2 (fun H locs hX hS => ?_)
  refine lv_aload_n hx hb dX1_mend_5 rfl (lv_at hl 0 rfl) ?_
  refine lv_iload_n hx hb dX1_mend_6 rfl (lv_at hl 1 rfl) ?_
  refine cVi (As := [.int x]) (rest := []) hF (mX1_isLeg x) M0.mv hX (M0.rc hX) jyX1_isLeg kl_RX1_115 ⟨rfl, rfl⟩ ⟨Nat.le_of_ble_eq_true rfl, Nat.le_of_ble_eq_true rfl⟩ rfl hl.1 rfl (Nat.le_of_ble_eq_true rfl) ⟨Nat.zero_le _, Nat.zero_le _⟩ dX1_mend_7 (fun r hr9 => ?_)
  subst hr9
  refine lv_if_ne (tgt := 19) hx hb dX1_mend_10 (by decide) (fun c10 => ?_) (fun c10 => ?_)
  · have c10b := b2i_t c10
    exact absurd hbad (by rw [c10b]; decide)
  · have c10b := b2i_f c10
    refine lv_aload_n hx hb dX1_mend_13 rfl (lv_at hl 0 rfl) ?_
    refine lv_iconst (v := 1) hx hb dX1_mend_14 (by decide) ?_
    refine wVi (mc := 0) (ms := 0) (As := [.int 1]) (rest := []) hF (mX1_no 1) M0.mv (fun _ => M0.mv) hX (M0.rc hX) jyX1_no kl_RX1_112 ⟨rfl, rfl⟩ ⟨Nat.le_of_ble_eq_true rfl, Nat.le_of_ble_eq_true rfl⟩ rfl hl.1 rfl (Nat.le_of_ble_eq_true rfl) ⟨Nat.zero_le _, Nat.zero_le _⟩ hS (fun _ _ h => h) (fun _ h => h) dX1_mend_15 (fun r9 w1 H locs hp hX hz hk hS => ?_)
    have hr9 := hp
    rw [hr9]
    exact W.iret hx hb hr (fun t ht hW => ⟨⟨_, w1, rfl, trivial, wEnd M0.mv hX ht hW⟩, hS.F ht⟩) hS.2.2 dX1_mend_18
set_option maxHeartbeats 4000000 in
set_option maxRecDepth 100000 in
theorem oX1_mend (hok : Ok N st v) (hmk : Mk N mk md) (i : Nat) (hi : i < N) (ha : amb v st mk i = false) : Met l yX1_mend (wm yX1_mend cX1_mend 2 (some .int)) ({ frames := 6, cells := 0, slots := 0, locals := 129 } : Room) (va_Pc [.ref (q 0), .int (nI i)] (fun U => M0 D cyI cyZ q th (nI N) st md v w U U.heap)) (va_Qi (fun (r : Int32) (u : Nat → Nat → Int32) => True) (fun u U => (fun (u : Nat → Nat → Int32) => (M0 D cyI cyZ q 2 (nI N) st md v u : State → Heap → Prop)) u U U.heap) (own 8 q)) 0 0 (own 8 q) := by
  refine mt (by decide) (Nat.le_of_ble_eq_true rfl) ?_
  intro p ev s m below meth c ls hF hr hlocks hnm hX hl
  have hF : CallFix p m c cX1_mend 2 s _ wA RX1 := hF
  obtain ⟨hx, hb, hml, hown, hts⟩ := id hF
  have hX : M0 D cyI cyZ q th (nI N) st md v w s s.heap := hX
  have hl : lv_has ls 2 [(0, .ref (q 0)), (1, .int (nI i))] := hl
  have hS : va_S (own 8 q) s.heap s.heap [] := va_S.rf
  have hN := hok.1
  refine lv_aload_n hx hb dX1_mend_0 rfl (lv_at hl 0 rfl) ?_
  refine lv_iconst (v := 0) hx hb dX1_mend_1 (by decide) ?_
  refine M0.put_th hF hX hS kf_RX1_35 dX1_mend_2 (fun H locs hX hS => ?_)
  refine lv_aload_n hx hb dX1_mend_5 rfl (lv_at hl 0 rfl) ?_
  refine lv_iload_n hx hb dX1_mend_6 rfl (lv_at hl 1 rfl) ?_
  refine cVi (As := [.int (nI i)]) (rest := []) hF (mX1_isLeg (nI i)) M0.mv hX (M0.rc hX) jyX1_isLeg kl_RX1_115 ⟨rfl, rfl⟩ ⟨Nat.le_of_ble_eq_true rfl, Nat.le_of_ble_eq_true rfl⟩ rfl hl.1 rfl (Nat.le_of_ble_eq_true rfl) ⟨Nat.zero_le _, Nat.zero_le _⟩ dX1_mend_7 (fun r hr9 => ?_)
  subst hr9
  refine lv_if_ne (tgt := 19) hx hb dX1_mend_10 (by decide) (fun c10 => ?_) (fun c10 => ?_)
  · have c10b := b2i_t c10
    refine lv_aload_n hx hb dX1_mend_19 rfl (lv_at hl 0 rfl) ?_
    refine lv_iload_n hx hb dX1_mend_20 rfl (lv_at hl 1 rfl) ?_
    refine wVi (mc := 0) (ms := 0) (As := [.int (nI i)]) (rest := []) hF (mX1_isOpen hok hmk i (by omega)) M0.mv (fun _ => M0.mv) hX (M0.rc hX) jyX1_isOpen kl_RX1_94 ⟨rfl, rfl⟩ ⟨Nat.le_of_ble_eq_true rfl, Nat.le_of_ble_eq_true rfl⟩ rfl hl.1 rfl (Nat.le_of_ble_eq_true rfl) ⟨Nat.zero_le _, Nat.zero_le _⟩ hS (fun _ _ h => h) (fun _ h => h) dX1_mend_21 (fun r9 w1 H locs hp hX hz hk hS => ?_)
    have hr9 := hp
    subst hr9
    refine lv_if_ne (tgt := 33) hx hb dX1_mend_24 (by decide) (fun c24 => ?_) (fun c24 => ?_)
    · have c24b := b2i_t c24
      exact absurd ha (by rw [c24b]; decide)
    · have c24b := b2i_f c24
      refine lv_aload_n hx hb dX1_mend_27 rfl (lv_at hl 0 rfl) ?_
      refine lv_iconst (v := 2) hx hb dX1_mend_28 (by decide) ?_
      refine wVi (mc := 0) (ms := 0) (As := [.int 2]) (rest := []) hF (mX1_no 2) M0.mv (fun _ => M0.mv) hX (M0.rc hX) jyX1_no kl_RX1_112 ⟨rfl, rfl⟩ ⟨Nat.le_of_ble_eq_true rfl, Nat.le_of_ble_eq_true rfl⟩ rfl hl.1 rfl (Nat.le_of_ble_eq_true rfl) ⟨Nat.zero_le _, Nat.zero_le _⟩ hS (fun _ _ h => h) (fun _ h => h) dX1_mend_29 (fun r9 w2 H locs hp hX hz hk hS => ?_)
      have hr9 := hp
      rw [hr9]
      exact W.iret hx hb hr (fun t ht hW => ⟨⟨_, w2, rfl, trivial, wEnd M0.mv hX ht hW⟩, hS.F ht⟩) hS.2.2 dX1_mend_32
  · have c10b := b2i_f c10
    exact absurd (legB_t hi hN) (by rw [c10b]; decide)
end P22
