section P11
variable {l : Launch} {D : va_G} {cyI cyZ : ClassId} {q : Nat → Nat} {N K : Nat} {n st th md : Int32} {v w : Nat → Nat → Int32} {mk : Nat → Bool}
set_option maxHeartbeats 4000000 in
set_option maxRecDepth 100000 in
theorem mX0_legs  : Met l yX0_legs (wm yX0_legs cX0_legs 1 (some .int)) ({ frames := 0, cells := 0, slots := 0, locals := 0 } : Room) (va_Pc [.ref (q 0)] (fun U => C0 D cyI cyZ q (nI N) st v mk w U U.heap)) (vp_Si (fun r => r = nI N)) 0 0 (fun _ => False) := by
  refine mt (by decide) (Nat.le_of_ble_eq_true rfl) ?_
  intro p ev s m below meth c ls hF hr hlocks hnm hX hl
  have hF : CallFix p m c cX0_legs 1 s _ wA RX0 := hF
  obtain ⟨hx, hb, hml, hown, hts⟩ := id hF
  have hX : C0 D cyI cyZ q (nI N) st v mk w s s.heap := hX
  have hl : lv_has ls 1 [(0, .ref (q 0))] := hl
  refine lv_aload_n hx hb dX0_legs_0 rfl (lv_at hl 0 rfl) ?_
  refine C0.get hF hX 5 (by decide) rfl rfl kf_RX0_59 dX0_legs_1 ?_
  exact W.iret hx hb hr (fun t ht hW => ⟨_, rfl, rfl, ht⟩) (fun q hq => absurd hq List.not_mem_nil) dX0_legs_4
set_option maxHeartbeats 4000000 in
set_option maxRecDepth 100000 in
theorem mX0_step  : Met l yX0_step (wm yX0_step cX0_step 1 (some .int)) ({ frames := 0, cells := 0, slots := 0, locals := 0 } : Room) (va_Pc [.ref (q 0)] (fun U => C0 D cyI cyZ q n st v mk w U U.heap)) (vp_Si (fun r => r = st)) 0 0 (fun _ => False) := by
  refine mt (by decide) (Nat.le_of_ble_eq_true rfl) ?_
  intro p ev s m below meth c ls hF hr hlocks hnm hX hl
  have hF : CallFix p m c cX0_step 1 s _ wA RX0 := hF
  obtain ⟨hx, hb, hml, hown, hts⟩ := id hF
  have hX : C0 D cyI cyZ q n st v mk w s s.heap := hX
  have hl : lv_has ls 1 [(0, .ref (q 0))] := hl
  refine lv_aload_n hx hb dX0_step_0 rfl (lv_at hl 0 rfl) ?_
  refine C0.get hF hX 6 (by decide) rfl rfl kf_RX0_38 dX0_step_1 ?_
  exact W.iret hx hb hr (fun t ht hW => ⟨_, rfl, rfl, ht⟩) (fun q hq => absurd hq List.not_mem_nil) dX0_step_4
set_option maxHeartbeats 4000000 in
set_option maxRecDepth 100000 in
theorem mX0_endX (hok : Ok N st v) (hde : Der N st v w) : Met l yX0_endX (wm yX0_endX cX0_endX 1 (some .int)) ({ frames := 1, cells := 0, slots := 0, locals := 21 } : Room) (va_Pc [.ref (q 0)] (fun U => C0 D cyI cyZ q (nI N) st v mk w U U.heap)) (vp_Si (fun r => r = px (v 0) (v 1) N)) 0 0 (fun _ => False) := by
  refine mt (by decide) (Nat.le_of_ble_eq_true rfl) ?_
  intro p ev s m below meth c ls hF hr hlocks hnm hX hl
  have hF : CallFix p m c cX0_endX 1 s _ wA RX0 := hF
  obtain ⟨hx, hb, hml, hown, hts⟩ := id hF
  have hX : C0 D cyI cyZ q (nI N) st v mk w s s.heap := hX
  have hl : lv_has ls 1 [(0, .ref (q 0))] := hl
  have hN := hok.1
  refine lv_aload_n hx hb dX0_endX_0 rfl (lv_at hl 0 rfl) ?_
  refine lv_aload_n hx hb dX0_endX_1 rfl (lv_at hl 0 rfl) ?_
  refine C0.get hF hX 5 (by decide) rfl rfl kf_RX0_59 dX0_endX_2 ?_
  refine cVi (As := [.int (nI N)]) (rest := []) hF (mX0_xAhead N hde (by omega) (by omega)) C0.mv hX (C0.rc hX) jyX0_xAhead kl_RX0_88 ⟨rfl, rfl⟩ ⟨Nat.le_of_ble_eq_true rfl, Nat.le_of_ble_eq_true rfl⟩ rfl hl.1 rfl (Nat.le_of_ble_eq_true rfl) ⟨Nat.zero_le _, Nat.zero_le _⟩ dX0_endX_5 (fun r hr9 => ?_)
  subst hr9
  exact W.iret hx hb hr (fun t ht hW => ⟨_, rfl, rfl, ht⟩) (fun q hq => absurd hq List.not_mem_nil) dX0_endX_8
set_option maxHeartbeats 4000000 in
set_option maxRecDepth 100000 in
theorem mX0_endY (hok : Ok N st v) (hde : Der N st v w) : Met l yX0_endY (wm yX0_endY cX0_endY 1 (some .int)) ({ frames := 1, cells := 0, slots := 0, locals := 21 } : Room) (va_Pc [.ref (q 0)] (fun U => C0 D cyI cyZ q (nI N) st v mk w U U.heap)) (vp_Si (fun r => r = py (v 0) (v 1) N)) 0 0 (fun _ => False) := by
  refine mt (by decide) (Nat.le_of_ble_eq_true rfl) ?_
  intro p ev s m below meth c ls hF hr hlocks hnm hX hl
  have hF : CallFix p m c cX0_endY 1 s _ wA RX0 := hF
  obtain ⟨hx, hb, hml, hown, hts⟩ := id hF
  have hX : C0 D cyI cyZ q (nI N) st v mk w s s.heap := hX
  have hl : lv_has ls 1 [(0, .ref (q 0))] := hl
  have hN := hok.1
  refine lv_aload_n hx hb dX0_endY_0 rfl (lv_at hl 0 rfl) ?_
  refine lv_aload_n hx hb dX0_endY_1 rfl (lv_at hl 0 rfl) ?_
  refine C0.get hF hX 5 (by decide) rfl rfl kf_RX0_59 dX0_endY_2 ?_
  refine cVi (As := [.int (nI N)]) (rest := []) hF (mX0_yAhead N hde (by omega) (by omega)) C0.mv hX (C0.rc hX) jyX0_yAhead kl_RX0_92 ⟨rfl, rfl⟩ ⟨Nat.le_of_ble_eq_true rfl, Nat.le_of_ble_eq_true rfl⟩ rfl hl.1 rfl (Nat.le_of_ble_eq_true rfl) ⟨Nat.zero_le _, Nat.zero_le _⟩ dX0_endY_5 (fun r hr9 => ?_)
  subst hr9
  exact W.iret hx hb hr (fun t ht hW => ⟨_, rfl, rfl, ht⟩) (fun q hq => absurd hq List.not_mem_nil) dX0_endY_8
set_option maxHeartbeats 4000000 in
set_option maxRecDepth 100000 in
theorem mX0_stepsHome (hok : Ok N st v) (hde : Der N st v w) : Met l yX0_stepsHome (wm yX0_stepsHome cX0_stepsHome 1 (some .int)) ({ frames := 2, cells := 0, slots := 0, locals := 41 } : Room) (va_Pc [.ref (q 0)] (fun U => C0 D cyI cyZ q (nI N) st v mk w U U.heap)) (vp_Si (fun r => r = mx (ab (px (v 0) (v 1) N)) (ab (py (v 0) (v 1) N)))) 0 0 (fun _ => False) := by
  refine mt (by decide) (Nat.le_of_ble_eq_true rfl) ?_
  intro p ev s m below meth c ls hF hr hlocks hnm hX hl
  have hF : CallFix p m c cX0_stepsHome 1 s _ wA RX0 := hF
  obtain ⟨hx, hb, hml, hown, hts⟩ := id hF
  have hX : C0 D cyI cyZ q (nI N) st v mk w s s.heap := hX
  have hl : lv_has ls 1 [(0, .ref (q 0))] := hl
  have hN := hok.1
  refine lv_aload_n hx hb dX0_stepsHome_0 rfl (lv_at hl 0 rfl) ?_
  refine cVi (As := []) (rest := []) hF (mX0_endX hok hde) C0.mv hX (C0.rc hX) jyX0_endX kl_RX0_95 ⟨rfl, rfl⟩ ⟨Nat.le_of_ble_eq_true rfl, Nat.le_of_ble_eq_true rfl⟩ rfl hl.1 rfl (Nat.le_of_ble_eq_true rfl) ⟨Nat.zero_le _, Nat.zero_le _⟩ dX0_stepsHome_1 (fun r hr9 => ?_)
  subst hr9
  refine va_mabs hx hb (hml.trans hl.1.symm) hown (hts _ kl_RX0_99) (hts _ ks_LM_abs_name) (hts _ kn_Math) (hts _ kd_LM_abs_name) (Nat.le_of_ble_eq_true rfl) (Nat.le_of_ble_eq_true rfl) (Nat.zero_le _) (Nat.zero_le _) dX0_stepsHome_4 ?_
  refine lv_aload_n hx hb dX0_stepsHome_7 rfl (lv_at hl 0 rfl) ?_
  refine cVi (As := []) (rest := [.int (ab (px (v 0) (v 1) N))]) hF (mX0_endY hok hde) C0.mv hX (C0.rc hX) jyX0_endY kl_RX0_104 ⟨rfl, rfl⟩ ⟨Nat.le_of_ble_eq_true rfl, Nat.le_of_ble_eq_true rfl⟩ rfl hl.1 rfl (Nat.le_of_ble_eq_true rfl) ⟨Nat.zero_le _, Nat.zero_le _⟩ dX0_stepsHome_8 (fun r hr9 => ?_)
  subst hr9
  refine va_mabs hx hb (hml.trans hl.1.symm) hown (hts _ kl_RX0_99) (hts _ ks_LM_abs_name) (hts _ kn_Math) (hts _ kd_LM_abs_name) (Nat.le_of_ble_eq_true rfl) (Nat.le_of_ble_eq_true rfl) (Nat.zero_le _) (Nat.zero_le _) dX0_stepsHome_11 ?_
  refine va_mmax hx hb (hml.trans hl.1.symm) hown (hts _ kl_RX0_107) (hts _ ks_LM_max_name) (hts _ kn_Math) (hts _ kd_LM_max_name) (Nat.le_of_ble_eq_true rfl) (Nat.le_of_ble_eq_true rfl) (Nat.zero_le _) (Nat.zero_le _) dX0_stepsHome_14 ?_
  exact W.iret hx hb hr (fun t ht hW => ⟨_, rfl, rfl, ht⟩) (fun q hq => absurd hq List.not_mem_nil) dX0_stepsHome_17
set_option maxHeartbeats 4000000 in
set_option maxRecDepth 100000 in
theorem mX0_endsWhereItWas (hok : Ok N st v) (hde : Der N st v w) (i : Nat) (hi : i < N) : Met l yX0_endsWhereItWas (wm yX0_endsWhereItWas cX0_endsWhereItWas 3 (some .boolean)) ({ frames := 0, cells := 0, slots := 0, locals := 0 } : Room) (va_Pc [.ref (q 0), .int (nI i)] (fun U => C0 D cyI cyZ q (nI N) st v mk w U U.heap)) (vp_Si (fun r => r = b2i (rtP v i))) 0 0 (fun _ => False) := by
  refine mt (by decide) (Nat.le_of_ble_eq_true rfl) ?_
  intro p ev s m below meth c ls hF hr hlocks hnm hX hl
  have hF : CallFix p m c cX0_endsWhereItWas 3 s _ wA RX0 := hF
  obtain ⟨hx, hb, hml, hown, hts⟩ := id hF
  have hX : C0 D cyI cyZ q (nI N) st v mk w s s.heap := hX
  have hl : lv_has ls 3 [(0, .ref (q 0)), (1, .int (nI i))] := hl
  have hN := hok.1
  refine lv_aload_n hx hb dX0_endsWhereItWas_0 rfl (lv_at hl 0 rfl) ?_
  refine C0.get hF hX 8 (by decide) rfl rfl kf_RX0_29 dX0_endsWhereItWas_1 ?_
  refine lv_iload_n hx hb dX0_endsWhereItWas_4 rfl (lv_at hl 1 rfl) ?_
  refine aldI hF hX.2.1 hX.1 7 0 rfl rfl i (by omega) (by decide) rfl dX0_endsWhereItWas_5 ?_
  refine lv_if_ne (tgt := 20) hx hb dX0_endsWhereItWas_6 (by decide) (fun c6 => ?_) (fun c6 => ?_)
  · have h0 : exB (rtE v i) (0 + 1) = false := exB_f rfl (rtE_x (n := 0) rfl (hde i hi).2.1 (fun h => c6 h.symm))
    refine lv_iconst (v := 0) hx hb dX0_endsWhereItWas_20 (by decide) ?_
    refine lv_istore_n (lv' := [(2, .int 0), (0, .ref (q 0)), (1, .int (nI i))]) hx hb dX0_endsWhereItWas_21 rfl hl (by decide) rfl (fun ls hl => ?_)
    refine lpW (σ := Nat) (fun j ls => (j ≤ i ∧ exB (rtE v i) (j + 1) = false) ∧ lv_has ls 3 [(0, .ref (q 0)), (1, .int (nI i)), (2, .int (nI j))]) (fun j => i - j) (fun j ls hI ih => ?_) (0) ⟨⟨by omega, h0⟩, lv_sub hl [1, 2, 0] rfl⟩
    obtain ⟨hj, hl⟩ := hI
    refine lv_iload_n hx hb dX0_endsWhereItWas_22 rfl (lv_at hl 2 rfl) ?_
    refine lv_iload_n hx hb dX0_endsWhereItWas_23 rfl (lv_at hl 1 rfl) ?_
    refine lv_icmp_ge (tgt := 65) hx hb dX0_endsWhereItWas_24 (by decide) (fun c24 => ?_) (fun c24 => ?_)
    · have c24n : i ≤ j := (nI_leI (a := i) (b := j) (by omega) (by omega)).mp c24
      obtain rfl : j = i := by omega
      refine lv_iconst (v := 0) hx hb dX0_endsWhereItWas_65 (by decide) ?_
      exact W.zret hx hb hr rfl (fun t ht hW => ⟨_, rfl, b2i_0 hj.2, ht⟩) (fun q hq => absurd hq List.not_mem_nil) dX0_endsWhereItWas_66
    · have c24n : ¬ i ≤ j := fun h9 => c24 ((nI_leI (a := i) (b := j) (by omega) (by omega)).mpr h9)
      refine lv_aload_n hx hb dX0_endsWhereItWas_27 rfl (lv_at hl 0 rfl) ?_
      refine C0.get hF hX 8 (by decide) rfl rfl kf_RX0_29 dX0_endsWhereItWas_28 ?_
      refine lv_iload_n hx hb dX0_endsWhereItWas_31 rfl (lv_at hl 2 rfl) ?_
      refine aldI hF hX.2.1 hX.1 7 0 rfl rfl j (by omega) (by decide) rfl dX0_endsWhereItWas_32 ?_
      refine lv_aload_n hx hb dX0_endsWhereItWas_33 rfl (lv_at hl 0 rfl) ?_
      refine C0.get hF hX 8 (by decide) rfl rfl kf_RX0_29 dX0_endsWhereItWas_34 ?_
      refine lv_iload_n hx hb dX0_endsWhereItWas_37 rfl (lv_at hl 1 rfl) ?_
      refine aldI hF hX.2.1 hX.1 7 0 rfl rfl i (by omega) (by decide) rfl dX0_endsWhereItWas_38 ?_
      refine lv_icmp_ne (tgt := 59) hx hb dX0_endsWhereItWas_39 (by decide) (fun c39 => ?_) (fun c39 => ?_)
      · refine lv_iinc (v := (nI (j + 1))) (lv' := [(2, .int (nI (j + 1))), (0, .ref (q 0)), (1, .int (nI i))]) hx hb dX0_endsWhereItWas_59 hl (k := 2) rfl (nI_1 _) (by decide) rfl (fun ls hl => ?_)
        refine lv_goto (tgt := 22) hx hb dX0_endsWhereItWas_62 (by decide) ?_
        exact ih (j + 1) ls (by omega) ⟨⟨by omega, exB_f hj.2 (by first | exact rtE_x (hde j (by omega)).2.1 (hde i hi).2.1 c39 | exact rtE_y (hde j (by omega)).2.2.1 (hde i hi).2.2.1 c54)⟩, by exact lv_sub hl [1, 2, 0] rfl⟩
      · refine lv_aload_n hx hb dX0_endsWhereItWas_42 rfl (lv_at hl 0 rfl) ?_
        refine C0.get hF hX 9 (by decide) rfl rfl kf_RX0_32 dX0_endsWhereItWas_43 ?_
        refine lv_iload_n hx hb dX0_endsWhereItWas_46 rfl (lv_at hl 2 rfl) ?_
        refine aldI hF hX.2.1 hX.1 8 0 rfl rfl j (by omega) (by decide) rfl dX0_endsWhereItWas_47 ?_
        refine lv_aload_n hx hb dX0_endsWhereItWas_48 rfl (lv_at hl 0 rfl) ?_
        refine C0.get hF hX 9 (by decide) rfl rfl kf_RX0_32 dX0_endsWhereItWas_49 ?_
        refine lv_iload_n hx hb dX0_endsWhereItWas_52 rfl (lv_at hl 1 rfl) ?_
        refine aldI hF hX.2.1 hX.1 8 0 rfl rfl i (by omega) (by decide) rfl dX0_endsWhereItWas_53 ?_
        refine lv_icmp_ne (tgt := 59) hx hb dX0_endsWhereItWas_54 (by decide) (fun c54 => ?_) (fun c54 => ?_)
        · refine lv_iinc (v := (nI (j + 1))) (lv' := [(2, .int (nI (j + 1))), (0, .ref (q 0)), (1, .int (nI i))]) hx hb dX0_endsWhereItWas_59 hl (k := 2) rfl (nI_1 _) (by decide) rfl (fun ls hl => ?_)
          refine lv_goto (tgt := 22) hx hb dX0_endsWhereItWas_62 (by decide) ?_
          exact ih (j + 1) ls (by omega) ⟨⟨by omega, exB_f hj.2 (by first | exact rtE_x (hde j (by omega)).2.1 (hde i hi).2.1 c39 | exact rtE_y (hde j (by omega)).2.2.1 (hde i hi).2.2.1 c54)⟩, by exact lv_sub hl [1, 2, 0] rfl⟩
        · refine lv_iconst (v := 1) hx hb dX0_endsWhereItWas_57 (by decide) ?_
          exact W.zret hx hb hr rfl (fun t ht hW => ⟨_, rfl, b2i_1 (exB_in (i := j + 1) (by omega) (rtE_t (hde j (by omega)).2.1 (hde j (by omega)).2.2.1 (hde i hi).2.1 (hde i hi).2.2.1 c39 c54)), ht⟩) (fun q hq => absurd hq List.not_mem_nil) dX0_endsWhereItWas_58
  · refine lv_aload_n hx hb dX0_endsWhereItWas_9 rfl (lv_at hl 0 rfl) ?_
    refine C0.get hF hX 9 (by decide) rfl rfl kf_RX0_32 dX0_endsWhereItWas_10 ?_
    refine lv_iload_n hx hb dX0_endsWhereItWas_13 rfl (lv_at hl 1 rfl) ?_
    refine aldI hF hX.2.1 hX.1 8 0 rfl rfl i (by omega) (by decide) rfl dX0_endsWhereItWas_14 ?_
    refine lv_if_ne (tgt := 20) hx hb dX0_endsWhereItWas_15 (by decide) (fun c15 => ?_) (fun c15 => ?_)
    · have h0 : exB (rtE v i) (0 + 1) = false := exB_f rfl (rtE_y (n := 0) rfl (hde i hi).2.2.1 (fun h => c15 h.symm))
      refine lv_iconst (v := 0) hx hb dX0_endsWhereItWas_20 (by decide) ?_
      refine lv_istore_n (lv' := [(2, .int 0), (0, .ref (q 0)), (1, .int (nI i))]) hx hb dX0_endsWhereItWas_21 rfl hl (by decide) rfl (fun ls hl => ?_)
      refine lpW (σ := Nat) (fun j ls => (j ≤ i ∧ exB (rtE v i) (j + 1) = false) ∧ lv_has ls 3 [(0, .ref (q 0)), (1, .int (nI i)), (2, .int (nI j))]) (fun j => i - j) (fun j ls hI ih => ?_) (0) ⟨⟨by omega, h0⟩, lv_sub hl [1, 2, 0] rfl⟩
      obtain ⟨hj, hl⟩ := hI
      refine lv_iload_n hx hb dX0_endsWhereItWas_22 rfl (lv_at hl 2 rfl) ?_
      refine lv_iload_n hx hb dX0_endsWhereItWas_23 rfl (lv_at hl 1 rfl) ?_
      refine lv_icmp_ge (tgt := 65) hx hb dX0_endsWhereItWas_24 (by decide) (fun c24 => ?_) (fun c24 => ?_)
      · have c24n : i ≤ j := (nI_leI (a := i) (b := j) (by omega) (by omega)).mp c24
        obtain rfl : j = i := by omega
        refine lv_iconst (v := 0) hx hb dX0_endsWhereItWas_65 (by decide) ?_
        exact W.zret hx hb hr rfl (fun t ht hW => ⟨_, rfl, b2i_0 hj.2, ht⟩) (fun q hq => absurd hq List.not_mem_nil) dX0_endsWhereItWas_66
      · have c24n : ¬ i ≤ j := fun h9 => c24 ((nI_leI (a := i) (b := j) (by omega) (by omega)).mpr h9)
        refine lv_aload_n hx hb dX0_endsWhereItWas_27 rfl (lv_at hl 0 rfl) ?_
        refine C0.get hF hX 8 (by decide) rfl rfl kf_RX0_29 dX0_endsWhereItWas_28 ?_
        refine lv_iload_n hx hb dX0_endsWhereItWas_31 rfl (lv_at hl 2 rfl) ?_
        refine aldI hF hX.2.1 hX.1 7 0 rfl rfl j (by omega) (by decide) rfl dX0_endsWhereItWas_32 ?_
        refine lv_aload_n hx hb dX0_endsWhereItWas_33 rfl (lv_at hl 0 rfl) ?_
        refine C0.get hF hX 8 (by decide) rfl rfl kf_RX0_29 dX0_endsWhereItWas_34 ?_
        refine lv_iload_n hx hb dX0_endsWhereItWas_37 rfl (lv_at hl 1 rfl) ?_
        refine aldI hF hX.2.1 hX.1 7 0 rfl rfl i (by omega) (by decide) rfl dX0_endsWhereItWas_38 ?_
        refine lv_icmp_ne (tgt := 59) hx hb dX0_endsWhereItWas_39 (by decide) (fun c39 => ?_) (fun c39 => ?_)
        · refine lv_iinc (v := (nI (j + 1))) (lv' := [(2, .int (nI (j + 1))), (0, .ref (q 0)), (1, .int (nI i))]) hx hb dX0_endsWhereItWas_59 hl (k := 2) rfl (nI_1 _) (by decide) rfl (fun ls hl => ?_)
          refine lv_goto (tgt := 22) hx hb dX0_endsWhereItWas_62 (by decide) ?_
          exact ih (j + 1) ls (by omega) ⟨⟨by omega, exB_f hj.2 (by first | exact rtE_x (hde j (by omega)).2.1 (hde i hi).2.1 c39 | exact rtE_y (hde j (by omega)).2.2.1 (hde i hi).2.2.1 c54)⟩, by exact lv_sub hl [1, 2, 0] rfl⟩
        · refine lv_aload_n hx hb dX0_endsWhereItWas_42 rfl (lv_at hl 0 rfl) ?_
          refine C0.get hF hX 9 (by decide) rfl rfl kf_RX0_32 dX0_endsWhereItWas_43 ?_
          refine lv_iload_n hx hb dX0_endsWhereItWas_46 rfl (lv_at hl 2 rfl) ?_
          refine aldI hF hX.2.1 hX.1 8 0 rfl rfl j (by omega) (by decide) rfl dX0_endsWhereItWas_47 ?_
          refine lv_aload_n hx hb dX0_endsWhereItWas_48 rfl (lv_at hl 0 rfl) ?_
          refine C0.get hF hX 9 (by decide) rfl rfl kf_RX0_32 dX0_endsWhereItWas_49 ?_
          refine lv_iload_n hx hb dX0_endsWhereItWas_52 rfl (lv_at hl 1 rfl) ?_
          refine aldI hF hX.2.1 hX.1 8 0 rfl rfl i (by omega) (by decide) rfl dX0_endsWhereItWas_53 ?_
          refine lv_icmp_ne (tgt := 59) hx hb dX0_endsWhereItWas_54 (by decide) (fun c54 => ?_) (fun c54 => ?_)
          · refine lv_iinc (v := (nI (j + 1))) (lv' := [(2, .int (nI (j + 1))), (0, .ref (q 0)), (1, .int (nI i))]) hx hb dX0_endsWhereItWas_59 hl (k := 2) rfl (nI_1 _) (by decide) rfl (fun ls hl => ?_)
            refine lv_goto (tgt := 22) hx hb dX0_endsWhereItWas_62 (by decide) ?_
            exact ih (j + 1) ls (by omega) ⟨⟨by omega, exB_f hj.2 (by first | exact rtE_x (hde j (by omega)).2.1 (hde i hi).2.1 c39 | exact rtE_y (hde j (by omega)).2.2.1 (hde i hi).2.2.1 c54)⟩, by exact lv_sub hl [1, 2, 0] rfl⟩
          · refine lv_iconst (v := 1) hx hb dX0_endsWhereItWas_57 (by decide) ?_
            exact W.zret hx hb hr rfl (fun t ht hW => ⟨_, rfl, b2i_1 (exB_in (i := j + 1) (by omega) (rtE_t (hde j (by omega)).2.1 (hde j (by omega)).2.2.1 (hde i hi).2.1 (hde i hi).2.2.1 c39 c54)), ht⟩) (fun q hq => absurd hq List.not_mem_nil) dX0_endsWhereItWas_58
    · refine lv_iconst (v := 1) hx hb dX0_endsWhereItWas_18 (by decide) ?_
      exact W.zret hx hb hr rfl (fun t ht hW => ⟨_, rfl, b2i_1 (exB_in (i := 0) (by omega) (rtE_t (n := 0) (a := 0) (b := 0) rfl rfl (hde i hi).2.1 (hde i hi).2.2.1 c6.symm c15.symm)), ht⟩) (fun q hq => absurd hq List.not_mem_nil) dX0_endsWhereItWas_19
set_option maxHeartbeats 4000000 in
set_option maxRecDepth 100000 in
theorem mX0_returns (hok : Ok N st v) (hde : Der N st v w) : Met l yX0_returns (wm yX0_returns cX0_returns 3 (some .int)) ({ frames := 1, cells := 0, slots := 0, locals := 22 } : Room) (va_Pc [.ref (q 0)] (fun U => C0 D cyI cyZ q (nI N) st v mk w U U.heap)) (vp_Si (fun r => r = rtn v N)) 0 0 (fun _ => False) := by
  refine mt (by decide) (Nat.le_of_ble_eq_true rfl) ?_
  intro p ev s m below meth c ls hF hr hlocks hnm hX hl
  have hF : CallFix p m c cX0_returns 3 s _ wA RX0 := hF
  obtain ⟨hx, hb, hml, hown, hts⟩ := id hF
  have hX : C0 D cyI cyZ q (nI N) st v mk w s s.heap := hX
  have hl : lv_has ls 3 [(0, .ref (q 0))] := hl
  have hN := hok.1
  refine lv_iconst (v := 0) hx hb dX0_returns_0 (by decide) ?_
  refine lv_istore_n (lv' := [(1, .int 0), (0, .ref (q 0))]) hx hb dX0_returns_1 rfl hl (by decide) rfl (fun ls hl => ?_)
  refine lv_iconst (v := 0) hx hb dX0_returns_2 (by decide) ?_
  refine lv_istore_n (lv' := [(2, .int 0), (1, .int 0), (0, .ref (q 0))]) hx hb dX0_returns_3 rfl hl (by decide) rfl (fun ls hl => ?_)
  refine lpW (σ := Nat) (fun j ls => (j ≤ N) ∧ lv_has ls 3 [(0, .ref (q 0)), (1, .int (ctB (rtP v) j)), (2, .int (nI j))]) (fun j => N - j) (fun j ls hI ih => ?_) (0) ⟨by omega, lv_sub hl [2, 1, 0] rfl⟩
  obtain ⟨hj, hl⟩ := hI
  refine lv_iload_n hx hb dX0_returns_4 rfl (lv_at hl 2 rfl) ?_
  refine lv_aload_n hx hb dX0_returns_5 rfl (lv_at hl 0 rfl) ?_
  refine C0.get hF hX 5 (by decide) rfl rfl kf_RX0_59 dX0_returns_6 ?_
  refine lv_icmp_ge (tgt := 29) hx hb dX0_returns_9 (by decide) (fun c9 => ?_) (fun c9 => ?_)
  · have c9n : N ≤ j := (nI_leI (a := N) (b := j) (by omega) (by omega)).mp c9
    obtain rfl : j = N := by omega
    refine lv_iload_n hx hb dX0_returns_29 rfl (lv_at hl 1 rfl) ?_
    exact W.iret hx hb hr (fun t ht hW => ⟨_, rfl, rfl, ht⟩) (fun q hq => absurd hq List.not_mem_nil) dX0_returns_30
  · have c9n : ¬ N ≤ j := fun h9 => c9 ((nI_leI (a := N) (b := j) (by omega) (by omega)).mpr h9)
    refine lv_aload_n hx hb dX0_returns_12 rfl (lv_at hl 0 rfl) ?_
    refine lv_iload_n hx hb dX0_returns_13 rfl (lv_at hl 2 rfl) ?_
    refine cVi (As := [.int (nI j)]) (rest := []) hF (mX0_endsWhereItWas hok hde j (by omega)) C0.mv hX (C0.rc hX) jyX0_endsWhereItWas kl_RX0_111 ⟨rfl, rfl⟩ ⟨Nat.le_of_ble_eq_true rfl, Nat.le_of_ble_eq_true rfl⟩ rfl hl.1 rfl (Nat.le_of_ble_eq_true rfl) ⟨Nat.zero_le _, Nat.zero_le _⟩ dX0_returns_14 (fun r hr9 => ?_)
    subst hr9
    refine lv_if_eq (tgt := 23) hx hb dX0_returns_17 (by decide) (fun c17 => ?_) (fun c17 => ?_)
    · have c17b := b2i_f c17
      refine lv_iinc (v := (nI (j + 1))) (lv' := [(2, .int (nI (j + 1))), (0, .ref (q 0)), (1, .int (ctB (rtP v) j))]) hx hb dX0_returns_23 hl (k := 2) rfl (nI_1 _) (by decide) rfl (fun ls hl => ?_)
      refine lv_goto (tgt := 4) hx hb dX0_returns_26 (by decide) ?_
      exact ih (j + 1) ls (by omega) ⟨by omega, by rw [ctB_f c17b]; exact lv_sub hl [1, 2, 0] rfl⟩
    · have c17b := b2i_t c17
      refine lv_iinc (v := ((ctB (rtP v) j) + 1)) (lv' := [(1, .int ((ctB (rtP v) j) + 1)), (0, .ref (q 0)), (2, .int (nI j))]) hx hb dX0_returns_20 hl (k := 1) rfl (rfl) (by decide) rfl (fun ls hl => ?_)
      refine lv_iinc (v := (nI (j + 1))) (lv' := [(2, .int (nI (j + 1))), (1, .int ((ctB (rtP v) j) + 1)), (0, .ref (q 0))]) hx hb dX0_returns_23 hl (k := 2) rfl (nI_1 _) (by decide) rfl (fun ls hl => ?_)
      refine lv_goto (tgt := 4) hx hb dX0_returns_26 (by decide) ?_
      exact ih (j + 1) ls (by omega) ⟨by omega, by rw [ctB_t c17b]; exact lv_sub hl [2, 1, 0] rfl⟩
set_option maxHeartbeats 4000000 in
set_option maxRecDepth 100000 in
theorem mX0_turnOf (hok : Ok N st v) (hde : Der N st v w) (i : Nat) (hi : i < N) : Met l yX0_turnOf (wm yX0_turnOf cX0_turnOf 2 (some .int)) ({ frames := 1, cells := 0, slots := 0, locals := 21 } : Room) (va_Pc [.ref (q 0), .int (nI i)] (fun U => C0 D cyI cyZ q (nI N) st v mk w U U.heap)) (vp_Si (fun r => r = v 0 i)) 0 0 (fun _ => False) := by
  refine mt (by decide) (Nat.le_of_ble_eq_true rfl) ?_
  intro p ev s m below meth c ls hF hr hlocks hnm hX hl
  have hF : CallFix p m c cX0_turnOf 2 s _ wA RX0 := hF
  obtain ⟨hx, hb, hml, hown, hts⟩ := id hF
  have hX : C0 D cyI cyZ q (nI N) st v mk w s s.heap := hX
  have hl : lv_has ls 2 [(0, .ref (q 0)), (1, .int (nI i))] := hl
  have hN := hok.1
  refine lv_aload_n hx hb dX0_turnOf_0 rfl (lv_at hl 0 rfl) ?_
  refine lv_iload_n hx hb dX0_turnOf_1 rfl (lv_at hl 1 rfl) ?_
  refine cVv (As := [.int (nI i)]) (rest := []) hF (mX0_checkLeg i (by omega) (by omega)) C0.mv hX (C0.rc hX) jyX0_checkLeg kl_RX0_72 ⟨rfl, rfl⟩ ⟨Nat.le_of_ble_eq_true rfl, Nat.le_of_ble_eq_true rfl⟩ rfl hl.1 rfl (Nat.le_of_ble_eq_true rfl) ⟨Nat.zero_le _, Nat.zero_le _⟩ dX0_turnOf_2 ?_
  refine lv_aload_n hx hb dX0_turnOf_5 rfl (lv_at hl 0 rfl) ?_
  refine C0.get hF hX 0 (by decide) rfl rfl kf_RX0_9 dX0_turnOf_6 ?_
  refine lv_iload_n hx hb dX0_turnOf_9 rfl (lv_at hl 1 rfl) ?_
  refine aldI hF hX.2.1 hX.1 1 0 rfl rfl i (by omega) (by decide) rfl dX0_turnOf_10 ?_
  exact W.iret hx hb hr (fun t ht hW => ⟨_, rfl, rfl, ht⟩) (fun q hq => absurd hq List.not_mem_nil) dX0_turnOf_11
set_option maxHeartbeats 4000000 in
set_option maxRecDepth 100000 in
theorem mX0_headingOf (hok : Ok N st v) (hde : Der N st v w) (i : Nat) (hi : i < N) : Met l yX0_headingOf (wm yX0_headingOf cX0_headingOf 2 (some .int)) ({ frames := 1, cells := 0, slots := 0, locals := 21 } : Room) (va_Pc [.ref (q 0), .int (nI i)] (fun U => C0 D cyI cyZ q (nI N) st v mk w U U.heap)) (vp_Si (fun r => r = hd (v 0) (i + 1))) 0 0 (fun _ => False) := by
  refine mt (by decide) (Nat.le_of_ble_eq_true rfl) ?_
  intro p ev s m below meth c ls hF hr hlocks hnm hX hl
  have hF : CallFix p m c cX0_headingOf 2 s _ wA RX0 := hF
  obtain ⟨hx, hb, hml, hown, hts⟩ := id hF
  have hX : C0 D cyI cyZ q (nI N) st v mk w s s.heap := hX
  have hl : lv_has ls 2 [(0, .ref (q 0)), (1, .int (nI i))] := hl
  have hN := hok.1
  refine lv_aload_n hx hb dX0_headingOf_0 rfl (lv_at hl 0 rfl) ?_
  refine lv_iload_n hx hb dX0_headingOf_1 rfl (lv_at hl 1 rfl) ?_
  refine cVv (As := [.int (nI i)]) (rest := []) hF (mX0_checkLeg i (by omega) (by omega)) C0.mv hX (C0.rc hX) jyX0_checkLeg kl_RX0_72 ⟨rfl, rfl⟩ ⟨Nat.le_of_ble_eq_true rfl, Nat.le_of_ble_eq_true rfl⟩ rfl hl.1 rfl (Nat.le_of_ble_eq_true rfl) ⟨Nat.zero_le _, Nat.zero_le _⟩ dX0_headingOf_2 ?_
  refine lv_aload_n hx hb dX0_headingOf_5 rfl (lv_at hl 0 rfl) ?_
  refine C0.get hF hX 7 (by decide) rfl rfl kf_RX0_26 dX0_headingOf_6 ?_
  refine lv_iload_n hx hb dX0_headingOf_9 rfl (lv_at hl 1 rfl) ?_
  refine aldI hF hX.2.1 hX.1 6 0 rfl rfl i (by omega) (by decide) rfl dX0_headingOf_10 ?_
  exact W.iret hx hb hr (fun t ht hW => ⟨_, rfl, (hde i hi).1, ht⟩) (fun q hq => absurd hq List.not_mem_nil) dX0_headingOf_11
set_option maxHeartbeats 4000000 in
set_option maxRecDepth 100000 in
theorem mX0_landmarkOf (hok : Ok N st v) (hde : Der N st v w) (i : Nat) (hi : i < N) : Met l yX0_landmarkOf (wm yX0_landmarkOf cX0_landmarkOf 2 (some .int)) ({ frames := 1, cells := 0, slots := 0, locals := 21 } : Room) (va_Pc [.ref (q 0), .int (nI i)] (fun U => C0 D cyI cyZ q (nI N) st v mk w U U.heap)) (vp_Si (fun r => r = v 2 i)) 0 0 (fun _ => False) := by
  refine mt (by decide) (Nat.le_of_ble_eq_true rfl) ?_
  intro p ev s m below meth c ls hF hr hlocks hnm hX hl
  have hF : CallFix p m c cX0_landmarkOf 2 s _ wA RX0 := hF
  obtain ⟨hx, hb, hml, hown, hts⟩ := id hF
  have hX : C0 D cyI cyZ q (nI N) st v mk w s s.heap := hX
  have hl : lv_has ls 2 [(0, .ref (q 0)), (1, .int (nI i))] := hl
  have hN := hok.1
  refine lv_aload_n hx hb dX0_landmarkOf_0 rfl (lv_at hl 0 rfl) ?_
  refine lv_iload_n hx hb dX0_landmarkOf_1 rfl (lv_at hl 1 rfl) ?_
  refine cVv (As := [.int (nI i)]) (rest := []) hF (mX0_checkLeg i (by omega) (by omega)) C0.mv hX (C0.rc hX) jyX0_checkLeg kl_RX0_72 ⟨rfl, rfl⟩ ⟨Nat.le_of_ble_eq_true rfl, Nat.le_of_ble_eq_true rfl⟩ rfl hl.1 rfl (Nat.le_of_ble_eq_true rfl) ⟨Nat.zero_le _, Nat.zero_le _⟩ dX0_landmarkOf_2 ?_
  refine lv_aload_n hx hb dX0_landmarkOf_5 rfl (lv_at hl 0 rfl) ?_
  refine C0.get hF hX 2 (by decide) rfl rfl kf_RX0_16 dX0_landmarkOf_6 ?_
  refine lv_iload_n hx hb dX0_landmarkOf_9 rfl (lv_at hl 1 rfl) ?_
  refine aldI hF hX.2.1 hX.1 3 0 rfl rfl i (by omega) (by decide) rfl dX0_landmarkOf_10 ?_
  exact W.iret hx hb hr (fun t ht hW => ⟨_, rfl, rfl, ht⟩) (fun q hq => absurd hq List.not_mem_nil) dX0_landmarkOf_11
set_option maxHeartbeats 4000000 in
set_option maxRecDepth 100000 in
theorem mX0_noteOf (hok : Ok N st v) (hde : Der N st v w) (i : Nat) (hi : i < N) : Met l yX0_noteOf (wm yX0_noteOf cX0_noteOf 2 (some .int)) ({ frames := 1, cells := 0, slots := 0, locals := 21 } : Room) (va_Pc [.ref (q 0), .int (nI i)] (fun U => C0 D cyI cyZ q (nI N) st v mk w U U.heap)) (vp_Si (fun r => r = nt (v 0) st (i + 1))) 0 0 (fun _ => False) := by
  refine mt (by decide) (Nat.le_of_ble_eq_true rfl) ?_
  intro p ev s m below meth c ls hF hr hlocks hnm hX hl
  have hF : CallFix p m c cX0_noteOf 2 s _ wA RX0 := hF
  obtain ⟨hx, hb, hml, hown, hts⟩ := id hF
  have hX : C0 D cyI cyZ q (nI N) st v mk w s s.heap := hX
  have hl : lv_has ls 2 [(0, .ref (q 0)), (1, .int (nI i))] := hl
  have hN := hok.1
  refine lv_aload_n hx hb dX0_noteOf_0 rfl (lv_at hl 0 rfl) ?_
  refine lv_iload_n hx hb dX0_noteOf_1 rfl (lv_at hl 1 rfl) ?_
  refine cVv (As := [.int (nI i)]) (rest := []) hF (mX0_checkLeg i (by omega) (by omega)) C0.mv hX (C0.rc hX) jyX0_checkLeg kl_RX0_72 ⟨rfl, rfl⟩ ⟨Nat.le_of_ble_eq_true rfl, Nat.le_of_ble_eq_true rfl⟩ rfl hl.1 rfl (Nat.le_of_ble_eq_true rfl) ⟨Nat.zero_le _, Nat.zero_le _⟩ dX0_noteOf_2 ?_
  refine lv_aload_n hx hb dX0_noteOf_5 rfl (lv_at hl 0 rfl) ?_
  refine C0.get hF hX 10 (by decide) rfl rfl kf_RX0_35 dX0_noteOf_6 ?_
  refine lv_iload_n hx hb dX0_noteOf_9 rfl (lv_at hl 1 rfl) ?_
  refine aldI hF hX.2.1 hX.1 9 0 rfl rfl i (by omega) (by decide) rfl dX0_noteOf_10 ?_
  exact W.iret hx hb hr (fun t ht hW => ⟨_, rfl, (hde i hi).2.2.2, ht⟩) (fun q hq => absurd hq List.not_mem_nil) dX0_noteOf_11
set_option maxHeartbeats 4000000 in
set_option maxRecDepth 100000 in
theorem mX0_isFolded (hok : Ok N st v) (hde : Der N st v w) (i : Nat) (hi : i < N) : Met l yX0_isFolded (wm yX0_isFolded cX0_isFolded 2 (some .boolean)) ({ frames := 1, cells := 0, slots := 0, locals := 21 } : Room) (va_Pc [.ref (q 0), .int (nI i)] (fun U => C0 D cyI cyZ q (nI N) st v mk w U U.heap)) (vp_Si (fun r => r = b2i (fold1 v st i))) 0 0 (fun _ => False) := by
  refine mt (by decide) (Nat.le_of_ble_eq_true rfl) ?_
  intro p ev s m below meth c ls hF hr hlocks hnm hX hl
  have hF : CallFix p m c cX0_isFolded 2 s _ wA RX0 := hF
  obtain ⟨hx, hb, hml, hown, hts⟩ := id hF
  have hX : C0 D cyI cyZ q (nI N) st v mk w s s.heap := hX
  have hl : lv_has ls 2 [(0, .ref (q 0)), (1, .int (nI i))] := hl
  have hN := hok.1
  refine lv_aload_n hx hb dX0_isFolded_0 rfl (lv_at hl 0 rfl) ?_
  refine lv_iload_n hx hb dX0_isFolded_1 rfl (lv_at hl 1 rfl) ?_
  refine cVv (As := [.int (nI i)]) (rest := []) hF (mX0_checkLeg i (by omega) (by omega)) C0.mv hX (C0.rc hX) jyX0_checkLeg kl_RX0_72 ⟨rfl, rfl⟩ ⟨Nat.le_of_ble_eq_true rfl, Nat.le_of_ble_eq_true rfl⟩ rfl hl.1 rfl (Nat.le_of_ble_eq_true rfl) ⟨Nat.zero_le _, Nat.zero_le _⟩ dX0_isFolded_2 ?_
  refine lv_aload_n hx hb dX0_isFolded_5 rfl (lv_at hl 0 rfl) ?_
  refine lv_iload_n hx hb dX0_isFolded_6 rfl (lv_at hl 1 rfl) ?_
  refine cVi (As := [.int (nI i)]) (rest := []) hF (mX0_noteAhead i hde (by omega) (by omega)) C0.mv hX (C0.rc hX) jyX0_noteAhead kl_RX0_114 ⟨rfl, rfl⟩ ⟨Nat.le_of_ble_eq_true rfl, Nat.le_of_ble_eq_true rfl⟩ rfl hl.1 rfl (Nat.le_of_ble_eq_true rfl) ⟨Nat.zero_le _, Nat.zero_le _⟩ dX0_isFolded_7 (fun r hr9 => ?_)
  subst hr9
  refine lv_aload_n hx hb dX0_isFolded_10 rfl (lv_at hl 0 rfl) ?_
  refine C0.get hF hX 0 (by decide) rfl rfl kf_RX0_9 dX0_isFolded_11 ?_
  refine lv_iload_n hx hb dX0_isFolded_14 rfl (lv_at hl 1 rfl) ?_
  refine aldI hF hX.2.1 hX.1 1 0 rfl rfl i (by omega) (by decide) rfl dX0_isFolded_15 ?_
  refine lv_aload_n hx hb dX0_isFolded_16 rfl (lv_at hl 0 rfl) ?_
  refine C0.get hF hX 6 (by decide) rfl rfl kf_RX0_38 dX0_isFolded_17 ?_
  refine lv_imul hx hb dX0_isFolded_20 ?_
  refine lv_iadd hx hb dX0_isFolded_21 ?_
  refine cSi (As := [.int ((nt (v 0) st i) + ((v 0 i) * st))]) (rest := []) hF (mX0_leavesVoice ((nt (v 0) st i) + ((v 0 i) * st))) Mv.const trivial jyX0_leavesVoice kl_RX0_117 ⟨rfl, rfl⟩ ⟨Nat.le_of_ble_eq_true rfl, Nat.le_of_ble_eq_true rfl⟩ rfl hl.1 rfl (Nat.le_of_ble_eq_true rfl) ⟨Nat.zero_le _, Nat.zero_le _⟩ dX0_isFolded_22 (fun r hr9 => ?_)
  subst hr9
  exact W.zret hx hb hr b2i_nar (fun t ht hW => ⟨_, rfl, rfl, ht⟩) (fun q hq => absurd hq List.not_mem_nil) dX0_isFolded_25
set_option maxHeartbeats 4000000 in
set_option maxRecDepth 100000 in
theorem mX0_wordIn (hok : Ok N st v) (hde : Der N st v w) (i : Nat) (hi : i < N) : Met l yX0_wordIn (wm yX0_wordIn cX0_wordIn 2 (some .int)) ({ frames := 1, cells := 0, slots := 0, locals := 21 } : Room) (va_Pc [.ref (q 0), .int (nI i)] (fun U => C0 D cyI cyZ q (nI N) st v mk w U U.heap)) (vp_Si (fun r => r = wd v i)) 0 0 (fun _ => False) := by
  refine mt (by decide) (Nat.le_of_ble_eq_true rfl) ?_
  intro p ev s m below meth c ls hF hr hlocks hnm hX hl
  have hF : CallFix p m c cX0_wordIn 2 s _ wA RX0 := hF
  obtain ⟨hx, hb, hml, hown, hts⟩ := id hF
  have hX : C0 D cyI cyZ q (nI N) st v mk w s s.heap := hX
  have hl : lv_has ls 2 [(0, .ref (q 0)), (1, .int (nI i))] := hl
  have hN := hok.1
  refine lv_aload_n hx hb dX0_wordIn_0 rfl (lv_at hl 0 rfl) ?_
  refine lv_iload_n hx hb dX0_wordIn_1 rfl (lv_at hl 1 rfl) ?_
  refine cVv (As := [.int (nI i)]) (rest := []) hF (mX0_checkLeg i (by omega) (by omega)) C0.mv hX (C0.rc hX) jyX0_checkLeg kl_RX0_72 ⟨rfl, rfl⟩ ⟨Nat.le_of_ble_eq_true rfl, Nat.le_of_ble_eq_true rfl⟩ rfl hl.1 rfl (Nat.le_of_ble_eq_true rfl) ⟨Nat.zero_le _, Nat.zero_le _⟩ dX0_wordIn_2 ?_
  refine lv_aload_n hx hb dX0_wordIn_5 rfl (lv_at hl 0 rfl) ?_
  refine C0.get hF hX 4 (by decide) rfl rfl kf_RX0_23 dX0_wordIn_6 ?_
  refine lv_aload_n hx hb dX0_wordIn_9 rfl (lv_at hl 0 rfl) ?_
  refine C0.get hF hX 2 (by decide) rfl rfl kf_RX0_16 dX0_wordIn_10 ?_
  refine lv_iload_n hx hb dX0_wordIn_13 rfl (lv_at hl 1 rfl) ?_
  refine aldI hF hX.2.1 hX.1 3 0 rfl rfl i (by omega) (by decide) rfl dX0_wordIn_14 ?_
  refine aldI hF hX.2.1 hX.1 5 0 rfl rfl (ix (v 2 i)) (okM10 hok i) (by decide) (okM hok i) dX0_wordIn_15 ?_
  exact W.iret hx hb hr (fun t ht hW => ⟨_, rfl, rfl, ht⟩) (fun q hq => absurd hq List.not_mem_nil) dX0_wordIn_16
set_option maxHeartbeats 4000000 in
set_option maxRecDepth 100000 in
theorem mX0_wordOf (j : Nat) (hj : j < 10) : Met l yX0_wordOf (wm yX0_wordOf cX0_wordOf 2 (some .int)) ({ frames := 2, cells := 0, slots := 0, locals := 40 } : Room) (va_Pc [.ref (q 0), .int (nI j)] (fun U => C0 D cyI cyZ q (nI N) st v mk w U U.heap)) (vp_Si (fun r => r = v 3 j)) 0 0 (fun _ => False) := by
  refine mt (by decide) (Nat.le_of_ble_eq_true rfl) ?_
  intro p ev s m below meth c ls hF hr hlocks hnm hX hl
  have hF : CallFix p m c cX0_wordOf 2 s _ wA RX0 := hF
  obtain ⟨hx, hb, hml, hown, hts⟩ := id hF
  have hX : C0 D cyI cyZ q (nI N) st v mk w s s.heap := hX
  have hl : lv_has ls 2 [(0, .ref (q 0)), (1, .int (nI j))] := hl
  refine lv_iload_n hx hb dX0_wordOf_0 rfl (lv_at hl 1 rfl) ?_
  refine cSv (As := [.int (nI j)]) (rest := []) hF (mX0_checkLandmark j (by omega)) Mv.const trivial jyX0_checkLandmark kl_RX0_78 ⟨rfl, rfl⟩ ⟨Nat.le_of_ble_eq_true rfl, Nat.le_of_ble_eq_true rfl⟩ rfl hl.1 rfl (Nat.le_of_ble_eq_true rfl) ⟨Nat.zero_le _, Nat.zero_le _⟩ dX0_wordOf_1 ?_
  refine lv_aload_n hx hb dX0_wordOf_4 rfl (lv_at hl 0 rfl) ?_
  refine C0.get hF hX 4 (by decide) rfl rfl kf_RX0_23 dX0_wordOf_5 ?_
  refine lv_iload_n hx hb dX0_wordOf_8 rfl (lv_at hl 1 rfl) ?_
  refine aldI hF hX.2.1 hX.1 5 0 rfl rfl j (by omega) (by decide) rfl dX0_wordOf_9 ?_
  exact W.iret hx hb hr (fun t ht hW => ⟨_, rfl, rfl, ht⟩) (fun q hq => absurd hq List.not_mem_nil) dX0_wordOf_10
set_option maxHeartbeats 4000000 in
set_option maxRecDepth 100000 in
theorem mX0_beats (hok : Ok N st v) (hde : Der N st v w) : Met l yX0_beats (wm yX0_beats cX0_beats 3 (some .int)) ({ frames := 0, cells := 0, slots := 0, locals := 0 } : Room) (va_Pc [.ref (q 0)] (fun U => C0 D cyI cyZ q (nI N) st v mk w U U.heap)) (vp_Si (fun r => r = sumI (v 1) N)) 0 0 (fun _ => False) := by
  refine mt (by decide) (Nat.le_of_ble_eq_true rfl) ?_
  intro p ev s m below meth c ls hF hr hlocks hnm hX hl
  have hF : CallFix p m c cX0_beats 3 s _ wA RX0 := hF
  obtain ⟨hx, hb, hml, hown, hts⟩ := id hF
  have hX : C0 D cyI cyZ q (nI N) st v mk w s s.heap := hX
  have hl : lv_has ls 3 [(0, .ref (q 0))] := hl
  have hN := hok.1
  refine lv_iconst (v := 0) hx hb dX0_beats_0 (by decide) ?_
  refine lv_istore_n (lv' := [(1, .int 0), (0, .ref (q 0))]) hx hb dX0_beats_1 rfl hl (by decide) rfl (fun ls hl => ?_)
  refine lv_iconst (v := 0) hx hb dX0_beats_2 (by decide) ?_
  refine lv_istore_n (lv' := [(2, .int 0), (1, .int 0), (0, .ref (q 0))]) hx hb dX0_beats_3 rfl hl (by decide) rfl (fun ls hl => ?_)
  refine lpW (σ := Nat) (fun j ls => (j ≤ N) ∧ lv_has ls 3 [(0, .ref (q 0)), (1, .int (sumI (v 1) j)), (2, .int (nI j))]) (fun j => N - j) (fun j ls hI ih => ?_) (0) ⟨by omega, lv_sub hl [2, 1, 0] rfl⟩
  obtain ⟨hj, hl⟩ := hI
  refine lv_iload_n hx hb dX0_beats_4 rfl (lv_at hl 2 rfl) ?_
  refine lv_aload_n hx hb dX0_beats_5 rfl (lv_at hl 0 rfl) ?_
  refine C0.get hF hX 5 (by decide) rfl rfl kf_RX0_59 dX0_beats_6 ?_
  refine lv_icmp_ge (tgt := 27) hx hb dX0_beats_9 (by decide) (fun c9 => ?_) (fun c9 => ?_)
  · have c9n : N ≤ j := (nI_leI (a := N) (b := j) (by omega) (by omega)).mp c9
    obtain rfl : j = N := by omega
    refine lv_iload_n hx hb dX0_beats_27 rfl (lv_at hl 1 rfl) ?_
    exact W.iret hx hb hr (fun t ht hW => ⟨_, rfl, rfl, ht⟩) (fun q hq => absurd hq List.not_mem_nil) dX0_beats_28
  · have c9n : ¬ N ≤ j := fun h9 => c9 ((nI_leI (a := N) (b := j) (by omega) (by omega)).mpr h9)
    refine lv_iload_n hx hb dX0_beats_12 rfl (lv_at hl 1 rfl) ?_
    refine lv_aload_n hx hb dX0_beats_13 rfl (lv_at hl 0 rfl) ?_
    refine C0.get hF hX 1 (by decide) rfl rfl kf_RX0_13 dX0_beats_14 ?_
    refine lv_iload_n hx hb dX0_beats_17 rfl (lv_at hl 2 rfl) ?_
    refine aldI hF hX.2.1 hX.1 2 0 rfl rfl j (by omega) (by decide) rfl dX0_beats_18 ?_
    refine lv_iadd hx hb dX0_beats_19 ?_
    refine lv_istore_n (lv' := [(1, .int ((sumI (v 1) j) + (v 1 j))), (0, .ref (q 0)), (2, .int (nI j))]) hx hb dX0_beats_20 rfl hl (by decide) rfl (fun ls hl => ?_)
    refine lv_iinc (v := (nI (j + 1))) (lv' := [(2, .int (nI (j + 1))), (1, .int ((sumI (v 1) j) + (v 1 j))), (0, .ref (q 0))]) hx hb dX0_beats_21 hl (k := 2) rfl (nI_1 _) (by decide) rfl (fun ls hl => ?_)
    refine lv_goto (tgt := 4) hx hb dX0_beats_24 (by decide) ?_
    exact ih (j + 1) ls (by omega) ⟨by omega, by exact lv_sub hl [2, 1, 0] rfl⟩
set_option maxHeartbeats 4000000 in
set_option maxRecDepth 100000 in
theorem mX0_folded (hok : Ok N st v) (hde : Der N st v w) : Met l yX0_folded (wm yX0_folded cX0_folded 3 (some .int)) ({ frames := 2, cells := 0, slots := 0, locals := 42 } : Room) (va_Pc [.ref (q 0)] (fun U => C0 D cyI cyZ q (nI N) st v mk w U U.heap)) (vp_Si (fun r => r = ctB (fold1 v st) N)) 0 0 (fun _ => False) := by
  refine mt (by decide) (Nat.le_of_ble_eq_true rfl) ?_
  intro p ev s m below meth c ls hF hr hlocks hnm hX hl
  have hF : CallFix p m c cX0_folded 3 s _ wA RX0 := hF
  obtain ⟨hx, hb, hml, hown, hts⟩ := id hF
  have hX : C0 D cyI cyZ q (nI N) st v mk w s s.heap := hX
  have hl : lv_has ls 3 [(0, .ref (q 0))] := hl
  have hN := hok.1
  refine lv_iconst (v := 0) hx hb dX0_folded_0 (by decide) ?_
  refine lv_istore_n (lv' := [(1, .int 0), (0, .ref (q 0))]) hx hb dX0_folded_1 rfl hl (by decide) rfl (fun ls hl => ?_)
  refine lv_iconst (v := 0) hx hb dX0_folded_2 (by decide) ?_
  refine lv_istore_n (lv' := [(2, .int 0), (1, .int 0), (0, .ref (q 0))]) hx hb dX0_folded_3 rfl hl (by decide) rfl (fun ls hl => ?_)
  refine lpW (σ := Nat) (fun j ls => (j ≤ N) ∧ lv_has ls 3 [(0, .ref (q 0)), (1, .int (ctB (fold1 v st) j)), (2, .int (nI j))]) (fun j => N - j) (fun j ls hI ih => ?_) (0) ⟨by omega, lv_sub hl [2, 1, 0] rfl⟩
  obtain ⟨hj, hl⟩ := hI
  refine lv_iload_n hx hb dX0_folded_4 rfl (lv_at hl 2 rfl) ?_
  refine lv_aload_n hx hb dX0_folded_5 rfl (lv_at hl 0 rfl) ?_
  refine C0.get hF hX 5 (by decide) rfl rfl kf_RX0_59 dX0_folded_6 ?_
  refine lv_icmp_ge (tgt := 29) hx hb dX0_folded_9 (by decide) (fun c9 => ?_) (fun c9 => ?_)
  · have c9n : N ≤ j := (nI_leI (a := N) (b := j) (by omega) (by omega)).mp c9
    obtain rfl : j = N := by omega
    refine lv_iload_n hx hb dX0_folded_29 rfl (lv_at hl 1 rfl) ?_
    exact W.iret hx hb hr (fun t ht hW => ⟨_, rfl, rfl, ht⟩) (fun q hq => absurd hq List.not_mem_nil) dX0_folded_30
  · have c9n : ¬ N ≤ j := fun h9 => c9 ((nI_leI (a := N) (b := j) (by omega) (by omega)).mpr h9)
    refine lv_aload_n hx hb dX0_folded_12 rfl (lv_at hl 0 rfl) ?_
    refine lv_iload_n hx hb dX0_folded_13 rfl (lv_at hl 2 rfl) ?_
    refine cVi (As := [.int (nI j)]) (rest := []) hF (mX0_isFolded hok hde j (by omega)) C0.mv hX (C0.rc hX) jyX0_isFolded kl_RX0_120 ⟨rfl, rfl⟩ ⟨Nat.le_of_ble_eq_true rfl, Nat.le_of_ble_eq_true rfl⟩ rfl hl.1 rfl (Nat.le_of_ble_eq_true rfl) ⟨Nat.zero_le _, Nat.zero_le _⟩ dX0_folded_14 (fun r hr9 => ?_)
    subst hr9
    refine lv_if_eq (tgt := 23) hx hb dX0_folded_17 (by decide) (fun c17 => ?_) (fun c17 => ?_)
    · have c17b := b2i_f c17
      refine lv_iinc (v := (nI (j + 1))) (lv' := [(2, .int (nI (j + 1))), (0, .ref (q 0)), (1, .int (ctB (fold1 v st) j))]) hx hb dX0_folded_23 hl (k := 2) rfl (nI_1 _) (by decide) rfl (fun ls hl => ?_)
      refine lv_goto (tgt := 4) hx hb dX0_folded_26 (by decide) ?_
      exact ih (j + 1) ls (by omega) ⟨by omega, by rw [ctB_f c17b]; exact lv_sub hl [1, 2, 0] rfl⟩
    · have c17b := b2i_t c17
      refine lv_iinc (v := ((ctB (fold1 v st) j) + 1)) (lv' := [(1, .int ((ctB (fold1 v st) j) + 1)), (0, .ref (q 0)), (2, .int (nI j))]) hx hb dX0_folded_20 hl (k := 1) rfl (rfl) (by decide) rfl (fun ls hl => ?_)
      refine lv_iinc (v := (nI (j + 1))) (lv' := [(2, .int (nI (j + 1))), (1, .int ((ctB (fold1 v st) j) + 1)), (0, .ref (q 0))]) hx hb dX0_folded_23 hl (k := 2) rfl (nI_1 _) (by decide) rfl (fun ls hl => ?_)
      refine lv_goto (tgt := 4) hx hb dX0_folded_26 (by decide) ?_
      exact ih (j + 1) ls (by omega) ⟨by omega, by rw [ctB_t c17b]; exact lv_sub hl [2, 1, 0] rfl⟩
set_option maxHeartbeats 4000000 in
set_option maxRecDepth 100000 in
theorem mX0_range (hok : Ok N st v) (hde : Der N st v w) : Met l yX0_range (wm yX0_range cX0_range 4 (some .int)) ({ frames := 1, cells := 0, slots := 0, locals := 13 } : Room) (va_Pc [.ref (q 0)] (fun U => C0 D cyI cyZ q (nI N) st v mk w U U.heap)) (vp_Si (fun r => r = rng v st N)) 0 0 (fun _ => False) := by
  refine mt (by decide) (Nat.le_of_ble_eq_true rfl) ?_
  intro p ev s m below meth c ls hF hr hlocks hnm hX hl
  have hF : CallFix p m c cX0_range 4 s _ wA RX0 := hF
  obtain ⟨hx, hb, hml, hown, hts⟩ := id hF
  have hX : C0 D cyI cyZ q (nI N) st v mk w s s.heap := hX
  have hl : lv_has ls 4 [(0, .ref (q 0))] := hl
  have hN := hok.1
  refine lv_aload_n hx hb dX0_range_0 rfl (lv_at hl 0 rfl) ?_
  refine C0.get hF hX 5 (by decide) rfl rfl kf_RX0_59 dX0_range_1 ?_
  refine lv_if_gt (tgt := 9) hx hb dX0_range_4 (by decide) (fun c4 => ?_) (fun c4 => ?_)
  · have c4n : 0 < N := (nI_ltI (a := 0) (b := N) (by omega) (by omega)).mp c4
    refine lv_aload_n hx hb dX0_range_9 rfl (lv_at hl 0 rfl) ?_
    refine C0.get hF hX 10 (by decide) rfl rfl kf_RX0_35 dX0_range_10 ?_
    refine lv_iconst (v := 0) hx hb dX0_range_13 (by decide) ?_
    refine aldI hF hX.2.1 hX.1 9 0 rfl rfl 0 (by omega) (by decide) rfl dX0_range_14 ?_
    refine topI (show (w 3 0) = lo9 (v 0) st 1 from (hde 0 (by omega)).2.2.2.trans (lo_1 hok).1) ?_
    refine lv_istore_n (lv' := [(1, .int (lo9 (v 0) st 1)), (0, .ref (q 0))]) hx hb dX0_range_15 rfl hl (by decide) rfl (fun ls hl => ?_)
    refine lv_aload_n hx hb dX0_range_16 rfl (lv_at hl 1 rfl) ?_
    refine C0.get hF hX 10 (by decide) rfl rfl kf_RX0_35 dX0_range_17 ?_
    refine lv_iconst (v := 0) hx hb dX0_range_20 (by decide) ?_
    refine aldI hF hX.2.1 hX.1 9 0 rfl rfl 0 (by omega) (by decide) rfl dX0_range_21 ?_
    refine topI (show (w 3 0) = hi9 (v 0) st 1 from (hde 0 (by omega)).2.2.2.trans (lo_1 hok).2) ?_
    refine lv_istore_n (lv' := [(2, .int (hi9 (v 0) st 1)), (1, .int (lo9 (v 0) st 1)), (0, .ref (q 0))]) hx hb dX0_range_22 rfl hl (by decide) rfl (fun ls hl => ?_)
    refine lv_iconst (v := 1) hx hb dX0_range_23 (by decide) ?_
    refine lv_istore_n (lv' := [(3, .int 1), (2, .int (hi9 (v 0) st 1)), (1, .int (lo9 (v 0) st 1)), (0, .ref (q 0))]) hx hb dX0_range_24 rfl hl (by decide) rfl (fun ls hl => ?_)
    refine lpW (σ := Nat) (fun j ls => (1 ≤ j ∧ j ≤ N) ∧ lv_has ls 4 [(0, .ref (q 0)), (1, .int (lo9 (v 0) st j)), (2, .int (hi9 (v 0) st j)), (3, .int (nI j))]) (fun j => N - j) (fun j ls hI ih => ?_) (1) ⟨⟨by omega, by omega⟩, lv_sub hl [3, 2, 1, 0] rfl⟩
    obtain ⟨hj, hl⟩ := hI
    refine lv_iload_n hx hb dX0_range_25 rfl (lv_at hl 3 rfl) ?_
    refine lv_aload_n hx hb dX0_range_26 rfl (lv_at hl 0 rfl) ?_
    refine C0.get hF hX 5 (by decide) rfl rfl kf_RX0_59 dX0_range_27 ?_
    refine lv_icmp_ge (tgt := 61) hx hb dX0_range_30 (by decide) (fun c30 => ?_) (fun c30 => ?_)
    · have c30n : N ≤ j := (nI_leI (a := N) (b := j) (by omega) (by omega)).mp c30
      obtain rfl : j = N := by omega
      refine lv_iload_n hx hb dX0_range_61 rfl (lv_at hl 2 rfl) ?_
      refine lv_iload_n hx hb dX0_range_62 rfl (lv_at hl 1 rfl) ?_
      refine lv_isub hx hb dX0_range_63 ?_
      exact W.iret hx hb hr (fun t ht hW => ⟨_, rfl, (rng_1 (by omega)), ht⟩) (fun q hq => absurd hq List.not_mem_nil) dX0_range_64
    · have c30n : ¬ N ≤ j := fun h9 => c30 ((nI_leI (a := N) (b := j) (by omega) (by omega)).mpr h9)
      refine lv_iload_n hx hb dX0_range_33 rfl (lv_at hl 1 rfl) ?_
      refine lv_aload_n hx hb dX0_range_34 rfl (lv_at hl 0 rfl) ?_
      refine C0.get hF hX 10 (by decide) rfl rfl kf_RX0_35 dX0_range_35 ?_
      refine lv_iload_n hx hb dX0_range_38 rfl (lv_at hl 3 rfl) ?_
      refine aldI hF hX.2.1 hX.1 9 0 rfl rfl j (by omega) (by decide) rfl dX0_range_39 ?_
      refine topI (show (w 3 j) = nt (v 0) st (j + 1) from (hde j (by omega)).2.2.2) ?_
      refine va_mmin hx hb (hml.trans hl.1.symm) hown (hts _ kl_RX0_123) (hts _ ks_LM_min_name) (hts _ kn_Math) (hts _ kd_LM_min_name) (Nat.le_of_ble_eq_true rfl) (Nat.le_of_ble_eq_true rfl) (Nat.zero_le _) (Nat.zero_le _) dX0_range_40 ?_
      refine lv_istore_n (lv' := [(1, .int (mn (lo9 (v 0) st j) (nt (v 0) st (j + 1)))), (0, .ref (q 0)), (2, .int (hi9 (v 0) st j)), (3, .int (nI j))]) hx hb dX0_range_43 rfl hl (by decide) rfl (fun ls hl => ?_)
      refine lv_iload_n hx hb dX0_range_44 rfl (lv_at hl 2 rfl) ?_
      refine lv_aload_n hx hb dX0_range_45 rfl (lv_at hl 1 rfl) ?_
      refine C0.get hF hX 10 (by decide) rfl rfl kf_RX0_35 dX0_range_46 ?_
      refine lv_iload_n hx hb dX0_range_49 rfl (lv_at hl 3 rfl) ?_
      refine aldI hF hX.2.1 hX.1 9 0 rfl rfl j (by omega) (by decide) rfl dX0_range_50 ?_
      refine topI (show (w 3 j) = nt (v 0) st (j + 1) from (hde j (by omega)).2.2.2) ?_
      refine va_mmax hx hb (hml.trans hl.1.symm) hown (hts _ kl_RX0_107) (hts _ ks_LM_max_name) (hts _ kn_Math) (hts _ kd_LM_max_name) (Nat.le_of_ble_eq_true rfl) (Nat.le_of_ble_eq_true rfl) (Nat.zero_le _) (Nat.zero_le _) dX0_range_51 ?_
      refine lv_istore_n (lv' := [(2, .int (mx (hi9 (v 0) st j) (nt (v 0) st (j + 1)))), (1, .int (mn (lo9 (v 0) st j) (nt (v 0) st (j + 1)))), (0, .ref (q 0)), (3, .int (nI j))]) hx hb dX0_range_54 rfl hl (by decide) rfl (fun ls hl => ?_)
      refine lv_iinc (v := (nI (j + 1))) (lv' := [(3, .int (nI (j + 1))), (2, .int (mx (hi9 (v 0) st j) (nt (v 0) st (j + 1)))), (1, .int (mn (lo9 (v 0) st j) (nt (v 0) st (j + 1)))), (0, .ref (q 0))]) hx hb dX0_range_55 hl (k := 3) rfl (nI_1 _) (by decide) rfl (fun ls hl => ?_)
      refine lv_goto (tgt := 25) hx hb dX0_range_58 (by decide) ?_
      exact ih (j + 1) ls (by omega) ⟨by omega, by exact lv_sub hl [3, 2, 1, 0] rfl⟩
  · have c4n : ¬ 0 < N := fun h9 => c4 ((nI_ltI (a := 0) (b := N) (by omega) (by omega)).mpr h9)
    refine lv_iconst (v := 0) hx hb dX0_range_7 (by decide) ?_
    exact W.iret hx hb hr (fun t ht hW => ⟨_, rfl, (rng_0 (by omega)), ht⟩) (fun q hq => absurd hq List.not_mem_nil) dX0_range_8
set_option maxHeartbeats 4000000 in
set_option maxRecDepth 100000 in
theorem mX0_sungWith (hok : Ok N st v) (hde : Der N st v w) (x : Nat) (hx10 : x < 10) : Met l yX0_sungWith (wm yX0_sungWith cX0_sungWith 4 (some .int)) ({ frames := 2, cells := 0, slots := 0, locals := 40 } : Room) (va_Pc [.ref (q 0), .int (nI x)] (fun U => C0 D cyI cyZ q (nI N) st v mk w U U.heap)) (vp_Si (fun r => r = sung v (nI x) N)) 0 0 (fun _ => False) := by
  refine mt (by decide) (Nat.le_of_ble_eq_true rfl) ?_
  intro p ev s m below meth c ls hF hr hlocks hnm hX hl
  have hF : CallFix p m c cX0_sungWith 4 s _ wA RX0 := hF
  obtain ⟨hx, hb, hml, hown, hts⟩ := id hF
  have hX : C0 D cyI cyZ q (nI N) st v mk w s s.heap := hX
  have hl : lv_has ls 4 [(0, .ref (q 0)), (1, .int (nI x))] := hl
  have hN := hok.1
  refine lv_iload_n hx hb dX0_sungWith_0 rfl (lv_at hl 1 rfl) ?_
  refine cSv (As := [.int (nI x)]) (rest := []) hF (mX0_checkWord x (by omega)) Mv.const trivial jyX0_checkWord kl_RX0_126 ⟨rfl, rfl⟩ ⟨Nat.le_of_ble_eq_true rfl, Nat.le_of_ble_eq_true rfl⟩ rfl hl.1 rfl (Nat.le_of_ble_eq_true rfl) ⟨Nat.zero_le _, Nat.zero_le _⟩ dX0_sungWith_1 ?_
  refine lv_iconst (v := 0) hx hb dX0_sungWith_4 (by decide) ?_
  refine lv_istore_n (lv' := [(2, .int 0), (0, .ref (q 0)), (1, .int (nI x))]) hx hb dX0_sungWith_5 rfl hl (by decide) rfl (fun ls hl => ?_)
  refine lv_iconst (v := 0) hx hb dX0_sungWith_6 (by decide) ?_
  refine lv_istore_n (lv' := [(3, .int 0), (2, .int 0), (0, .ref (q 0)), (1, .int (nI x))]) hx hb dX0_sungWith_7 rfl hl (by decide) rfl (fun ls hl => ?_)
  refine lpW (σ := Nat) (fun j ls => (j ≤ N) ∧ lv_has ls 4 [(0, .ref (q 0)), (1, .int (nI x)), (2, .int (ctB (sgP v (nI x)) j)), (3, .int (nI j))]) (fun j => N - j) (fun j ls hI ih => ?_) (0) ⟨by omega, lv_sub hl [2, 3, 1, 0] rfl⟩
  obtain ⟨hj, hl⟩ := hI
  refine lv_iload_n hx hb dX0_sungWith_8 rfl (lv_at hl 3 rfl) ?_
  refine lv_aload_n hx hb dX0_sungWith_9 rfl (lv_at hl 0 rfl) ?_
  refine C0.get hF hX 5 (by decide) rfl rfl kf_RX0_59 dX0_sungWith_10 ?_
  refine lv_icmp_ge (tgt := 40) hx hb dX0_sungWith_13 (by decide) (fun c13 => ?_) (fun c13 => ?_)
  · have c13n : N ≤ j := (nI_leI (a := N) (b := j) (by omega) (by omega)).mp c13
    obtain rfl : j = N := by omega
    refine lv_iload_n hx hb dX0_sungWith_40 rfl (lv_at hl 2 rfl) ?_
    exact W.iret hx hb hr (fun t ht hW => ⟨_, rfl, rfl, ht⟩) (fun q hq => absurd hq List.not_mem_nil) dX0_sungWith_41
  · have c13n : ¬ N ≤ j := fun h9 => c13 ((nI_leI (a := N) (b := j) (by omega) (by omega)).mpr h9)
    refine lv_aload_n hx hb dX0_sungWith_16 rfl (lv_at hl 0 rfl) ?_
    refine C0.get hF hX 4 (by decide) rfl rfl kf_RX0_23 dX0_sungWith_17 ?_
    refine lv_aload_n hx hb dX0_sungWith_20 rfl (lv_at hl 0 rfl) ?_
    refine C0.get hF hX 2 (by decide) rfl rfl kf_RX0_16 dX0_sungWith_21 ?_
    refine lv_iload_n hx hb dX0_sungWith_24 rfl (lv_at hl 3 rfl) ?_
    refine aldI hF hX.2.1 hX.1 3 0 rfl rfl j (by omega) (by decide) rfl dX0_sungWith_25 ?_
    refine aldI hF hX.2.1 hX.1 5 0 rfl rfl (ix (v 2 j)) (okM10 hok j) (by decide) (okM hok j) dX0_sungWith_26 ?_
    refine lv_iload_n hx hb dX0_sungWith_27 rfl (lv_at hl 1 rfl) ?_
    refine lv_icmp_ne (tgt := 34) hx hb dX0_sungWith_28 (by decide) (fun c28 => ?_) (fun c28 => ?_)
    · refine lv_iinc (v := (nI (j + 1))) (lv' := [(3, .int (nI (j + 1))), (0, .ref (q 0)), (1, .int (nI x)), (2, .int (ctB (sgP v (nI x)) j))]) hx hb dX0_sungWith_34 hl (k := 3) rfl (nI_1 _) (by decide) rfl (fun ls hl => ?_)
      refine lv_goto (tgt := 8) hx hb dX0_sungWith_37 (by decide) ?_
      exact ih (j + 1) ls (by omega) ⟨by omega, by rw [ctB_f (sgP_f c28)]; exact lv_sub hl [1, 2, 3, 0] rfl⟩
    · refine lv_iinc (v := ((ctB (sgP v (nI x)) j) + 1)) (lv' := [(2, .int ((ctB (sgP v (nI x)) j) + 1)), (0, .ref (q 0)), (1, .int (nI x)), (3, .int (nI j))]) hx hb dX0_sungWith_31 hl (k := 2) rfl (rfl) (by decide) rfl (fun ls hl => ?_)
      refine lv_iinc (v := (nI (j + 1))) (lv' := [(3, .int (nI (j + 1))), (2, .int ((ctB (sgP v (nI x)) j) + 1)), (0, .ref (q 0)), (1, .int (nI x))]) hx hb dX0_sungWith_34 hl (k := 3) rfl (nI_1 _) (by decide) rfl (fun ls hl => ?_)
      refine lv_goto (tgt := 8) hx hb dX0_sungWith_37 (by decide) ?_
      exact ih (j + 1) ls (by omega) ⟨by omega, by rw [ctB_t (sgP_t c28)]; exact lv_sub hl [2, 3, 1, 0] rfl⟩
end P11
