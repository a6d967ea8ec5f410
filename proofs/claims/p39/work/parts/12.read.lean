section P12
variable {l : Launch} {D : va_G} {cyI cyZ : ClassId} {q : Nat → Nat} {N K : Nat} {n st th md : Int32} {v w : Nat → Nat → Int32} {mk : Nat → Bool}
set_option maxHeartbeats 4000000 in
set_option maxRecDepth 100000 in
theorem mX0_readings (hok : Ok N st v) (hde : Der N st v w) (i : Nat) (hi : i < N) : Met l yX0_readings (wm yX0_readings cX0_readings 3 (some .int)) ({ frames := 3, cells := 0, slots := 0, locals := 67 } : Room) (va_Pc [.ref (q 0), .int (nI i)] (fun U => C0 D cyI cyZ q (nI N) st v mk w U U.heap)) (vp_Si (fun r => r = rdn v st i)) 0 0 (fun _ => False) := by
  refine mt (by decide) (Nat.le_of_ble_eq_true rfl) ?_
  intro p ev s m below meth c ls hF hr hlocks hnm hX hl
  have hF : CallFix p m c cX0_readings 3 s _ wA RX0 := hF
  obtain ⟨hx, hb, hml, hown, hts⟩ := id hF
  have hX : C0 D cyI cyZ q (nI N) st v mk w s s.heap := hX
  have hl : lv_has ls 3 [(0, .ref (q 0)), (1, .int (nI i))] := hl
  have hN := hok.1
  refine lv_aload_n hx hb dX0_readings_0 rfl (lv_at hl 0 rfl) ?_
  refine lv_iload_n hx hb dX0_readings_1 rfl (lv_at hl 1 rfl) ?_
  refine cVv (As := [.int (nI i)]) (rest := []) hF (mX0_checkLeg i (by omega) (by omega)) C0.mv hX (C0.rc hX) jyX0_checkLeg kl_RX0_72 ⟨rfl, rfl⟩ ⟨Nat.le_of_ble_eq_true rfl, Nat.le_of_ble_eq_true rfl⟩ rfl hl.1 rfl (Nat.le_of_ble_eq_true rfl) ⟨Nat.zero_le _, Nat.zero_le _⟩ dX0_readings_2 ?_
  refine lv_aload_n hx hb dX0_readings_5 rfl (lv_at hl 0 rfl) ?_
  refine C0.get hF hX 10 (by decide) rfl rfl kf_RX0_35 dX0_readings_6 ?_
  refine lv_iload_n hx hb dX0_readings_9 rfl (lv_at hl 1 rfl) ?_
  refine aldI hF hX.2.1 hX.1 9 0 rfl rfl i (by omega) (by decide) rfl dX0_readings_10 ?_
  refine lv_aload_n hx hb dX0_readings_11 rfl (lv_at hl 0 rfl) ?_
  refine lv_iload_n hx hb dX0_readings_12 rfl (lv_at hl 1 rfl) ?_
  refine cVi (As := [.int (nI i)]) (rest := [.int (w 3 i)]) hF (mX0_noteAhead i hde (by omega) (by omega)) C0.mv hX (C0.rc hX) jyX0_noteAhead kl_RX0_114 ⟨rfl, rfl⟩ ⟨Nat.le_of_ble_eq_true rfl, Nat.le_of_ble_eq_true rfl⟩ rfl hl.1 rfl (Nat.le_of_ble_eq_true rfl) ⟨Nat.zero_le _, Nat.zero_le _⟩ dX0_readings_13 (fun r hr9 => ?_)
  subst hr9
  refine lv_aload_n hx hb dX0_readings_16 rfl (lv_at hl 0 rfl) ?_
  refine C0.get hF hX 6 (by decide) rfl rfl kf_RX0_38 dX0_readings_17 ?_
  refine lv_iconst (v := (nI 7 - 3)) hx hb dX0_readings_20 (by decide) ?_
  refine cSi (As := [.int (w 3 i), .int (nt (v 0) st i), .int st, .int (nI 7 - 3)]) (rest := []) hF (mX0_turnsSungAs (w 3 i) (nt (v 0) st i) 7 (by omega)) Mv.const trivial jyX0_turnsSungAs kl_RX0_129 ⟨rfl, rfl⟩ ⟨Nat.le_of_ble_eq_true rfl, Nat.le_of_ble_eq_true rfl⟩ rfl hl.1 rfl (Nat.le_of_ble_eq_true rfl) ⟨Nat.zero_le _, Nat.zero_le _⟩ dX0_readings_21 (fun r hr9 => ?_)
  subst hr9
  refine lv_istore_n (lv' := [(2, .int (tsa (w 3 i) (nt (v 0) st i) st 7)), (0, .ref (q 0)), (1, .int (nI i))]) hx hb dX0_readings_24 rfl hl (by decide) rfl (fun ls hl => ?_)
  refine lv_iload_n hx hb dX0_readings_25 rfl (lv_at hl 0 rfl) ?_
  refine lv_aload_n hx hb dX0_readings_26 rfl (lv_at hl 1 rfl) ?_
  refine lv_aload_n hx hb dX0_readings_27 rfl (lv_at hl 1 rfl) ?_
  refine C0.get hF hX 4 (by decide) rfl rfl kf_RX0_23 dX0_readings_28 ?_
  refine lv_aload_n hx hb dX0_readings_31 rfl (lv_at hl 1 rfl) ?_
  refine C0.get hF hX 2 (by decide) rfl rfl kf_RX0_16 dX0_readings_32 ?_
  refine lv_iload_n hx hb dX0_readings_35 rfl (lv_at hl 2 rfl) ?_
  refine aldI hF hX.2.1 hX.1 3 0 rfl rfl i (by omega) (by decide) rfl dX0_readings_36 ?_
  refine aldI hF hX.2.1 hX.1 5 0 rfl rfl (ix (v 2 i)) (okM10 hok i) (by decide) (okM hok i) dX0_readings_37 ?_
  refine lv_bipush (v := (nI 10)) hx hb dX0_readings_38 (by decide) ?_
  refine cVi (As := [.int (v 3 (ix (v 2 i))), .int (nI 10)]) (rest := [.int (tsa (w 3 i) (nt (v 0) st i) st 7)]) hF (mX0_landmarksNamed (v 3 (ix (v 2 i))) 10 (by omega)) C0.mv hX (C0.rc hX) jyX0_landmarksNamed kl_RX0_133 ⟨rfl, rfl⟩ ⟨Nat.le_of_ble_eq_true rfl, Nat.le_of_ble_eq_true rfl⟩ rfl hl.1 rfl (Nat.le_of_ble_eq_true rfl) ⟨Nat.zero_le _, Nat.zero_le _⟩ dX0_readings_40 (fun r hr9 => ?_)
  subst hr9
  refine lv_imul hx hb dX0_readings_43 ?_
  exact W.iret hx hb hr (fun t ht hW => ⟨_, rfl, rdn_c hok hde hi, ht⟩) (fun q hq => absurd hq List.not_mem_nil) dX0_readings_44
set_option maxHeartbeats 4000000 in
set_option maxRecDepth 100000 in
theorem mX0_rightReading (hok : Ok N st v) (hde : Der N st v w) (i : Nat) (hi : i < N) : Met l yX0_rightReading (wm yX0_rightReading cX0_rightReading 4 (some .int)) ({ frames := 3, cells := 0, slots := 0, locals := 67 } : Room) (va_Pc [.ref (q 0), .int (nI i)] (fun U => C0 D cyI cyZ q (nI N) st v mk w U U.heap)) (vp_Si (fun r => r = rrn v st i)) 0 0 (fun _ => False) := by
  refine mt (by decide) (Nat.le_of_ble_eq_true rfl) ?_
  intro p ev s m below meth c ls hF hr hlocks hnm hX hl
  have hF : CallFix p m c cX0_rightReading 4 s _ wA RX0 := hF
  obtain ⟨hx, hb, hml, hown, hts⟩ := id hF
  have hX : C0 D cyI cyZ q (nI N) st v mk w s s.heap := hX
  have hl : lv_has ls 4 [(0, .ref (q 0)), (1, .int (nI i))] := hl
  have hN := hok.1
  obtain ⟨e, he, hve⟩ := hok.2.2.1 i
  refine lv_aload_n hx hb dX0_rightReading_0 rfl (lv_at hl 0 rfl) ?_
  refine lv_iload_n hx hb dX0_rightReading_1 rfl (lv_at hl 1 rfl) ?_
  refine cVv (As := [.int (nI i)]) (rest := []) hF (mX0_checkLeg i (by omega) (by omega)) C0.mv hX (C0.rc hX) jyX0_checkLeg kl_RX0_72 ⟨rfl, rfl⟩ ⟨Nat.le_of_ble_eq_true rfl, Nat.le_of_ble_eq_true rfl⟩ rfl hl.1 rfl (Nat.le_of_ble_eq_true rfl) ⟨Nat.zero_le _, Nat.zero_le _⟩ dX0_rightReading_2 ?_
  refine lv_aload_n hx hb dX0_rightReading_5 rfl (lv_at hl 0 rfl) ?_
  refine C0.get hF hX 4 (by decide) rfl rfl kf_RX0_23 dX0_rightReading_6 ?_
  refine lv_aload_n hx hb dX0_rightReading_9 rfl (lv_at hl 0 rfl) ?_
  refine C0.get hF hX 2 (by decide) rfl rfl kf_RX0_16 dX0_rightReading_10 ?_
  refine lv_iload_n hx hb dX0_rightReading_13 rfl (lv_at hl 1 rfl) ?_
  refine aldI hF hX.2.1 hX.1 3 0 rfl rfl i (by omega) (by decide) rfl dX0_rightReading_14 ?_
  refine aldI hF hX.2.1 hX.1 5 0 rfl rfl (ix (v 2 i)) (okM10 hok i) (by decide) (okM hok i) dX0_rightReading_15 ?_
  refine lv_istore_n (lv' := [(2, .int (v 3 (ix (v 2 i)))), (0, .ref (q 0)), (1, .int (nI i))]) hx hb dX0_rightReading_16 rfl hl (by decide) rfl (fun ls hl => ?_)
  refine lv_aload_n hx hb dX0_rightReading_17 rfl (lv_at hl 1 rfl) ?_
  refine C0.get hF hX 10 (by decide) rfl rfl kf_RX0_35 dX0_rightReading_18 ?_
  refine lv_iload_n hx hb dX0_rightReading_21 rfl (lv_at hl 2 rfl) ?_
  refine aldI hF hX.2.1 hX.1 9 0 rfl rfl i (by omega) (by decide) rfl dX0_rightReading_22 ?_
  refine lv_aload_n hx hb dX0_rightReading_23 rfl (lv_at hl 1 rfl) ?_
  refine lv_iload_n hx hb dX0_rightReading_24 rfl (lv_at hl 2 rfl) ?_
  refine cVi (As := [.int (nI i)]) (rest := [.int (w 3 i)]) hF (mX0_noteAhead i hde (by omega) (by omega)) C0.mv hX (C0.rc hX) jyX0_noteAhead kl_RX0_114 ⟨rfl, rfl⟩ ⟨Nat.le_of_ble_eq_true rfl, Nat.le_of_ble_eq_true rfl⟩ rfl hl.1 rfl (Nat.le_of_ble_eq_true rfl) ⟨Nat.zero_le _, Nat.zero_le _⟩ dX0_rightReading_25 (fun r hr9 => ?_)
  subst hr9
  refine lv_aload_n hx hb dX0_rightReading_28 rfl (lv_at hl 1 rfl) ?_
  refine C0.get hF hX 6 (by decide) rfl rfl kf_RX0_38 dX0_rightReading_29 ?_
  refine lv_aload_n hx hb dX0_rightReading_32 rfl (lv_at hl 1 rfl) ?_
  refine C0.get hF hX 0 (by decide) rfl rfl kf_RX0_9 dX0_rightReading_33 ?_
  refine lv_iload_n hx hb dX0_rightReading_36 rfl (lv_at hl 2 rfl) ?_
  refine aldI hF hX.2.1 hX.1 1 0 rfl rfl i (by omega) (by decide) rfl dX0_rightReading_37 ?_
  refine topI (show (v 0 i) = (nI e - 3) from hve) ?_
  refine cSi (As := [.int (w 3 i), .int (nt (v 0) st i), .int st, .int (nI e - 3)]) (rest := []) hF (mX0_turnsSungAs (w 3 i) (nt (v 0) st i) e (by omega)) Mv.const trivial jyX0_turnsSungAs kl_RX0_129 ⟨rfl, rfl⟩ ⟨Nat.le_of_ble_eq_true rfl, Nat.le_of_ble_eq_true rfl⟩ rfl hl.1 rfl (Nat.le_of_ble_eq_true rfl) ⟨Nat.zero_le _, Nat.zero_le _⟩ dX0_rightReading_38 (fun r hr9 => ?_)
  subst hr9
  refine lv_istore_n (lv' := [(3, .int (tsa (w 3 i) (nt (v 0) st i) st e)), (2, .int (v 3 (ix (v 2 i)))), (0, .ref (q 0)), (1, .int (nI i))]) hx hb dX0_rightReading_41 rfl hl (by decide) rfl (fun ls hl => ?_)
  refine lv_iload_n hx hb dX0_rightReading_42 rfl (lv_at hl 0 rfl) ?_
  refine lv_aload_n hx hb dX0_rightReading_43 rfl (lv_at hl 2 rfl) ?_
  refine lv_iload_n hx hb dX0_rightReading_44 rfl (lv_at hl 1 rfl) ?_
  refine lv_bipush (v := (nI 10)) hx hb dX0_rightReading_45 (by decide) ?_
  refine cVi (As := [.int (v 3 (ix (v 2 i))), .int (nI 10)]) (rest := [.int (tsa (w 3 i) (nt (v 0) st i) st e)]) hF (mX0_landmarksNamed (v 3 (ix (v 2 i))) 10 (by omega)) C0.mv hX (C0.rc hX) jyX0_landmarksNamed kl_RX0_133 ⟨rfl, rfl⟩ ⟨Nat.le_of_ble_eq_true rfl, Nat.le_of_ble_eq_true rfl⟩ rfl hl.1 rfl (Nat.le_of_ble_eq_true rfl) ⟨Nat.zero_le _, Nat.zero_le _⟩ dX0_rightReading_47 (fun r hr9 => ?_)
  subst hr9
  refine lv_imul hx hb dX0_rightReading_50 ?_
  refine lv_aload_n hx hb dX0_rightReading_51 rfl (lv_at hl 2 rfl) ?_
  refine lv_iload_n hx hb dX0_rightReading_52 rfl (lv_at hl 1 rfl) ?_
  refine lv_aload_n hx hb dX0_rightReading_53 rfl (lv_at hl 2 rfl) ?_
  refine C0.get hF hX 2 (by decide) rfl rfl kf_RX0_16 dX0_rightReading_54 ?_
  refine lv_iload_n hx hb dX0_rightReading_57 rfl (lv_at hl 3 rfl) ?_
  refine aldI hF hX.2.1 hX.1 3 0 rfl rfl i (by omega) (by decide) rfl dX0_rightReading_58 ?_
  refine topI (show (v 2 i) = nI (ix (v 2 i)) from okM hok i) ?_
  refine cVi (As := [.int (v 3 (ix (v 2 i))), .int (nI (ix (v 2 i)))]) (rest := [.int ((tsa (w 3 i) (nt (v 0) st i) st e) * (lc (v 3) (v 3 (ix (v 2 i))) 10))]) hF (mX0_landmarksNamed (v 3 (ix (v 2 i))) (ix (v 2 i)) (by exact Nat.le_of_lt (okM10 hok i))) C0.mv hX (C0.rc hX) jyX0_landmarksNamed kl_RX0_133 ⟨rfl, rfl⟩ ⟨Nat.le_of_ble_eq_true rfl, Nat.le_of_ble_eq_true rfl⟩ rfl hl.1 rfl (Nat.le_of_ble_eq_true rfl) ⟨Nat.zero_le _, Nat.zero_le _⟩ dX0_rightReading_59 (fun r hr9 => ?_)
  subst hr9
  refine lv_iadd hx hb dX0_rightReading_62 ?_
  exact W.iret hx hb hr (fun t ht hW => ⟨_, rfl, rrn_c hok hde hi he hve, ht⟩) (fun q hq => absurd hq List.not_mem_nil) dX0_rightReading_63
set_option maxHeartbeats 4000000 in
set_option maxRecDepth 100000 in
theorem mX0_isAmbiguous (hok : Ok N st v) (hde : Der N st v w) (i : Nat) (hi : i < N) : Met l yX0_isAmbiguous (wm yX0_isAmbiguous cX0_isAmbiguous 2 (some .boolean)) ({ frames := 4, cells := 0, slots := 0, locals := 89 } : Room) (va_Pc [.ref (q 0), .int (nI i)] (fun U => C0 D cyI cyZ q (nI N) st v mk w U U.heap)) (vp_Si (fun r => r = b2i (amb v st mk i))) 0 0 (fun _ => False) := by
  refine mt (by decide) (Nat.le_of_ble_eq_true rfl) ?_
  intro p ev s m below meth c ls hF hr hlocks hnm hX hl
  have hF : CallFix p m c cX0_isAmbiguous 2 s _ wA RX0 := hF
  obtain ⟨hx, hb, hml, hown, hts⟩ := id hF
  have hX : C0 D cyI cyZ q (nI N) st v mk w s s.heap := hX
  have hl : lv_has ls 2 [(0, .ref (q 0)), (1, .int (nI i))] := hl
  have hN := hok.1
  refine lv_aload_n hx hb dX0_isAmbiguous_0 rfl (lv_at hl 0 rfl) ?_
  refine lv_iload_n hx hb dX0_isAmbiguous_1 rfl (lv_at hl 1 rfl) ?_
  refine cVv (As := [.int (nI i)]) (rest := []) hF (mX0_checkLeg i (by omega) (by omega)) C0.mv hX (C0.rc hX) jyX0_checkLeg kl_RX0_72 ⟨rfl, rfl⟩ ⟨Nat.le_of_ble_eq_true rfl, Nat.le_of_ble_eq_true rfl⟩ rfl hl.1 rfl (Nat.le_of_ble_eq_true rfl) ⟨Nat.zero_le _, Nat.zero_le _⟩ dX0_isAmbiguous_2 ?_
  refine lv_aload_n hx hb dX0_isAmbiguous_5 rfl (lv_at hl 0 rfl) ?_
  refine C0.get hF hX 3 (by decide) rfl rfl kf_RX0_19 dX0_isAmbiguous_6 ?_
  refine lv_iload_n hx hb dX0_isAmbiguous_9 rfl (lv_at hl 1 rfl) ?_
  refine aldZ hF hX.2.1 hX.1 4 1 rfl rfl i (by omega) (by decide) rfl dX0_isAmbiguous_10 ?_
  refine lv_if_ne (tgt := 27) hx hb dX0_isAmbiguous_11 (by decide) (fun c11 => ?_) (fun c11 => ?_)
  · have c11b := b2i_t c11
    refine lv_iconst (v := 0) hx hb dX0_isAmbiguous_27 (by decide) ?_
    exact W.zret hx hb hr rfl (fun t ht hW => ⟨_, rfl, b2i_0 (by simp [amb, c11b]), ht⟩) (fun q hq => absurd hq List.not_mem_nil) dX0_isAmbiguous_28
  · have c11b := b2i_f c11
    refine lv_aload_n hx hb dX0_isAmbiguous_14 rfl (lv_at hl 0 rfl) ?_
    refine lv_iload_n hx hb dX0_isAmbiguous_15 rfl (lv_at hl 1 rfl) ?_
    refine cVi (As := [.int (nI i)]) (rest := []) hF (mX0_readings hok hde i (by omega)) C0.mv hX (C0.rc hX) jyX0_readings kl_RX0_136 ⟨rfl, rfl⟩ ⟨Nat.le_of_ble_eq_true rfl, Nat.le_of_ble_eq_true rfl⟩ rfl hl.1 rfl (Nat.le_of_ble_eq_true rfl) ⟨Nat.zero_le _, Nat.zero_le _⟩ dX0_isAmbiguous_16 (fun r hr9 => ?_)
    subst hr9
    refine lv_iconst (v := 1) hx hb dX0_isAmbiguous_19 (by decide) ?_
    refine lv_icmp_le (tgt := 27) hx hb dX0_isAmbiguous_20 (by decide) (fun c20 => ?_) (fun c20 => ?_)
    · refine lv_iconst (v := 0) hx hb dX0_isAmbiguous_27 (by decide) ?_
      exact W.zret hx hb hr rfl (fun t ht hW => ⟨_, rfl, b2i_0 (by simp [amb, Int32.not_lt.mpr c20]), ht⟩) (fun q hq => absurd hq List.not_mem_nil) dX0_isAmbiguous_28
    · refine lv_iconst (v := 1) hx hb dX0_isAmbiguous_23 (by decide) ?_
      refine lv_goto (tgt := 28) hx hb dX0_isAmbiguous_24 (by decide) ?_
      exact W.zret hx hb hr rfl (fun t ht hW => ⟨_, rfl, b2i_1 (by simp [amb, c11b, Int32.not_le.mp c20]), ht⟩) (fun q hq => absurd hq List.not_mem_nil) dX0_isAmbiguous_28
set_option maxHeartbeats 4000000 in
set_option maxRecDepth 100000 in
theorem mX0_isMended (hok : Ok N st v) (hde : Der N st v w) (i : Nat) (hi : i < N) : Met l yX0_isMended (wm yX0_isMended cX0_isMended 2 (some .boolean)) ({ frames := 1, cells := 0, slots := 0, locals := 21 } : Room) (va_Pc [.ref (q 0), .int (nI i)] (fun U => C0 D cyI cyZ q (nI N) st v mk w U U.heap)) (vp_Si (fun r => r = b2i (mk i))) 0 0 (fun _ => False) := by
  refine mt (by decide) (Nat.le_of_ble_eq_true rfl) ?_
  intro p ev s m below meth c ls hF hr hlocks hnm hX hl
  have hF : CallFix p m c cX0_isMended 2 s _ wA RX0 := hF
  obtain ⟨hx, hb, hml, hown, hts⟩ := id hF
  have hX : C0 D cyI cyZ q (nI N) st v mk w s s.heap := hX
  have hl : lv_has ls 2 [(0, .ref (q 0)), (1, .int (nI i))] := hl
  have hN := hok.1
  refine lv_aload_n hx hb dX0_isMended_0 rfl (lv_at hl 0 rfl) ?_
  refine lv_iload_n hx hb dX0_isMended_1 rfl (lv_at hl 1 rfl) ?_
  refine cVv (As := [.int (nI i)]) (rest := []) hF (mX0_checkLeg i (by omega) (by omega)) C0.mv hX (C0.rc hX) jyX0_checkLeg kl_RX0_72 ⟨rfl, rfl⟩ ⟨Nat.le_of_ble_eq_true rfl, Nat.le_of_ble_eq_true rfl⟩ rfl hl.1 rfl (Nat.le_of_ble_eq_true rfl) ⟨Nat.zero_le _, Nat.zero_le _⟩ dX0_isMended_2 ?_
  refine lv_aload_n hx hb dX0_isMended_5 rfl (lv_at hl 0 rfl) ?_
  refine C0.get hF hX 3 (by decide) rfl rfl kf_RX0_19 dX0_isMended_6 ?_
  refine lv_iload_n hx hb dX0_isMended_9 rfl (lv_at hl 1 rfl) ?_
  refine aldZ hF hX.2.1 hX.1 4 1 rfl rfl i (by omega) (by decide) rfl dX0_isMended_10 ?_
  exact W.zret hx hb hr b2i_nar (fun t ht hW => ⟨_, rfl, rfl, ht⟩) (fun q hq => absurd hq List.not_mem_nil) dX0_isMended_11
set_option maxHeartbeats 4000000 in
set_option maxRecDepth 100000 in
theorem mX0_ambiguous (hok : Ok N st v) (hde : Der N st v w) : Met l yX0_ambiguous (wm yX0_ambiguous cX0_ambiguous 3 (some .int)) ({ frames := 5, cells := 0, slots := 0, locals := 110 } : Room) (va_Pc [.ref (q 0)] (fun U => C0 D cyI cyZ q (nI N) st v mk w U U.heap)) (vp_Si (fun r => r = ctB (amb v st mk) N)) 0 0 (fun _ => False) := by
  refine mt (by decide) (Nat.le_of_ble_eq_true rfl) ?_
  intro p ev s m below meth c ls hF hr hlocks hnm hX hl
  have hF : CallFix p m c cX0_ambiguous 3 s _ wA RX0 := hF
  obtain ⟨hx, hb, hml, hown, hts⟩ := id hF
  have hX : C0 D cyI cyZ q (nI N) st v mk w s s.heap := hX
  have hl : lv_has ls 3 [(0, .ref (q 0))] := hl
  have hN := hok.1
  refine lv_iconst (v := 0) hx hb dX0_ambiguous_0 (by decide) ?_
  refine lv_istore_n (lv' := [(1, .int 0), (0, .ref (q 0))]) hx hb dX0_ambiguous_1 rfl hl (by decide) rfl (fun ls hl => ?_)
  refine lv_iconst (v := 0) hx hb dX0_ambiguous_2 (by decide) ?_
  refine lv_istore_n (lv' := [(2, .int 0), (1, .int 0), (0, .ref (q 0))]) hx hb dX0_ambiguous_3 rfl hl (by decide) rfl (fun ls hl => ?_)
  refine lpW (σ := Nat) (fun j ls => (j ≤ N) ∧ lv_has ls 3 [(0, .ref (q 0)), (1, .int (ctB (amb v st mk) j)), (2, .int (nI j))]) (fun j => N - j) (fun j ls hI ih => ?_) (0) ⟨by omega, lv_sub hl [2, 1, 0] rfl⟩
  obtain ⟨hj, hl⟩ := hI
  refine lv_iload_n hx hb dX0_ambiguous_4 rfl (lv_at hl 2 rfl) ?_
  refine lv_aload_n hx hb dX0_ambiguous_5 rfl (lv_at hl 0 rfl) ?_
  refine C0.get hF hX 5 (by decide) rfl rfl kf_RX0_59 dX0_ambiguous_6 ?_
  refine lv_icmp_ge (tgt := 29) hx hb dX0_ambiguous_9 (by decide) (fun c9 => ?_) (fun c9 => ?_)
  · have c9n : N ≤ j := (nI_leI (a := N) (b := j) (by omega) (by omega)).mp c9
    obtain rfl : j = N := by omega
    refine lv_iload_n hx hb dX0_ambiguous_29 rfl (lv_at hl 1 rfl) ?_
    exact W.iret hx hb hr (fun t ht hW => ⟨_, rfl, rfl, ht⟩) (fun q hq => absurd hq List.not_mem_nil) dX0_ambiguous_30
  · have c9n : ¬ N ≤ j := fun h9 => c9 ((nI_leI (a := N) (b := j) (by omega) (by omega)).mpr h9)
    refine lv_aload_n hx hb dX0_ambiguous_12 rfl (lv_at hl 0 rfl) ?_
    refine lv_iload_n hx hb dX0_ambiguous_13 rfl (lv_at hl 2 rfl) ?_
    refine cVi (As := [.int (nI j)]) (rest := []) hF (mX0_isAmbiguous hok hde j (by omega)) C0.mv hX (C0.rc hX) jyX0_isAmbiguous kl_RX0_139 ⟨rfl, rfl⟩ ⟨Nat.le_of_ble_eq_true rfl, Nat.le_of_ble_eq_true rfl⟩ rfl hl.1 rfl (Nat.le_of_ble_eq_true rfl) ⟨Nat.zero_le _, Nat.zero_le _⟩ dX0_ambiguous_14 (fun r hr9 => ?_)
    subst hr9
    refine lv_if_eq (tgt := 23) hx hb dX0_ambiguous_17 (by decide) (fun c17 => ?_) (fun c17 => ?_)
    · have c17b := b2i_f c17
      refine lv_iinc (v := (nI (j + 1))) (lv' := [(2, .int (nI (j + 1))), (0, .ref (q 0)), (1, .int (ctB (amb v st mk) j))]) hx hb dX0_ambiguous_23 hl (k := 2) rfl (nI_1 _) (by decide) rfl (fun ls hl => ?_)
      refine lv_goto (tgt := 4) hx hb dX0_ambiguous_26 (by decide) ?_
      exact ih (j + 1) ls (by omega) ⟨by omega, by rw [ctB_f c17b]; exact lv_sub hl [1, 2, 0] rfl⟩
    · have c17b := b2i_t c17
      refine lv_iinc (v := ((ctB (amb v st mk) j) + 1)) (lv' := [(1, .int ((ctB (amb v st mk) j) + 1)), (0, .ref (q 0)), (2, .int (nI j))]) hx hb dX0_ambiguous_20 hl (k := 1) rfl (rfl) (by decide) rfl (fun ls hl => ?_)
      refine lv_iinc (v := (nI (j + 1))) (lv' := [(2, .int (nI (j + 1))), (1, .int ((ctB (amb v st mk) j) + 1)), (0, .ref (q 0))]) hx hb dX0_ambiguous_23 hl (k := 2) rfl (nI_1 _) (by decide) rfl (fun ls hl => ?_)
      refine lv_goto (tgt := 4) hx hb dX0_ambiguous_26 (by decide) ?_
      exact ih (j + 1) ls (by omega) ⟨by omega, by rw [ctB_t c17b]; exact lv_sub hl [2, 1, 0] rfl⟩
set_option maxHeartbeats 4000000 in
set_option maxRecDepth 100000 in
theorem mX0_ways (hok : Ok N st v) (hde : Der N st v w) : Met l yX0_ways (wm yX0_ways cX0_ways 4 (some .long)) ({ frames := 5, cells := 0, slots := 0, locals := 110 } : Room) (va_Pc [.ref (q 0)] (fun U => C0 D cyI cyZ q (nI N) st v mk w U U.heap)) (vp_Sl (fun r => r = wys v st mk N)) 0 0 (fun _ => False) := by
  refine mt (by decide) (Nat.le_of_ble_eq_true rfl) ?_
  intro p ev s m below meth c ls hF hr hlocks hnm hX hl
  have hF : CallFix p m c cX0_ways 4 s _ wA RX0 := hF
  obtain ⟨hx, hb, hml, hown, hts⟩ := id hF
  have hX : C0 D cyI cyZ q (nI N) st v mk w s s.heap := hX
  have hl : lv_has ls 4 [(0, .ref (q 0))] := hl
  have hN := hok.1
  refine lv_lconst (v := 1) hx hb dX0_ways_0 (by decide) ?_
  refine lv_lstore_n (lv' := [(1, .long 1), (0, .ref (q 0))]) hx hb dX0_ways_1 rfl hl (by decide) rfl (fun ls hl => ?_)
  refine lv_iconst (v := 0) hx hb dX0_ways_2 (by decide) ?_
  refine lv_istore_n (lv' := [(3, .int 0), (1, .long 1), (0, .ref (q 0))]) hx hb dX0_ways_3 rfl hl (by decide) rfl (fun ls hl => ?_)
  refine lpW (σ := Nat) (fun j ls => (j ≤ N) ∧ lv_has ls 4 [(0, .ref (q 0)), (1, .long (wys v st mk j)), (3, .int (nI j))]) (fun j => N - j) (fun j ls hI ih => ?_) (0) ⟨by omega, lv_sub hl [2, 1, 0] rfl⟩
  obtain ⟨hj, hl⟩ := hI
  refine lv_iload_n hx hb dX0_ways_4 rfl (lv_at hl 2 rfl) ?_
  refine lv_aload_n hx hb dX0_ways_5 rfl (lv_at hl 0 rfl) ?_
  refine C0.get hF hX 5 (by decide) rfl rfl kf_RX0_59 dX0_ways_6 ?_
  refine lv_icmp_ge (tgt := 41) hx hb dX0_ways_9 (by decide) (fun c9 => ?_) (fun c9 => ?_)
  · have c9n : N ≤ j := (nI_leI (a := N) (b := j) (by omega) (by omega)).mp c9
    obtain rfl : j = N := by omega
    refine lv_lload_n hx hb dX0_ways_41 rfl (lv_at hl 1 rfl) ?_
    exact W.lret hx hb hr (fun t ht hW => ⟨_, rfl, rfl, ht⟩) (fun q hq => absurd hq List.not_mem_nil) dX0_ways_42
  · have c9n : ¬ N ≤ j := fun h9 => c9 ((nI_leI (a := N) (b := j) (by omega) (by omega)).mpr h9)
    refine lv_aload_n hx hb dX0_ways_12 rfl (lv_at hl 0 rfl) ?_
    refine lv_iload_n hx hb dX0_ways_13 rfl (lv_at hl 2 rfl) ?_
    refine cVi (As := [.int (nI j)]) (rest := []) hF (mX0_isAmbiguous hok hde j (by omega)) C0.mv hX (C0.rc hX) jyX0_isAmbiguous kl_RX0_139 ⟨rfl, rfl⟩ ⟨Nat.le_of_ble_eq_true rfl, Nat.le_of_ble_eq_true rfl⟩ rfl hl.1 rfl (Nat.le_of_ble_eq_true rfl) ⟨Nat.zero_le _, Nat.zero_le _⟩ dX0_ways_14 (fun r hr9 => ?_)
    subst hr9
    refine lv_if_eq (tgt := 35) hx hb dX0_ways_17 (by decide) (fun c17 => ?_) (fun c17 => ?_)
    · have c17b := b2i_f c17
      refine lv_iinc (v := (nI (j + 1))) (lv' := [(3, .int (nI (j + 1))), (0, .ref (q 0)), (1, .long (wys v st mk j))]) hx hb dX0_ways_35 hl (k := 2) rfl (nI_1 _) (by decide) rfl (fun ls hl => ?_)
      refine lv_goto (tgt := 4) hx hb dX0_ways_38 (by decide) ?_
      exact ih (j + 1) ls (by omega) ⟨by omega, by rw [wys_f c17b]; exact lv_sub hl [1, 2, 0] rfl⟩
    · have c17b := b2i_t c17
      refine lv_lload_n hx hb dX0_ways_20 rfl (lv_at hl 1 rfl) ?_
      refine lv_aload_n hx hb dX0_ways_21 rfl (lv_at hl 0 rfl) ?_
      refine lv_iload_n hx hb dX0_ways_22 rfl (lv_at hl 2 rfl) ?_
      refine cVi (As := [.int (nI j)]) (rest := [.long (wys v st mk j)]) hF (mX0_readings hok hde j (by omega)) C0.mv hX (C0.rc hX) jyX0_readings kl_RX0_136 ⟨rfl, rfl⟩ ⟨Nat.le_of_ble_eq_true rfl, Nat.le_of_ble_eq_true rfl⟩ rfl hl.1 rfl (Nat.le_of_ble_eq_true rfl) ⟨Nat.zero_le _, Nat.zero_le _⟩ dX0_ways_23 (fun r hr9 => ?_)
      subst hr9
      refine lv_i2l hx hb dX0_ways_26 rfl ?_
      refine lv_lmul hx hb dX0_ways_27 ?_
      refine lv_ldc2 hx hb hown (hts _ kk_RX0_157) dX0_ways_28 ?_
      refine va_mmin_long hx hb (hml.trans hl.1.symm) hown (hts _ kl_RX0_159) (hts _ ks_LM_min_long_x) (hts _ kn_Math) (hts _ kd_LM_min_long_x) (Nat.le_of_ble_eq_true rfl) (Nat.le_of_ble_eq_true rfl) (Nat.zero_le _) (Nat.zero_le _) dX0_ways_31 ?_
      refine lv_lstore_n (lv' := [(1, .long (if 1000000000 < ((wys v st mk j) * (Int32.toInt64 (rdn v st j))) then 1000000000 else ((wys v st mk j) * (Int32.toInt64 (rdn v st j))))), (0, .ref (q 0)), (3, .int (nI j))]) hx hb dX0_ways_34 rfl hl (by decide) rfl (fun ls hl => ?_)
      refine lv_iinc (v := (nI (j + 1))) (lv' := [(3, .int (nI (j + 1))), (1, .long (if 1000000000 < ((wys v st mk j) * (Int32.toInt64 (rdn v st j))) then 1000000000 else ((wys v st mk j) * (Int32.toInt64 (rdn v st j))))), (0, .ref (q 0))]) hx hb dX0_ways_35 hl (k := 2) rfl (nI_1 _) (by decide) rfl (fun ls hl => ?_)
      refine lv_goto (tgt := 4) hx hb dX0_ways_38 (by decide) ?_
      exact ih (j + 1) ls (by omega) ⟨by omega, by rw [wys_t c17b]; exact lv_sub hl [2, 1, 0] rfl⟩
set_option maxHeartbeats 4000000 in
set_option maxRecDepth 100000 in
theorem mX0_firstAmbiguous (hok : Ok N st v) (hde : Der N st v w) : Met l yX0_firstAmbiguous (wm yX0_firstAmbiguous cX0_firstAmbiguous 2 (some .int)) ({ frames := 5, cells := 0, slots := 0, locals := 110 } : Room) (va_Pc [.ref (q 0)] (fun U => C0 D cyI cyZ q (nI N) st v mk w U U.heap)) (vp_Si (fun r => r = fam v st mk N)) 0 0 (fun _ => False) := by
  refine mt (by decide) (Nat.le_of_ble_eq_true rfl) ?_
  intro p ev s m below meth c ls hF hr hlocks hnm hX hl
  have hF : CallFix p m c cX0_firstAmbiguous 2 s _ wA RX0 := hF
  obtain ⟨hx, hb, hml, hown, hts⟩ := id hF
  have hX : C0 D cyI cyZ q (nI N) st v mk w s s.heap := hX
  have hl : lv_has ls 2 [(0, .ref (q 0))] := hl
  have hN := hok.1
  refine lv_iconst (v := 0) hx hb dX0_firstAmbiguous_0 (by decide) ?_
  refine lv_istore_n (lv' := [(1, .int 0), (0, .ref (q 0))]) hx hb dX0_firstAmbiguous_1 rfl hl (by decide) rfl (fun ls hl => ?_)
  refine lpW (σ := Nat) (fun j ls => (j ≤ N ∧ ∀ i, i < j → amb v st mk i = false) ∧ lv_has ls 2 [(0, .ref (q 0)), (1, .int (nI j))]) (fun j => N - j) (fun j ls hI ih => ?_) (0) ⟨⟨by omega, fun i h => absurd h (Nat.not_lt_zero _)⟩, lv_sub hl [1, 0] rfl⟩
  obtain ⟨hj, hl⟩ := hI
  refine lv_iload_n hx hb dX0_firstAmbiguous_2 rfl (lv_at hl 1 rfl) ?_
  refine lv_aload_n hx hb dX0_firstAmbiguous_3 rfl (lv_at hl 0 rfl) ?_
  refine C0.get hF hX 5 (by decide) rfl rfl kf_RX0_59 dX0_firstAmbiguous_4 ?_
  refine lv_icmp_ge (tgt := 26) hx hb dX0_firstAmbiguous_7 (by decide) (fun c7 => ?_) (fun c7 => ?_)
  · have c7n : N ≤ j := (nI_leI (a := N) (b := j) (by omega) (by omega)).mp c7
    obtain rfl : j = N := by omega
    refine lv_iconst (v := (-1)) hx hb dX0_firstAmbiguous_26 (by decide) ?_
    exact W.iret hx hb hr (fun t ht hW => ⟨_, rfl, fam_no hj.2, ht⟩) (fun q hq => absurd hq List.not_mem_nil) dX0_firstAmbiguous_27
  · have c7n : ¬ N ≤ j := fun h9 => c7 ((nI_leI (a := N) (b := j) (by omega) (by omega)).mpr h9)
    refine lv_aload_n hx hb dX0_firstAmbiguous_10 rfl (lv_at hl 0 rfl) ?_
    refine lv_iload_n hx hb dX0_firstAmbiguous_11 rfl (lv_at hl 1 rfl) ?_
    refine cVi (As := [.int (nI j)]) (rest := []) hF (mX0_isAmbiguous hok hde j (by omega)) C0.mv hX (C0.rc hX) jyX0_isAmbiguous kl_RX0_139 ⟨rfl, rfl⟩ ⟨Nat.le_of_ble_eq_true rfl, Nat.le_of_ble_eq_true rfl⟩ rfl hl.1 rfl (Nat.le_of_ble_eq_true rfl) ⟨Nat.zero_le _, Nat.zero_le _⟩ dX0_firstAmbiguous_12 (fun r hr9 => ?_)
    subst hr9
    refine lv_if_eq (tgt := 20) hx hb dX0_firstAmbiguous_15 (by decide) (fun c15 => ?_) (fun c15 => ?_)
    · have c15b := b2i_f c15
      refine lv_iinc (v := (nI (j + 1))) (lv' := [(1, .int (nI (j + 1))), (0, .ref (q 0))]) hx hb dX0_firstAmbiguous_20 hl (k := 1) rfl (nI_1 _) (by decide) rfl (fun ls hl => ?_)
      refine lv_goto (tgt := 2) hx hb dX0_firstAmbiguous_23 (by decide) ?_
      exact ih (j + 1) ls (by omega) ⟨⟨by omega, lt_s1 hj.2 c15b⟩, by exact lv_sub hl [1, 0] rfl⟩
    · have c15b := b2i_t c15
      refine lv_iload_n hx hb dX0_firstAmbiguous_18 rfl (lv_at hl 1 rfl) ?_
      exact W.iret hx hb hr (fun t ht hW => ⟨_, rfl, fam_at hj.2 c15b (by omega), ht⟩) (fun q hq => absurd hq List.not_mem_nil) dX0_firstAmbiguous_19
set_option maxHeartbeats 4000000 in
set_option maxRecDepth 100000 in
theorem mX0_mostAmbiguous (hok : Ok N st v) (hde : Der N st v w) : Met l yX0_mostAmbiguous (wm yX0_mostAmbiguous cX0_mostAmbiguous 5 (some .int)) ({ frames := 4, cells := 0, slots := 0, locals := 89 } : Room) (va_Pc [.ref (q 0)] (fun U => C0 D cyI cyZ q (nI N) st v mk w U U.heap)) (vp_Si (fun r => r = optI (mst v st mk N))) 0 0 (fun _ => False) := by
  refine mt (by decide) (Nat.le_of_ble_eq_true rfl) ?_
  intro p ev s m below meth c ls hF hr hlocks hnm hX hl
  have hF : CallFix p m c cX0_mostAmbiguous 5 s _ wA RX0 := hF
  obtain ⟨hx, hb, hml, hown, hts⟩ := id hF
  have hX : C0 D cyI cyZ q (nI N) st v mk w s s.heap := hX
  have hl : lv_has ls 5 [(0, .ref (q 0))] := hl
  have hN := hok.1
  refine lv_iconst (v := (-1)) hx hb dX0_mostAmbiguous_0 (by decide) ?_
  refine lv_istore_n (lv' := [(1, .int (-1)), (0, .ref (q 0))]) hx hb dX0_mostAmbiguous_1 rfl hl (by decide) rfl (fun ls hl => ?_)
  refine lv_iconst (v := 1) hx hb dX0_mostAmbiguous_2 (by decide) ?_
  refine lv_istore_n (lv' := [(2, .int 1), (1, .int (-1)), (0, .ref (q 0))]) hx hb dX0_mostAmbiguous_3 rfl hl (by decide) rfl (fun ls hl => ?_)
  refine lv_iconst (v := 0) hx hb dX0_mostAmbiguous_4 (by decide) ?_
  refine lv_istore_n (lv' := [(3, .int 0), (2, .int 1), (1, .int (-1)), (0, .ref (q 0))]) hx hb dX0_mostAmbiguous_5 rfl hl (by decide) rfl (fun ls hl => ?_)
  refine lpW (σ := Nat) (fun j ls => (j ≤ N) ∧ lv_has ls 5 [(0, .ref (q 0)), (1, .int (optI (mst v st mk j))), (2, .int (optR v st (mst v st mk j))), (3, .int (nI j))]) (fun j => N - j) (fun j ls hI ih => ?_) (0) ⟨by omega, lv_sub hl [3, 2, 1, 0] rfl⟩
  obtain ⟨hj, hl⟩ := hI
  refine lv_iload_n hx hb dX0_mostAmbiguous_6 rfl (lv_at hl 3 rfl) ?_
  refine lv_aload_n hx hb dX0_mostAmbiguous_7 rfl (lv_at hl 0 rfl) ?_
  refine C0.get hF hX 5 (by decide) rfl rfl kf_RX0_59 dX0_mostAmbiguous_8 ?_
  refine lv_icmp_ge (tgt := 47) hx hb dX0_mostAmbiguous_11 (by decide) (fun c11 => ?_) (fun c11 => ?_)
  · have c11n : N ≤ j := (nI_leI (a := N) (b := j) (by omega) (by omega)).mp c11
    obtain rfl : j = N := by omega
    refine lv_iload_n hx hb dX0_mostAmbiguous_47 rfl (lv_at hl 1 rfl) ?_
    exact W.iret hx hb hr (fun t ht hW => ⟨_, rfl, rfl, ht⟩) (fun q hq => absurd hq List.not_mem_nil) dX0_mostAmbiguous_48
  · have c11n : ¬ N ≤ j := fun h9 => c11 ((nI_leI (a := N) (b := j) (by omega) (by omega)).mpr h9)
    refine lv_aload_n hx hb dX0_mostAmbiguous_14 rfl (lv_at hl 0 rfl) ?_
    refine lv_iload_n hx hb dX0_mostAmbiguous_15 rfl (lv_at hl 3 rfl) ?_
    refine cVi (As := [.int (nI j)]) (rest := []) hF (mX0_readings hok hde j (by omega)) C0.mv hX (C0.rc hX) jyX0_readings kl_RX0_136 ⟨rfl, rfl⟩ ⟨Nat.le_of_ble_eq_true rfl, Nat.le_of_ble_eq_true rfl⟩ rfl hl.1 rfl (Nat.le_of_ble_eq_true rfl) ⟨Nat.zero_le _, Nat.zero_le _⟩ dX0_mostAmbiguous_16 (fun r hr9 => ?_)
    subst hr9
    refine lv_istore (lv' := [(4, .int (rdn v st j)), (0, .ref (q 0)), (1, .int (optI (mst v st mk j))), (2, .int (optR v st (mst v st mk j))), (3, .int (nI j))]) hx hb dX0_mostAmbiguous_19 hl (by decide) rfl (fun ls hl => ?_)
    refine lv_aload_n hx hb dX0_mostAmbiguous_21 rfl (lv_at hl 1 rfl) ?_
    refine C0.get hF hX 3 (by decide) rfl rfl kf_RX0_19 dX0_mostAmbiguous_22 ?_
    refine lv_iload_n hx hb dX0_mostAmbiguous_25 rfl (lv_at hl 4 rfl) ?_
    refine aldZ hF hX.2.1 hX.1 4 1 rfl rfl j (by omega) (by decide) rfl dX0_mostAmbiguous_26 ?_
    refine lv_if_ne (tgt := 41) hx hb dX0_mostAmbiguous_27 (by decide) (fun c27 => ?_) (fun c27 => ?_)
    · have c27b := b2i_t c27
      refine lv_iinc (v := (nI (j + 1))) (lv' := [(3, .int (nI (j + 1))), (4, .int (rdn v st j)), (0, .ref (q 0)), (1, .int (optI (mst v st mk j))), (2, .int (optR v st (mst v st mk j)))]) hx hb dX0_mostAmbiguous_41 hl (k := 4) rfl (nI_1 _) (by decide) rfl (fun ls hl => ?_)
      refine lv_goto (tgt := 6) hx hb dX0_mostAmbiguous_44 (by decide) ?_
      exact ih (j + 1) ls (by omega) ⟨by omega, by rw [mst_f (fun h9 => by have h8 := h9.1; rw [c27b] at h8; cases h8)]; exact lv_sub hl [2, 3, 4, 0] rfl⟩
    · have c27b := b2i_f c27
      refine lv_iload hx hb dX0_mostAmbiguous_30 (lv_at hl 0 rfl) ?_
      refine lv_iload_n hx hb dX0_mostAmbiguous_32 rfl (lv_at hl 3 rfl) ?_
      refine lv_icmp_le (tgt := 41) hx hb dX0_mostAmbiguous_33 (by decide) (fun c33 => ?_) (fun c33 => ?_)
      · refine lv_iinc (v := (nI (j + 1))) (lv' := [(3, .int (nI (j + 1))), (4, .int (rdn v st j)), (0, .ref (q 0)), (1, .int (optI (mst v st mk j))), (2, .int (optR v st (mst v st mk j)))]) hx hb dX0_mostAmbiguous_41 hl (k := 4) rfl (nI_1 _) (by decide) rfl (fun ls hl => ?_)
        refine lv_goto (tgt := 6) hx hb dX0_mostAmbiguous_44 (by decide) ?_
        exact ih (j + 1) ls (by omega) ⟨by omega, by rw [mst_f (fun h9 => Int32.not_lt.mpr c33 h9.2)]; exact lv_sub hl [2, 3, 4, 0] rfl⟩
      · refine lv_iload hx hb dX0_mostAmbiguous_36 (lv_at hl 0 rfl) ?_
        refine lv_istore_n (lv' := [(2, .int (rdn v st j)), (4, .int (rdn v st j)), (0, .ref (q 0)), (1, .int (optI (mst v st mk j))), (3, .int (nI j))]) hx hb dX0_mostAmbiguous_38 rfl hl (by decide) rfl (fun ls hl => ?_)
        refine lv_iload_n hx hb dX0_mostAmbiguous_39 rfl (lv_at hl 4 rfl) ?_
        refine lv_istore_n (lv' := [(1, .int (nI j)), (2, .int (rdn v st j)), (4, .int (rdn v st j)), (0, .ref (q 0)), (3, .int (nI j))]) hx hb dX0_mostAmbiguous_40 rfl hl (by decide) rfl (fun ls hl => ?_)
        refine lv_iinc (v := (nI (j + 1))) (lv' := [(3, .int (nI (j + 1))), (1, .int (nI j)), (2, .int (rdn v st j)), (4, .int (rdn v st j)), (0, .ref (q 0))]) hx hb dX0_mostAmbiguous_41 hl (k := 4) rfl (nI_1 _) (by decide) rfl (fun ls hl => ?_)
        refine lv_goto (tgt := 6) hx hb dX0_mostAmbiguous_44 (by decide) ?_
        exact ih (j + 1) ls (by omega) ⟨by omega, by rw [mst_t c27b (Int32.not_le.mp c33)]; exact lv_sub hl [4, 1, 2, 0] rfl⟩
set_option maxHeartbeats 4000000 in
set_option maxRecDepth 100000 in
theorem mX0_wordIf (a j : Nat) (x : Int32) (ha : a < 10) (hj : j < 10) : Met l yX0_wordIf (wm yX0_wordIf cX0_wordIf 4 (some .int)) ({ frames := 0, cells := 0, slots := 0, locals := 0 } : Room) (va_Pc [.ref (q 0), .int (nI a), .int (nI j), .int x] (fun U => C0 D cyI cyZ q n st v mk w U U.heap)) (vp_Si (fun r => r = upd (v 3) j x a)) 0 0 (fun _ => False) := by
  refine mt (by decide) (Nat.le_of_ble_eq_true rfl) ?_
  intro p ev s m below meth c ls hF hr hlocks hnm hX hl
  have hF : CallFix p m c cX0_wordIf 4 s _ wA RX0 := hF
  obtain ⟨hx, hb, hml, hown, hts⟩ := id hF
  have hX : C0 D cyI cyZ q n st v mk w s s.heap := hX
  have hl : lv_has ls 4 [(0, .ref (q 0)), (1, .int (nI a)), (2, .int (nI j)), (3, .int x)] := hl
  refine lv_iload_n hx hb dX0_wordIf_0 rfl (lv_at hl 1 rfl) ?_
  refine lv_iload_n hx hb dX0_wordIf_1 rfl (lv_at hl 2 rfl) ?_
  refine lv_icmp_ne (tgt := 9) hx hb dX0_wordIf_2 (by decide) (fun c2 => ?_) (fun c2 => ?_)
  · have c2n : ¬ a = j := fun h9 => c2 ((nI_eq (a := a) (b := j) (by omega) (by omega)).mpr h9)
    refine lv_aload_n hx hb dX0_wordIf_9 rfl (lv_at hl 0 rfl) ?_
    refine C0.get hF hX 4 (by decide) rfl rfl kf_RX0_23 dX0_wordIf_10 ?_
    refine lv_iload_n hx hb dX0_wordIf_13 rfl (lv_at hl 1 rfl) ?_
    refine aldI hF hX.2.1 hX.1 5 0 rfl rfl a (by omega) (by decide) rfl dX0_wordIf_14 ?_
    exact W.iret hx hb hr (fun t ht hW => ⟨_, rfl, (upd_n c2n), ht⟩) (fun q hq => absurd hq List.not_mem_nil) dX0_wordIf_15
  · have c2n : a = j := (nI_eq (a := a) (b := j) (by omega) (by omega)).mp c2
    refine lv_iload_n hx hb dX0_wordIf_5 rfl (lv_at hl 3 rfl) ?_
    refine lv_goto (tgt := 15) hx hb dX0_wordIf_6 (by decide) ?_
    exact W.iret hx hb hr (fun t ht hW => ⟨_, rfl, (upd_s c2n), ht⟩) (fun q hq => absurd hq List.not_mem_nil) dX0_wordIf_15
set_option maxHeartbeats 4000000 in
set_option maxRecDepth 100000 in
theorem mX0_sharesWordIf (a j : Nat) (x : Int32) (ha : a < 10) (hj10 : j < 10) : Met l yX0_sharesWordIf (wm yX0_sharesWordIf cX0_sharesWordIf 6 (some .boolean)) ({ frames := 1, cells := 0, slots := 0, locals := 23 } : Room) (va_Pc [.ref (q 0), .int (nI a), .int (nI j), .int x] (fun U => C0 D cyI cyZ q n st v mk w U U.heap)) (vp_Si (fun r => r = b2i (exB (shE (upd (v 3) j x) a) 10))) 0 0 (fun _ => False) := by
  refine mt (by decide) (Nat.le_of_ble_eq_true rfl) ?_
  intro p ev s m below meth c ls hF hr hlocks hnm hX hl
  have hF : CallFix p m c cX0_sharesWordIf 6 s _ wA RX0 := hF
  obtain ⟨hx, hb, hml, hown, hts⟩ := id hF
  have hX : C0 D cyI cyZ q n st v mk w s s.heap := hX
  have hl : lv_has ls 6 [(0, .ref (q 0)), (1, .int (nI a)), (2, .int (nI j)), (3, .int x)] := hl
  refine lv_aload_n hx hb dX0_sharesWordIf_0 rfl (lv_at hl 0 rfl) ?_
  refine lv_iload_n hx hb dX0_sharesWordIf_1 rfl (lv_at hl 1 rfl) ?_
  refine lv_iload_n hx hb dX0_sharesWordIf_2 rfl (lv_at hl 2 rfl) ?_
  refine lv_iload_n hx hb dX0_sharesWordIf_3 rfl (lv_at hl 3 rfl) ?_
  refine cVi (As := [.int (nI a), .int (nI j), .int x]) (rest := []) hF (mX0_wordIf a j x (by omega) (by omega)) C0.mv hX (C0.rc hX) jyX0_wordIf kl_RX0_234 ⟨rfl, rfl⟩ ⟨Nat.le_of_ble_eq_true rfl, Nat.le_of_ble_eq_true rfl⟩ rfl hl.1 rfl (Nat.le_of_ble_eq_true rfl) ⟨Nat.zero_le _, Nat.zero_le _⟩ dX0_sharesWordIf_4 (fun r hr9 => ?_)
  subst hr9
  refine lv_istore (lv' := [(4, .int (upd (v 3) j x a)), (0, .ref (q 0)), (1, .int (nI a)), (2, .int (nI j)), (3, .int x)]) hx hb dX0_sharesWordIf_7 hl (by decide) rfl (fun ls hl => ?_)
  refine lv_iconst (v := 0) hx hb dX0_sharesWordIf_9 (by decide) ?_
  refine lv_istore (lv' := [(5, .int 0), (4, .int (upd (v 3) j x a)), (0, .ref (q 0)), (1, .int (nI a)), (2, .int (nI j)), (3, .int x)]) hx hb dX0_sharesWordIf_10 hl (by decide) rfl (fun ls hl => ?_)
  refine lpW (σ := Nat) (fun o ls => (o ≤ 10 ∧ exB (shE (upd (v 3) j x) a) o = false) ∧ lv_has ls 6 [(0, .ref (q 0)), (1, .int (nI a)), (2, .int (nI j)), (3, .int x), (4, .int (upd (v 3) j x a)), (5, .int (nI o))]) (fun o => 10 - o) (fun o ls hI ih => ?_) (0) ⟨⟨by omega, rfl⟩, lv_sub hl [2, 3, 4, 5, 1, 0] rfl⟩
  obtain ⟨hj, hl⟩ := hI
  refine lv_iload hx hb dX0_sharesWordIf_12 (lv_at hl 5 rfl) ?_
  refine lv_bipush (v := 10) hx hb dX0_sharesWordIf_14 (by decide) ?_
  refine lv_icmp_ge (tgt := 46) hx hb dX0_sharesWordIf_16 (by decide) (fun c16 => ?_) (fun c16 => ?_)
  · have c16n : 10 ≤ o := (nI_leI (a := 10) (b := o) (by omega) (by omega)).mp c16
    obtain rfl : o = 10 := by omega
    refine lv_iconst (v := 0) hx hb dX0_sharesWordIf_46 (by decide) ?_
    exact W.zret hx hb hr rfl (fun t ht hW => ⟨_, rfl, b2i_0 hj.2, ht⟩) (fun q hq => absurd hq List.not_mem_nil) dX0_sharesWordIf_47
  · have c16n : ¬ 10 ≤ o := fun h9 => c16 ((nI_leI (a := 10) (b := o) (by omega) (by omega)).mpr h9)
    refine lv_iload hx hb dX0_sharesWordIf_19 (lv_at hl 5 rfl) ?_
    refine lv_iload_n hx hb dX0_sharesWordIf_21 rfl (lv_at hl 1 rfl) ?_
    refine lv_icmp_eq (tgt := 40) hx hb dX0_sharesWordIf_22 (by decide) (fun c22 => ?_) (fun c22 => ?_)
    · have c22n : o = a := (nI_eq (a := o) (b := a) (by omega) (by omega)).mp c22
      refine lv_iinc (v := (nI (o + 1))) (lv' := [(5, .int (nI (o + 1))), (0, .ref (q 0)), (1, .int (nI a)), (2, .int (nI j)), (3, .int x), (4, .int (upd (v 3) j x a))]) hx hb dX0_sharesWordIf_40 hl (k := 5) rfl (nI_1 _) (by decide) rfl (fun ls hl => ?_)
      refine lv_goto (tgt := 12) hx hb dX0_sharesWordIf_43 (by decide) ?_
      exact ih (o + 1) ls (by omega) ⟨⟨by omega, exB_f hj.2 (by first | exact shE_a c22n | exact shE_w c35)⟩, by exact lv_sub hl [1, 2, 3, 4, 5, 0] rfl⟩
    · have c22n : ¬ o = a := fun h9 => c22 ((nI_eq (a := o) (b := a) (by omega) (by omega)).mpr h9)
      refine lv_aload_n hx hb dX0_sharesWordIf_25 rfl (lv_at hl 0 rfl) ?_
      refine lv_iload hx hb dX0_sharesWordIf_26 (lv_at hl 5 rfl) ?_
      refine lv_iload_n hx hb dX0_sharesWordIf_28 rfl (lv_at hl 2 rfl) ?_
      refine lv_iload_n hx hb dX0_sharesWordIf_29 rfl (lv_at hl 3 rfl) ?_
      refine cVi (As := [.int (nI o), .int (nI j), .int x]) (rest := []) hF (mX0_wordIf o j x (by omega) (by omega)) C0.mv hX (C0.rc hX) jyX0_wordIf kl_RX0_234 ⟨rfl, rfl⟩ ⟨Nat.le_of_ble_eq_true rfl, Nat.le_of_ble_eq_true rfl⟩ rfl hl.1 rfl (Nat.le_of_ble_eq_true rfl) ⟨Nat.zero_le _, Nat.zero_le _⟩ dX0_sharesWordIf_30 (fun r hr9 => ?_)
      subst hr9
      refine lv_iload hx hb dX0_sharesWordIf_33 (lv_at hl 4 rfl) ?_
      refine lv_icmp_ne (tgt := 40) hx hb dX0_sharesWordIf_35 (by decide) (fun c35 => ?_) (fun c35 => ?_)
      · refine lv_iinc (v := (nI (o + 1))) (lv' := [(5, .int (nI (o + 1))), (0, .ref (q 0)), (1, .int (nI a)), (2, .int (nI j)), (3, .int x), (4, .int (upd (v 3) j x a))]) hx hb dX0_sharesWordIf_40 hl (k := 5) rfl (nI_1 _) (by decide) rfl (fun ls hl => ?_)
        refine lv_goto (tgt := 12) hx hb dX0_sharesWordIf_43 (by decide) ?_
        exact ih (o + 1) ls (by omega) ⟨⟨by omega, exB_f hj.2 (by first | exact shE_a c22n | exact shE_w c35)⟩, by exact lv_sub hl [1, 2, 3, 4, 5, 0] rfl⟩
      · refine lv_iconst (v := 1) hx hb dX0_sharesWordIf_38 (by decide) ?_
        exact W.zret hx hb hr rfl (fun t ht hW => ⟨_, rfl, b2i_1 (exB_in (i := o) (by omega) (shE_t c22n c35)), ht⟩) (fun q hq => absurd hq List.not_mem_nil) dX0_sharesWordIf_39
set_option maxHeartbeats 4000000 in
set_option maxRecDepth 100000 in
theorem mX0_unmendedWith (hok : Ok N st v) (by1 : Int32) (hby : ∃ s : Nat, s < 4 ∧ by1 = nI (s + 1)) (i : Nat) (x : Int32) (hi : i < 10) : Met l yX0_unmendedWith (wm yX0_unmendedWith cX0_unmendedWith 9 (some .int)) ({ frames := 3, cells := 0, slots := 0, locals := 67 } : Room) (va_Pc [.ref (q 0), .int by1, .int (nI i), .int x] (fun U => C0 D cyI cyZ q (nI N) st v mk w U U.heap)) (vp_Si (fun r => r = unm v (upd (v 3) i x) by1 N)) 0 0 (fun _ => False) := by
  refine mt (by decide) (Nat.le_of_ble_eq_true rfl) ?_
  intro p ev s m below meth c ls hF hr hlocks hnm hX hl
  have hF : CallFix p m c cX0_unmendedWith 9 s _ wA RX0 := hF
  obtain ⟨hx, hb, hml, hown, hts⟩ := id hF
  have hX : C0 D cyI cyZ q (nI N) st v mk w s s.heap := hX
  have hl : lv_has ls 9 [(0, .ref (q 0)), (1, .int by1), (2, .int (nI i)), (3, .int x)] := hl
  have hN := hok.1
  refine lv_iconst (v := 0) hx hb dX0_unmendedWith_0 (by decide) ?_
  refine lv_istore (lv' := [(4, .int 0), (0, .ref (q 0)), (1, .int by1), (2, .int (nI i)), (3, .int x)]) hx hb dX0_unmendedWith_1 hl (by decide) rfl (fun ls hl => ?_)
  refine lv_bipush (v := 12) hx hb dX0_unmendedWith_3 (by decide) ?_
  refine lv_istore (lv' := [(5, .int 12), (4, .int 0), (0, .ref (q 0)), (1, .int by1), (2, .int (nI i)), (3, .int x)]) hx hb dX0_unmendedWith_5 hl (by decide) rfl (fun ls hl => ?_)
  refine lv_iconst (v := 0) hx hb dX0_unmendedWith_7 (by decide) ?_
  refine lv_istore (lv' := [(6, .int 0), (5, .int 12), (4, .int 0), (0, .ref (q 0)), (1, .int by1), (2, .int (nI i)), (3, .int x)]) hx hb dX0_unmendedWith_8 hl (by decide) rfl (fun ls hl => ?_)
  refine lpW (σ := Nat) (fun k ls => (k ≤ N) ∧ lv_has ls 9 [(0, .ref (q 0)), (1, .int by1), (2, .int (nI i)), (3, .int x), (4, .int (ctB (umP v (upd (v 3) i x) by1) k)), (5, .int (nt (v 0) by1 k)), (6, .int (nI k))]) (fun k => N - k) (fun k ls hI ih => ?_) (0) ⟨by omega, lv_sub hl [3, 4, 5, 6, 2, 1, 0] rfl⟩
  obtain ⟨hj, hl⟩ := hI
  refine lv_iload hx hb dX0_unmendedWith_10 (lv_at hl 6 rfl) ?_
  refine lv_aload_n hx hb dX0_unmendedWith_12 rfl (lv_at hl 0 rfl) ?_
  refine C0.get hF hX 5 (by decide) rfl rfl kf_RX0_59 dX0_unmendedWith_13 ?_
  refine lv_icmp_ge (tgt := 89) hx hb dX0_unmendedWith_16 (by decide) (fun c16 => ?_) (fun c16 => ?_)
  · have c16n : N ≤ k := (nI_leI (a := N) (b := k) (by omega) (by omega)).mp c16
    obtain rfl : k = N := by omega
    refine lv_iload hx hb dX0_unmendedWith_89 (lv_at hl 4 rfl) ?_
    exact W.iret hx hb hr (fun t ht hW => ⟨_, rfl, rfl, ht⟩) (fun q hq => absurd hq List.not_mem_nil) dX0_unmendedWith_91
  · have c16n : ¬ N ≤ k := fun h9 => c16 ((nI_leI (a := N) (b := k) (by omega) (by omega)).mpr h9)
    refine lv_iload hx hb dX0_unmendedWith_19 (lv_at hl 5 rfl) ?_
    refine lv_aload_n hx hb dX0_unmendedWith_21 rfl (lv_at hl 0 rfl) ?_
    refine C0.get hF hX 0 (by decide) rfl rfl kf_RX0_9 dX0_unmendedWith_22 ?_
    refine lv_iload hx hb dX0_unmendedWith_25 (lv_at hl 6 rfl) ?_
    refine aldI hF hX.2.1 hX.1 1 0 rfl rfl k (by omega) (by decide) rfl dX0_unmendedWith_27 ?_
    refine lv_iload_n hx hb dX0_unmendedWith_28 rfl (lv_at hl 1 rfl) ?_
    refine lv_imul hx hb dX0_unmendedWith_29 ?_
    refine cSi (As := [.int (nt (v 0) by1 k), .int ((v 0 k) * by1)]) (rest := []) hF (mX0_noteBehind (nt (v 0) by1 k) ((v 0 k) * by1)) Mv.const trivial jyX0_noteBehind kl_RX0_227 ⟨rfl, rfl⟩ ⟨Nat.le_of_ble_eq_true rfl, Nat.le_of_ble_eq_true rfl⟩ rfl hl.1 rfl (Nat.le_of_ble_eq_true rfl) ⟨Nat.zero_le _, Nat.zero_le _⟩ dX0_unmendedWith_30 (fun r hr9 => ?_)
    subst hr9
    refine lv_istore (lv' := [(7, .int (nb (nt (v 0) by1 k) ((v 0 k) * by1))), (0, .ref (q 0)), (1, .int by1), (2, .int (nI i)), (3, .int x), (4, .int (ctB (umP v (upd (v 3) i x) by1) k)), (5, .int (nt (v 0) by1 k)), (6, .int (nI k))]) hx hb dX0_unmendedWith_33 hl (by decide) rfl (fun ls hl => ?_)
    refine lv_iload hx hb dX0_unmendedWith_35 (lv_at hl 0 rfl) ?_
    refine lv_iload hx hb dX0_unmendedWith_37 (lv_at hl 6 rfl) ?_
    refine lv_iload_n hx hb dX0_unmendedWith_39 rfl (lv_at hl 2 rfl) ?_
    refine lv_iconst (v := (nI 7 - 3)) hx hb dX0_unmendedWith_40 (by decide) ?_
    refine cSi (As := [.int (nb (nt (v 0) by1 k) ((v 0 k) * by1)), .int (nt (v 0) by1 k), .int by1, .int (nI 7 - 3)]) (rest := []) hF (mX0_turnsSungAs (nb (nt (v 0) by1 k) ((v 0 k) * by1)) (nt (v 0) by1 k) 7 (by omega)) Mv.const trivial jyX0_turnsSungAs kl_RX0_129 ⟨rfl, rfl⟩ ⟨Nat.le_of_ble_eq_true rfl, Nat.le_of_ble_eq_true rfl⟩ rfl hl.1 rfl (Nat.le_of_ble_eq_true rfl) ⟨Nat.zero_le _, Nat.zero_le _⟩ dX0_unmendedWith_41 (fun r hr9 => ?_)
    subst hr9
    refine lv_iconst (v := 1) hx hb dX0_unmendedWith_44 (by decide) ?_
    refine lv_icmp_le (tgt := 52) hx hb dX0_unmendedWith_45 (by decide) (fun c45 => ?_) (fun c45 => ?_)
    · refine lv_iconst (v := 0) hx hb dX0_unmendedWith_52 (by decide) ?_
      refine lv_istore (lv' := [(8, .int 0), (7, .int (nb (nt (v 0) by1 k) ((v 0 k) * by1))), (0, .ref (q 0)), (1, .int by1), (2, .int (nI i)), (3, .int x), (4, .int (ctB (umP v (upd (v 3) i x) by1) k)), (5, .int (nt (v 0) by1 k)), (6, .int (nI k))]) hx hb dX0_unmendedWith_53 hl (by decide) rfl (fun ls hl => ?_)
      refine lv_iload hx hb dX0_unmendedWith_55 (lv_at hl 0 rfl) ?_
      refine lv_if_ne (tgt := 76) hx hb dX0_unmendedWith_57 (by decide) (fun c57 => ?_) (fun c57 => ?_)
      · exact absurd rfl c57
      · refine lv_aload_n hx hb dX0_unmendedWith_60 rfl (lv_at hl 2 rfl) ?_
        refine lv_aload_n hx hb dX0_unmendedWith_61 rfl (lv_at hl 2 rfl) ?_
        refine C0.get hF hX 2 (by decide) rfl rfl kf_RX0_16 dX0_unmendedWith_62 ?_
        refine lv_iload hx hb dX0_unmendedWith_65 (lv_at hl 8 rfl) ?_
        refine aldI hF hX.2.1 hX.1 3 0 rfl rfl k (by omega) (by decide) rfl dX0_unmendedWith_67 ?_
        refine topI (show (v 2 k) = nI (ix (v 2 k)) from okM hok k) ?_
        refine lv_iload_n hx hb dX0_unmendedWith_68 rfl (lv_at hl 4 rfl) ?_
        refine lv_iload_n hx hb dX0_unmendedWith_69 rfl (lv_at hl 5 rfl) ?_
        refine cVi (As := [.int (nI (ix (v 2 k))), .int (nI i), .int x]) (rest := []) hF (mX0_sharesWordIf (ix (v 2 k)) i x (okM10 hok k) (by omega)) C0.mv hX (C0.rc hX) jyX0_sharesWordIf kl_RX0_230 ⟨rfl, rfl⟩ ⟨Nat.le_of_ble_eq_true rfl, Nat.le_of_ble_eq_true rfl⟩ rfl hl.1 rfl (Nat.le_of_ble_eq_true rfl) ⟨Nat.zero_le _, Nat.zero_le _⟩ dX0_unmendedWith_70 (fun r hr9 => ?_)
        subst hr9
        refine lv_if_eq (tgt := 79) hx hb dX0_unmendedWith_73 (by decide) (fun c73 => ?_) (fun c73 => ?_)
        · have c73b := b2i_f c73
          refine lv_iload hx hb dX0_unmendedWith_79 (lv_at hl 1 rfl) ?_
          refine lv_istore (lv' := [(5, .int (nb (nt (v 0) by1 k) ((v 0 k) * by1))), (8, .int 0), (7, .int (nb (nt (v 0) by1 k) ((v 0 k) * by1))), (0, .ref (q 0)), (1, .int by1), (2, .int (nI i)), (3, .int x), (4, .int (ctB (umP v (upd (v 3) i x) by1) k)), (6, .int (nI k))]) hx hb dX0_unmendedWith_81 hl (by decide) rfl (fun ls hl => ?_)
          refine lv_iinc (v := (nI (k + 1))) (lv' := [(6, .int (nI (k + 1))), (5, .int (nb (nt (v 0) by1 k) ((v 0 k) * by1))), (8, .int 0), (7, .int (nb (nt (v 0) by1 k) ((v 0 k) * by1))), (0, .ref (q 0)), (1, .int by1), (2, .int (nI i)), (3, .int x), (4, .int (ctB (umP v (upd (v 3) i x) by1) k))]) hx hb dX0_unmendedWith_83 hl (k := 8) rfl (nI_1 _) (by decide) rfl (fun ls hl => ?_)
          refine lv_goto (tgt := 10) hx hb dX0_unmendedWith_86 (by decide) ?_
          exact ih (k + 1) ls (by omega) ⟨by omega, by rw [ctB_f (um_f hok hby c45 c73b)]; exact lv_sub hl [4, 5, 6, 7, 8, 1, 0] rfl⟩
        · have c73b := b2i_t c73
          refine lv_iinc (v := ((ctB (umP v (upd (v 3) i x) by1) k) + 1)) (lv' := [(4, .int ((ctB (umP v (upd (v 3) i x) by1) k) + 1)), (8, .int 0), (7, .int (nb (nt (v 0) by1 k) ((v 0 k) * by1))), (0, .ref (q 0)), (1, .int by1), (2, .int (nI i)), (3, .int x), (5, .int (nt (v 0) by1 k)), (6, .int (nI k))]) hx hb dX0_unmendedWith_76 hl (k := 6) rfl (rfl) (by decide) rfl (fun ls hl => ?_)
          refine lv_iload hx hb dX0_unmendedWith_79 (lv_at hl 2 rfl) ?_
          refine lv_istore (lv' := [(5, .int (nb (nt (v 0) by1 k) ((v 0 k) * by1))), (4, .int ((ctB (umP v (upd (v 3) i x) by1) k) + 1)), (8, .int 0), (7, .int (nb (nt (v 0) by1 k) ((v 0 k) * by1))), (0, .ref (q 0)), (1, .int by1), (2, .int (nI i)), (3, .int x), (6, .int (nI k))]) hx hb dX0_unmendedWith_81 hl (by decide) rfl (fun ls hl => ?_)
          refine lv_iinc (v := (nI (k + 1))) (lv' := [(6, .int (nI (k + 1))), (5, .int (nb (nt (v 0) by1 k) ((v 0 k) * by1))), (4, .int ((ctB (umP v (upd (v 3) i x) by1) k) + 1)), (8, .int 0), (7, .int (nb (nt (v 0) by1 k) ((v 0 k) * by1))), (0, .ref (q 0)), (1, .int by1), (2, .int (nI i)), (3, .int x)]) hx hb dX0_unmendedWith_83 hl (k := 8) rfl (nI_1 _) (by decide) rfl (fun ls hl => ?_)
          refine lv_goto (tgt := 10) hx hb dX0_unmendedWith_86 (by decide) ?_
          exact ih (k + 1) ls (by omega) ⟨by omega, by rw [ctB_t (um_t2 hok c73b)]; exact lv_sub hl [5, 6, 7, 8, 2, 1, 0] rfl⟩
    · refine lv_iconst (v := 1) hx hb dX0_unmendedWith_48 (by decide) ?_
      refine lv_goto (tgt := 53) hx hb dX0_unmendedWith_49 (by decide) ?_
      refine lv_istore (lv' := [(8, .int 1), (7, .int (nb (nt (v 0) by1 k) ((v 0 k) * by1))), (0, .ref (q 0)), (1, .int by1), (2, .int (nI i)), (3, .int x), (4, .int (ctB (umP v (upd (v 3) i x) by1) k)), (5, .int (nt (v 0) by1 k)), (6, .int (nI k))]) hx hb dX0_unmendedWith_53 hl (by decide) rfl (fun ls hl => ?_)
      refine lv_iload hx hb dX0_unmendedWith_55 (lv_at hl 0 rfl) ?_
      refine lv_if_ne (tgt := 76) hx hb dX0_unmendedWith_57 (by decide) (fun c57 => ?_) (fun c57 => ?_)
      · 
        refine lv_iinc (v := ((ctB (umP v (upd (v 3) i x) by1) k) + 1)) (lv' := [(4, .int ((ctB (umP v (upd (v 3) i x) by1) k) + 1)), (8, .int 1), (7, .int (nb (nt (v 0) by1 k) ((v 0 k) * by1))), (0, .ref (q 0)), (1, .int by1), (2, .int (nI i)), (3, .int x), (5, .int (nt (v 0) by1 k)), (6, .int (nI k))]) hx hb dX0_unmendedWith_76 hl (k := 6) rfl (rfl) (by decide) rfl (fun ls hl => ?_)
        refine lv_iload hx hb dX0_unmendedWith_79 (lv_at hl 2 rfl) ?_
        refine lv_istore (lv' := [(5, .int (nb (nt (v 0) by1 k) ((v 0 k) * by1))), (4, .int ((ctB (umP v (upd (v 3) i x) by1) k) + 1)), (8, .int 1), (7, .int (nb (nt (v 0) by1 k) ((v 0 k) * by1))), (0, .ref (q 0)), (1, .int by1), (2, .int (nI i)), (3, .int x), (6, .int (nI k))]) hx hb dX0_unmendedWith_81 hl (by decide) rfl (fun ls hl => ?_)
        refine lv_iinc (v := (nI (k + 1))) (lv' := [(6, .int (nI (k + 1))), (5, .int (nb (nt (v 0) by1 k) ((v 0 k) * by1))), (4, .int ((ctB (umP v (upd (v 3) i x) by1) k) + 1)), (8, .int 1), (7, .int (nb (nt (v 0) by1 k) ((v 0 k) * by1))), (0, .ref (q 0)), (1, .int by1), (2, .int (nI i)), (3, .int x)]) hx hb dX0_unmendedWith_83 hl (k := 8) rfl (nI_1 _) (by decide) rfl (fun ls hl => ?_)
        refine lv_goto (tgt := 10) hx hb dX0_unmendedWith_86 (by decide) ?_
        exact ih (k + 1) ls (by omega) ⟨by omega, by rw [ctB_t (um_t1 hok hby c45)]; exact lv_sub hl [5, 6, 7, 8, 2, 1, 0] rfl⟩
      · exact absurd c57 (by decide)
set_option maxHeartbeats 4000000 in
set_option maxRecDepth 100000 in
theorem mX0_ambiguousWith (hok : Ok N st v) (i x : Nat) (hi : i < 10) (hx10 : x < 10) : Met l yX0_ambiguousWith (wm yX0_ambiguousWith cX0_ambiguousWith 3 (some .int)) ({ frames := 4, cells := 0, slots := 0, locals := 95 } : Room) (va_Pc [.ref (q 0), .int (nI i), .int (nI x)] (fun U => C0 D cyI cyZ q (nI N) st v mk w U U.heap)) (vp_Si (fun r => r = unW v st N i (nI x))) 0 0 (fun _ => False) := by
  refine mt (by decide) (Nat.le_of_ble_eq_true rfl) ?_
  intro p ev s m below meth c ls hF hr hlocks hnm hX hl
  have hF : CallFix p m c cX0_ambiguousWith 3 s _ wA RX0 := hF
  obtain ⟨hx, hb, hml, hown, hts⟩ := id hF
  have hX : C0 D cyI cyZ q (nI N) st v mk w s s.heap := hX
  have hl : lv_has ls 3 [(0, .ref (q 0)), (1, .int (nI i)), (2, .int (nI x))] := hl
  have hN := hok.1
  refine lv_iload_n hx hb dX0_ambiguousWith_0 rfl (lv_at hl 1 rfl) ?_
  refine cSv (As := [.int (nI i)]) (rest := []) hF (mX0_checkLandmark i (by omega)) Mv.const trivial jyX0_checkLandmark kl_RX0_78 ⟨rfl, rfl⟩ ⟨Nat.le_of_ble_eq_true rfl, Nat.le_of_ble_eq_true rfl⟩ rfl hl.1 rfl (Nat.le_of_ble_eq_true rfl) ⟨Nat.zero_le _, Nat.zero_le _⟩ dX0_ambiguousWith_1 ?_
  refine lv_iload_n hx hb dX0_ambiguousWith_4 rfl (lv_at hl 2 rfl) ?_
  refine cSv (As := [.int (nI x)]) (rest := []) hF (mX0_checkWord x (by omega)) Mv.const trivial jyX0_checkWord kl_RX0_126 ⟨rfl, rfl⟩ ⟨Nat.le_of_ble_eq_true rfl, Nat.le_of_ble_eq_true rfl⟩ rfl hl.1 rfl (Nat.le_of_ble_eq_true rfl) ⟨Nat.zero_le _, Nat.zero_le _⟩ dX0_ambiguousWith_5 ?_
  refine lv_aload_n hx hb dX0_ambiguousWith_8 rfl (lv_at hl 0 rfl) ?_
  refine lv_aload_n hx hb dX0_ambiguousWith_9 rfl (lv_at hl 0 rfl) ?_
  refine C0.get hF hX 6 (by decide) rfl rfl kf_RX0_38 dX0_ambiguousWith_10 ?_
  refine lv_iload_n hx hb dX0_ambiguousWith_13 rfl (lv_at hl 1 rfl) ?_
  refine lv_iload_n hx hb dX0_ambiguousWith_14 rfl (lv_at hl 2 rfl) ?_
  refine cVi (As := [.int st, .int (nI i), .int (nI x)]) (rest := []) hF (mX0_unmendedWith hok st hok.2.1 i (nI x) (by omega)) C0.mv hX (C0.rc hX) jyX0_unmendedWith kl_RX0_162 ⟨rfl, rfl⟩ ⟨Nat.le_of_ble_eq_true rfl, Nat.le_of_ble_eq_true rfl⟩ rfl hl.1 rfl (Nat.le_of_ble_eq_true rfl) ⟨Nat.zero_le _, Nat.zero_le _⟩ dX0_ambiguousWith_15 (fun r hr9 => ?_)
  subst hr9
  exact W.iret hx hb hr (fun t ht hW => ⟨_, rfl, rfl, ht⟩) (fun q hq => absurd hq List.not_mem_nil) dX0_ambiguousWith_18
set_option maxHeartbeats 4000000 in
set_option maxRecDepth 100000 in
theorem mX0_bestWord (hok : Ok N st v) (i : Nat) (hi : i < 10) : Met l yX0_bestWord (wm yX0_bestWord cX0_bestWord 6 (some .int)) ({ frames := 4, cells := 0, slots := 0, locals := 95 } : Room) (va_Pc [.ref (q 0), .int (nI i)] (fun U => C0 D cyI cyZ q (nI N) st v mk w U U.heap)) (vp_Si (fun r => r = nI (bwd v st N i))) 0 0 (fun _ => False) := by
  refine mt (by decide) (Nat.le_of_ble_eq_true rfl) ?_
  intro p ev s m below meth c ls hF hr hlocks hnm hX hl
  have hF : CallFix p m c cX0_bestWord 6 s _ wA RX0 := hF
  obtain ⟨hx, hb, hml, hown, hts⟩ := id hF
  have hX : C0 D cyI cyZ q (nI N) st v mk w s s.heap := hX
  have hl : lv_has ls 6 [(0, .ref (q 0)), (1, .int (nI i))] := hl
  have hN := hok.1
  refine lv_iload_n hx hb dX0_bestWord_0 rfl (lv_at hl 1 rfl) ?_
  refine cSv (As := [.int (nI i)]) (rest := []) hF (mX0_checkLandmark i (by omega)) Mv.const trivial jyX0_checkLandmark kl_RX0_78 ⟨rfl, rfl⟩ ⟨Nat.le_of_ble_eq_true rfl, Nat.le_of_ble_eq_true rfl⟩ rfl hl.1 rfl (Nat.le_of_ble_eq_true rfl) ⟨Nat.zero_le _, Nat.zero_le _⟩ dX0_bestWord_1 ?_
  refine lv_iconst (v := (nI 0)) hx hb dX0_bestWord_4 (by decide) ?_
  refine lv_istore_n (lv' := [(2, .int (nI 0)), (0, .ref (q 0)), (1, .int (nI i))]) hx hb dX0_bestWord_5 rfl hl (by decide) rfl (fun ls hl => ?_)
  refine lv_aload_n hx hb dX0_bestWord_6 rfl (lv_at hl 1 rfl) ?_
  refine lv_aload_n hx hb dX0_bestWord_7 rfl (lv_at hl 1 rfl) ?_
  refine C0.get hF hX 6 (by decide) rfl rfl kf_RX0_38 dX0_bestWord_8 ?_
  refine lv_iload_n hx hb dX0_bestWord_11 rfl (lv_at hl 2 rfl) ?_
  refine lv_iconst (v := (nI 0)) hx hb dX0_bestWord_12 (by decide) ?_
  refine cVi (As := [.int st, .int (nI i), .int (nI 0)]) (rest := []) hF (mX0_unmendedWith hok st hok.2.1 i (nI 0) (by omega)) C0.mv hX (C0.rc hX) jyX0_unmendedWith kl_RX0_162 ⟨rfl, rfl⟩ ⟨Nat.le_of_ble_eq_true rfl, Nat.le_of_ble_eq_true rfl⟩ rfl hl.1 rfl (Nat.le_of_ble_eq_true rfl) ⟨Nat.zero_le _, Nat.zero_le _⟩ dX0_bestWord_13 (fun r hr9 => ?_)
  subst hr9
  refine lv_istore_n (lv' := [(3, .int (unm v (upd (v 3) i (nI 0)) st N)), (2, .int (nI 0)), (0, .ref (q 0)), (1, .int (nI i))]) hx hb dX0_bestWord_16 rfl hl (by decide) rfl (fun ls hl => ?_)
  refine lv_iconst (v := (nI 1)) hx hb dX0_bestWord_17 (by decide) ?_
  refine lv_istore (lv' := [(4, .int (nI 1)), (3, .int (unm v (upd (v 3) i (nI 0)) st N)), (2, .int (nI 0)), (0, .ref (q 0)), (1, .int (nI i))]) hx hb dX0_bestWord_18 hl (by decide) rfl (fun ls hl => ?_)
  refine lpW (σ := Nat) (fun j ls => (j ≤ 9) ∧ lv_has ls 6 [(0, .ref (q 0)), (1, .int (nI i)), (2, .int (nI (amin (fun x => unW v st N i (nI x)) j))), (3, .int (unW v st N i (nI (amin (fun x => unW v st N i (nI x)) j)))), (4, .int (nI (j + 1)))]) (fun j => 9 - j) (fun j ls hI ih => ?_) (0) ⟨by omega, lv_sub hl [3, 4, 2, 1, 0] rfl⟩
  obtain ⟨hj, hl⟩ := hI
  refine lv_iload hx hb dX0_bestWord_20 (lv_at hl 4 rfl) ?_
  refine lv_bipush (v := 10) hx hb dX0_bestWord_22 (by decide) ?_
  refine lv_icmp_ge (tgt := 58) hx hb dX0_bestWord_24 (by decide) (fun c24 => ?_) (fun c24 => ?_)
  · have c24n : 10 ≤ (j + 1) := (nI_leI (a := 10) (b := (j + 1)) (by omega) (by omega)).mp c24
    obtain rfl : j = 9 := by omega
    refine lv_iload_n hx hb dX0_bestWord_58 rfl (lv_at hl 2 rfl) ?_
    exact W.iret hx hb hr (fun t ht hW => ⟨_, rfl, rfl, ht⟩) (fun q hq => absurd hq List.not_mem_nil) dX0_bestWord_59
  · have c24n : ¬ 10 ≤ (j + 1) := fun h9 => c24 ((nI_leI (a := 10) (b := (j + 1)) (by omega) (by omega)).mpr h9)
    refine lv_aload_n hx hb dX0_bestWord_27 rfl (lv_at hl 0 rfl) ?_
    refine lv_aload_n hx hb dX0_bestWord_28 rfl (lv_at hl 0 rfl) ?_
    refine C0.get hF hX 6 (by decide) rfl rfl kf_RX0_38 dX0_bestWord_29 ?_
    refine lv_iload_n hx hb dX0_bestWord_32 rfl (lv_at hl 1 rfl) ?_
    refine lv_iload hx hb dX0_bestWord_33 (lv_at hl 4 rfl) ?_
    refine cVi (As := [.int st, .int (nI i), .int (nI (j + 1))]) (rest := []) hF (mX0_unmendedWith hok st hok.2.1 i (nI (j + 1)) (by omega)) C0.mv hX (C0.rc hX) jyX0_unmendedWith kl_RX0_162 ⟨rfl, rfl⟩ ⟨Nat.le_of_ble_eq_true rfl, Nat.le_of_ble_eq_true rfl⟩ rfl hl.1 rfl (Nat.le_of_ble_eq_true rfl) ⟨Nat.zero_le _, Nat.zero_le _⟩ dX0_bestWord_35 (fun r hr9 => ?_)
    subst hr9
    refine lv_istore (lv' := [(5, .int (unm v (upd (v 3) i (nI (j + 1))) st N)), (0, .ref (q 0)), (1, .int (nI i)), (2, .int (nI (amin (fun x => unW v st N i (nI x)) j))), (3, .int (unW v st N i (nI (amin (fun x => unW v st N i (nI x)) j)))), (4, .int (nI (j + 1)))]) hx hb dX0_bestWord_38 hl (by decide) rfl (fun ls hl => ?_)
    refine lv_iload hx hb dX0_bestWord_40 (lv_at hl 0 rfl) ?_
    refine lv_iload_n hx hb dX0_bestWord_42 rfl (lv_at hl 4 rfl) ?_
    refine lv_icmp_ge (tgt := 52) hx hb dX0_bestWord_43 (by decide) (fun c43 => ?_) (fun c43 => ?_)
    · refine lv_iinc (v := (nI (j + 1 + 1))) (lv' := [(4, .int (nI (j + 1 + 1))), (5, .int (unm v (upd (v 3) i (nI (j + 1))) st N)), (0, .ref (q 0)), (1, .int (nI i)), (2, .int (nI (amin (fun x => unW v st N i (nI x)) j))), (3, .int (unW v st N i (nI (amin (fun x => unW v st N i (nI x)) j))))]) hx hb dX0_bestWord_52 hl (k := 5) rfl (nI_1 _) (by decide) rfl (fun ls hl => ?_)
      refine lv_goto (tgt := 20) hx hb dX0_bestWord_55 (by decide) ?_
      exact ih (j + 1) ls (by omega) ⟨by omega, by rw [amin_f (f := (fun x => unW v st N i (nI x))) (k := j) (Int32.not_lt.mpr c43)]; exact lv_sub hl [2, 3, 4, 5, 0] rfl⟩
    · refine lv_iload hx hb dX0_bestWord_46 (lv_at hl 0 rfl) ?_
      refine lv_istore_n (lv' := [(3, .int (unm v (upd (v 3) i (nI (j + 1))) st N)), (5, .int (unm v (upd (v 3) i (nI (j + 1))) st N)), (0, .ref (q 0)), (1, .int (nI i)), (2, .int (nI (amin (fun x => unW v st N i (nI x)) j))), (4, .int (nI (j + 1)))]) hx hb dX0_bestWord_48 rfl hl (by decide) rfl (fun ls hl => ?_)
      refine lv_iload hx hb dX0_bestWord_49 (lv_at hl 5 rfl) ?_
      refine lv_istore_n (lv' := [(2, .int (nI (j + 1))), (3, .int (unm v (upd (v 3) i (nI (j + 1))) st N)), (5, .int (unm v (upd (v 3) i (nI (j + 1))) st N)), (0, .ref (q 0)), (1, .int (nI i)), (4, .int (nI (j + 1)))]) hx hb dX0_bestWord_51 rfl hl (by decide) rfl (fun ls hl => ?_)
      refine lv_iinc (v := (nI (j + 1 + 1))) (lv' := [(4, .int (nI (j + 1 + 1))), (2, .int (nI (j + 1))), (3, .int (unm v (upd (v 3) i (nI (j + 1))) st N)), (5, .int (unm v (upd (v 3) i (nI (j + 1))) st N)), (0, .ref (q 0)), (1, .int (nI i))]) hx hb dX0_bestWord_52 hl (k := 5) rfl (nI_1 _) (by decide) rfl (fun ls hl => ?_)
      refine lv_goto (tgt := 20) hx hb dX0_bestWord_55 (by decide) ?_
      exact ih (j + 1) ls (by omega) ⟨by omega, by rw [amin_t (f := (fun x => unW v st N i (nI x))) (k := j) (Int32.not_le.mp c43)]; exact lv_sub hl [4, 5, 1, 2, 0] rfl⟩
set_option maxHeartbeats 4000000 in
set_option maxRecDepth 100000 in
theorem mX0_bestStep (hok : Ok N st v) : Met l yX0_bestStep (wm yX0_bestStep cX0_bestStep 5 (some .int)) ({ frames := 4, cells := 0, slots := 0, locals := 95 } : Room) (va_Pc [.ref (q 0)] (fun U => C0 D cyI cyZ q (nI N) st v mk w U U.heap)) (vp_Si (fun r => r = nI (bst v N))) 0 0 (fun _ => False) := by
  refine mt (by decide) (Nat.le_of_ble_eq_true rfl) ?_
  intro p ev s m below meth c ls hF hr hlocks hnm hX hl
  have hF : CallFix p m c cX0_bestStep 5 s _ wA RX0 := hF
  obtain ⟨hx, hb, hml, hown, hts⟩ := id hF
  have hX : C0 D cyI cyZ q (nI N) st v mk w s s.heap := hX
  have hl : lv_has ls 5 [(0, .ref (q 0))] := hl
  have hN := hok.1
  refine lv_iconst (v := (nI (0 + 1))) hx hb dX0_bestStep_0 (by decide) ?_
  refine lv_istore_n (lv' := [(1, .int (nI (0 + 1))), (0, .ref (q 0))]) hx hb dX0_bestStep_1 rfl hl (by decide) rfl (fun ls hl => ?_)
  refine lv_aload_n hx hb dX0_bestStep_2 rfl (lv_at hl 1 rfl) ?_
  refine lv_iconst (v := (nI (0 + 1))) hx hb dX0_bestStep_3 (by decide) ?_
  refine lv_iconst (v := (nI 0)) hx hb dX0_bestStep_4 (by decide) ?_
  refine lv_aload_n hx hb dX0_bestStep_5 rfl (lv_at hl 1 rfl) ?_
  refine C0.get hF hX 4 (by decide) rfl rfl kf_RX0_23 dX0_bestStep_6 ?_
  refine lv_iconst (v := 0) hx hb dX0_bestStep_9 (by decide) ?_
  refine aldI hF hX.2.1 hX.1 5 0 rfl rfl 0 (by omega) (by decide) rfl dX0_bestStep_10 ?_
  refine cVi (As := [.int (nI (0 + 1)), .int (nI 0), .int (v 3 0)]) (rest := []) hF (mX0_unmendedWith hok (nI (0 + 1)) ⟨_, by omega, rfl⟩ 0 (v 3 0) (by omega)) C0.mv hX (C0.rc hX) jyX0_unmendedWith kl_RX0_162 ⟨rfl, rfl⟩ ⟨Nat.le_of_ble_eq_true rfl, Nat.le_of_ble_eq_true rfl⟩ rfl hl.1 rfl (Nat.le_of_ble_eq_true rfl) ⟨Nat.zero_le _, Nat.zero_le _⟩ dX0_bestStep_11 (fun r hr9 => ?_)
  subst hr9
  refine topI (show (unm v (upd (v 3) 0 (v 3 0)) (nI (0 + 1)) N) = unm v (v 3) (nI (0 + 1)) N from by rw [upd_self]) ?_
  refine lv_istore_n (lv' := [(2, .int (unm v (v 3) (nI (0 + 1)) N)), (1, .int (nI (0 + 1))), (0, .ref (q 0))]) hx hb dX0_bestStep_14 rfl hl (by decide) rfl (fun ls hl => ?_)
  refine lv_iconst (v := (nI (0 + 2))) hx hb dX0_bestStep_15 (by decide) ?_
  refine lv_istore_n (lv' := [(3, .int (nI (0 + 2))), (2, .int (unm v (v 3) (nI (0 + 1)) N)), (1, .int (nI (0 + 1))), (0, .ref (q 0))]) hx hb dX0_bestStep_16 rfl hl (by decide) rfl (fun ls hl => ?_)
  refine lpW (σ := Nat) (fun j ls => (j ≤ 3) ∧ lv_has ls 5 [(0, .ref (q 0)), (1, .int (nI (amin (fun x => unm v (v 3) (nI (x + 1)) N) j + 1))), (2, .int (unm v (v 3) (nI (amin (fun x => unm v (v 3) (nI (x + 1)) N) j + 1)) N)), (3, .int (nI (j + 2)))]) (fun j => 3 - j) (fun j ls hI ih => ?_) (0) ⟨by omega, lv_sub hl [3, 2, 1, 0] rfl⟩
  obtain ⟨hj, hl⟩ := hI
  refine lv_iload_n hx hb dX0_bestStep_17 rfl (lv_at hl 3 rfl) ?_
  refine lv_iconst (v := 4) hx hb dX0_bestStep_18 (by decide) ?_
  refine lv_icmp_gt (tgt := 53) hx hb dX0_bestStep_19 (by decide) (fun c19 => ?_) (fun c19 => ?_)
  · have c19n : 4 < (j + 2) := (nI_ltI (a := 4) (b := (j + 2)) (by omega) (by omega)).mp c19
    obtain rfl : j = 3 := by omega
    refine lv_iload_n hx hb dX0_bestStep_53 rfl (lv_at hl 1 rfl) ?_
    exact W.iret hx hb hr (fun t ht hW => ⟨_, rfl, rfl, ht⟩) (fun q hq => absurd hq List.not_mem_nil) dX0_bestStep_54
  · have c19n : ¬ 4 < (j + 2) := fun h9 => c19 ((nI_ltI (a := 4) (b := (j + 2)) (by omega) (by omega)).mpr h9)
    refine lv_aload_n hx hb dX0_bestStep_22 rfl (lv_at hl 0 rfl) ?_
    refine lv_iload_n hx hb dX0_bestStep_23 rfl (lv_at hl 3 rfl) ?_
    refine lv_iconst (v := (nI 0)) hx hb dX0_bestStep_24 (by decide) ?_
    refine lv_aload_n hx hb dX0_bestStep_25 rfl (lv_at hl 0 rfl) ?_
    refine C0.get hF hX 4 (by decide) rfl rfl kf_RX0_23 dX0_bestStep_26 ?_
    refine lv_iconst (v := 0) hx hb dX0_bestStep_29 (by decide) ?_
    refine aldI hF hX.2.1 hX.1 5 0 rfl rfl 0 (by omega) (by decide) rfl dX0_bestStep_30 ?_
    refine cVi (As := [.int (nI (j + 2)), .int (nI 0), .int (v 3 0)]) (rest := []) hF (mX0_unmendedWith hok (nI (j + 2)) ⟨_, by omega, rfl⟩ 0 (v 3 0) (by omega)) C0.mv hX (C0.rc hX) jyX0_unmendedWith kl_RX0_162 ⟨rfl, rfl⟩ ⟨Nat.le_of_ble_eq_true rfl, Nat.le_of_ble_eq_true rfl⟩ rfl hl.1 rfl (Nat.le_of_ble_eq_true rfl) ⟨Nat.zero_le _, Nat.zero_le _⟩ dX0_bestStep_31 (fun r hr9 => ?_)
    subst hr9
    refine topI (show (unm v (upd (v 3) 0 (v 3 0)) (nI (j + 2)) N) = unm v (v 3) (nI (j + 1 + 1)) N from by rw [upd_self]) ?_
    refine lv_istore (lv' := [(4, .int (unm v (v 3) (nI (j + 1 + 1)) N)), (0, .ref (q 0)), (1, .int (nI (amin (fun x => unm v (v 3) (nI (x + 1)) N) j + 1))), (2, .int (unm v (v 3) (nI (amin (fun x => unm v (v 3) (nI (x + 1)) N) j + 1)) N)), (3, .int (nI (j + 2)))]) hx hb dX0_bestStep_34 hl (by decide) rfl (fun ls hl => ?_)
    refine lv_iload hx hb dX0_bestStep_36 (lv_at hl 0 rfl) ?_
    refine lv_iload_n hx hb dX0_bestStep_38 rfl (lv_at hl 3 rfl) ?_
    refine lv_icmp_ge (tgt := 47) hx hb dX0_bestStep_39 (by decide) (fun c39 => ?_) (fun c39 => ?_)
    · refine lv_iinc (v := (nI (j + 2 + 1))) (lv' := [(3, .int (nI (j + 2 + 1))), (4, .int (unm v (v 3) (nI (j + 1 + 1)) N)), (0, .ref (q 0)), (1, .int (nI (amin (fun x => unm v (v 3) (nI (x + 1)) N) j + 1))), (2, .int (unm v (v 3) (nI (amin (fun x => unm v (v 3) (nI (x + 1)) N) j + 1)) N))]) hx hb dX0_bestStep_47 hl (k := 4) rfl (nI_1 _) (by decide) rfl (fun ls hl => ?_)
      refine lv_goto (tgt := 17) hx hb dX0_bestStep_50 (by decide) ?_
      exact ih (j + 1) ls (by omega) ⟨by omega, by rw [amin_f (f := (fun x => unm v (v 3) (nI (x + 1)) N)) (k := j) (Int32.not_lt.mpr c39)]; exact lv_sub hl [2, 3, 4, 0] rfl⟩
    · refine lv_iload hx hb dX0_bestStep_42 (lv_at hl 0 rfl) ?_
      refine lv_istore_n (lv' := [(2, .int (unm v (v 3) (nI (j + 1 + 1)) N)), (4, .int (unm v (v 3) (nI (j + 1 + 1)) N)), (0, .ref (q 0)), (1, .int (nI (amin (fun x => unm v (v 3) (nI (x + 1)) N) j + 1))), (3, .int (nI (j + 2)))]) hx hb dX0_bestStep_44 rfl hl (by decide) rfl (fun ls hl => ?_)
      refine lv_iload_n hx hb dX0_bestStep_45 rfl (lv_at hl 4 rfl) ?_
      refine lv_istore_n (lv' := [(1, .int (nI (j + 2))), (2, .int (unm v (v 3) (nI (j + 1 + 1)) N)), (4, .int (unm v (v 3) (nI (j + 1 + 1)) N)), (0, .ref (q 0)), (3, .int (nI (j + 2)))]) hx hb dX0_bestStep_46 rfl hl (by decide) rfl (fun ls hl => ?_)
      refine lv_iinc (v := (nI (j + 2 + 1))) (lv' := [(3, .int (nI (j + 2 + 1))), (1, .int (nI (j + 2))), (2, .int (unm v (v 3) (nI (j + 1 + 1)) N)), (4, .int (unm v (v 3) (nI (j + 1 + 1)) N)), (0, .ref (q 0))]) hx hb dX0_bestStep_47 hl (k := 4) rfl (nI_1 _) (by decide) rfl (fun ls hl => ?_)
      refine lv_goto (tgt := 17) hx hb dX0_bestStep_50 (by decide) ?_
      exact ih (j + 1) ls (by omega) ⟨by omega, by rw [amin_t (f := (fun x => unm v (v 3) (nI (x + 1)) N)) (k := j) (Int32.not_le.mp c39)]; exact lv_sub hl [4, 1, 2, 0] rfl⟩
end P12
