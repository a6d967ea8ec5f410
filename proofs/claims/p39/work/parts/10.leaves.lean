section P10
variable {l : Launch} {D : va_G} {cyI cyZ : ClassId} {q : Nat → Nat} {N K : Nat} {n st th md : Int32} {v w : Nat → Nat → Int32} {mk : Nat → Bool}
set_option maxHeartbeats 4000000 in
set_option maxRecDepth 100000 in
theorem mX0_leavesVoice (a : Int32) : Met l yX0_leavesVoice (wm yX0_leavesVoice cX0_leavesVoice 1 (some .boolean)) ({ frames := 0, cells := 0, slots := 0, locals := 0 } : Room) (va_Pc [.int a] (fun U => (fun _ _ => True : State → Heap → Prop) U U.heap)) (vp_Si (fun r => r = b2i (lv9 a))) 0 0 (fun _ => False) := by
  refine mt (by decide) (Nat.le_of_ble_eq_true rfl) ?_
  intro p ev s m below meth c ls hF hr hlocks hnm hX hl
  have hF : CallFix p m c cX0_leavesVoice 1 s _ wA RX0 := hF
  obtain ⟨hx, hb, hml, hown, hts⟩ := id hF
  have hl : lv_has ls 1 [(0, .int a)] := hl
  refine lv_iload_n hx hb dX0_leavesVoice_0 rfl (lv_at hl 0 rfl) ?_
  refine lv_if_lt (tgt := 10) hx hb dX0_leavesVoice_1 (by decide) (fun c1 => ?_) (fun c1 => ?_)
  · refine lv_iconst (v := 1) hx hb dX0_leavesVoice_10 (by decide) ?_
    refine lv_goto (tgt := 15) hx hb dX0_leavesVoice_11 (by decide) ?_
    exact W.zret hx hb hr rfl (fun t ht hW => ⟨_, rfl, b2i_1 (by simp [lv9, c1]), ht⟩) (fun q hq => absurd hq List.not_mem_nil) dX0_leavesVoice_15
  · refine lv_iload_n hx hb dX0_leavesVoice_4 rfl (lv_at hl 0 rfl) ?_
    refine lv_bipush (v := 24) hx hb dX0_leavesVoice_5 (by decide) ?_
    refine lv_icmp_le (tgt := 14) hx hb dX0_leavesVoice_7 (by decide) (fun c7 => ?_) (fun c7 => ?_)
    · refine lv_iconst (v := 0) hx hb dX0_leavesVoice_14 (by decide) ?_
      exact W.zret hx hb hr rfl (fun t ht hW => ⟨_, rfl, b2i_0 (by simp [lv9, c1, Int32.not_lt.mpr c7]), ht⟩) (fun q hq => absurd hq List.not_mem_nil) dX0_leavesVoice_15
    · refine lv_iconst (v := 1) hx hb dX0_leavesVoice_10 (by decide) ?_
      refine lv_goto (tgt := 15) hx hb dX0_leavesVoice_11 (by decide) ?_
      exact W.zret hx hb hr rfl (fun t ht hW => ⟨_, rfl, b2i_1 (by simp [lv9, Int32.not_le.mp c7]), ht⟩) (fun q hq => absurd hq List.not_mem_nil) dX0_leavesVoice_15
set_option maxHeartbeats 4000000 in
set_option maxRecDepth 100000 in
theorem mX0_noteBehind (a i : Int32) : Met l yX0_noteBehind (wm yX0_noteBehind cX0_noteBehind 3 (some .int)) ({ frames := 1, cells := 0, slots := 0, locals := 20 } : Room) (va_Pc [.int a, .int i] (fun U => (fun _ _ => True : State → Heap → Prop) U U.heap)) (vp_Si (fun r => r = nb a i)) 0 0 (fun _ => False) := by
  refine mt (by decide) (Nat.le_of_ble_eq_true rfl) ?_
  intro p ev s m below meth c ls hF hr hlocks hnm hX hl
  have hF : CallFix p m c cX0_noteBehind 3 s _ wA RX0 := hF
  obtain ⟨hx, hb, hml, hown, hts⟩ := id hF
  have hl : lv_has ls 3 [(0, .int a), (1, .int i)] := hl
  refine lv_iload_n hx hb dX0_noteBehind_0 rfl (lv_at hl 0 rfl) ?_
  refine lv_iload_n hx hb dX0_noteBehind_1 rfl (lv_at hl 1 rfl) ?_
  refine lv_iadd hx hb dX0_noteBehind_2 ?_
  refine lv_istore_n (lv' := [(2, .int (a + i)), (0, .int a), (1, .int i)]) hx hb dX0_noteBehind_3 rfl hl (by decide) rfl (fun ls hl => ?_)
  refine lv_iload_n hx hb dX0_noteBehind_4 rfl (lv_at hl 0 rfl) ?_
  refine cSi (As := [.int (a + i)]) (rest := []) hF (mX0_leavesVoice (a + i)) Mv.const trivial jyX0_leavesVoice kl_RX0_117 ⟨rfl, rfl⟩ ⟨Nat.le_of_ble_eq_true rfl, Nat.le_of_ble_eq_true rfl⟩ rfl hl.1 rfl (Nat.le_of_ble_eq_true rfl) ⟨Nat.zero_le _, Nat.zero_le _⟩ dX0_noteBehind_5 (fun r hr9 => ?_)
  subst hr9
  refine lv_if_eq (tgt := 17) hx hb dX0_noteBehind_8 (by decide) (fun c8 => ?_) (fun c8 => ?_)
  · have c8b := b2i_f c8
    refine lv_iload_n hx hb dX0_noteBehind_17 rfl (lv_at hl 0 rfl) ?_
    exact W.iret hx hb hr (fun t ht hW => ⟨_, rfl, nb_f c8b, ht⟩) (fun q hq => absurd hq List.not_mem_nil) dX0_noteBehind_18
  · have c8b := b2i_t c8
    refine lv_iload_n hx hb dX0_noteBehind_11 rfl (lv_at hl 1 rfl) ?_
    refine lv_iload_n hx hb dX0_noteBehind_12 rfl (lv_at hl 2 rfl) ?_
    refine lv_isub hx hb dX0_noteBehind_13 ?_
    refine lv_goto (tgt := 18) hx hb dX0_noteBehind_14 (by decide) ?_
    exact W.iret hx hb hr (fun t ht hW => ⟨_, rfl, nb_t c8b, ht⟩) (fun q hq => absurd hq List.not_mem_nil) dX0_noteBehind_18
set_option maxHeartbeats 4000000 in
set_option maxRecDepth 100000 in
theorem mX0_isLandmark (a : Int32) : Met l yX0_isLandmark (wm yX0_isLandmark cX0_isLandmark 1 (some .boolean)) ({ frames := 0, cells := 0, slots := 0, locals := 0 } : Room) (va_Pc [.int a] (fun U => (fun _ _ => True : State → Heap → Prop) U U.heap)) (vp_Si (fun r => r = b2i (in10 a))) 0 0 (fun _ => False) := by
  refine mt (by decide) (Nat.le_of_ble_eq_true rfl) ?_
  intro p ev s m below meth c ls hF hr hlocks hnm hX hl
  have hF : CallFix p m c cX0_isLandmark 1 s _ wA RX0 := hF
  obtain ⟨hx, hb, hml, hown, hts⟩ := id hF
  have hl : lv_has ls 1 [(0, .int a)] := hl
  refine lv_iload_n hx hb dX0_isLandmark_0 rfl (lv_at hl 0 rfl) ?_
  refine lv_if_lt (tgt := 14) hx hb dX0_isLandmark_1 (by decide) (fun c1 => ?_) (fun c1 => ?_)
  · refine lv_iconst (v := 0) hx hb dX0_isLandmark_14 (by decide) ?_
    exact W.zret hx hb hr rfl (fun t ht hW => ⟨_, rfl, b2i_0 (by simp [in10, Int32.not_le.mpr c1]), ht⟩) (fun q hq => absurd hq List.not_mem_nil) dX0_isLandmark_15
  · refine lv_iload_n hx hb dX0_isLandmark_4 rfl (lv_at hl 0 rfl) ?_
    refine lv_bipush (v := 10) hx hb dX0_isLandmark_5 (by decide) ?_
    refine lv_icmp_ge (tgt := 14) hx hb dX0_isLandmark_7 (by decide) (fun c7 => ?_) (fun c7 => ?_)
    · refine lv_iconst (v := 0) hx hb dX0_isLandmark_14 (by decide) ?_
      exact W.zret hx hb hr rfl (fun t ht hW => ⟨_, rfl, b2i_0 (by simp [in10, Int32.not_lt.mpr c7]), ht⟩) (fun q hq => absurd hq List.not_mem_nil) dX0_isLandmark_15
    · refine lv_iconst (v := 1) hx hb dX0_isLandmark_10 (by decide) ?_
      refine lv_goto (tgt := 15) hx hb dX0_isLandmark_11 (by decide) ?_
      exact W.zret hx hb hr rfl (fun t ht hW => ⟨_, rfl, b2i_1 (by simp [in10, Int32.not_lt.mp c1, Int32.not_le.mp c7]), ht⟩) (fun q hq => absurd hq List.not_mem_nil) dX0_isLandmark_15
set_option maxHeartbeats 4000000 in
set_option maxRecDepth 100000 in
theorem mX0_isWord (a : Int32) : Met l yX0_isWord (wm yX0_isWord cX0_isWord 1 (some .boolean)) ({ frames := 0, cells := 0, slots := 0, locals := 0 } : Room) (va_Pc [.int a] (fun U => (fun _ _ => True : State → Heap → Prop) U U.heap)) (vp_Si (fun r => r = b2i (in10 a))) 0 0 (fun _ => False) := by
  refine mt (by decide) (Nat.le_of_ble_eq_true rfl) ?_
  intro p ev s m below meth c ls hF hr hlocks hnm hX hl
  have hF : CallFix p m c cX0_isWord 1 s _ wA RX0 := hF
  obtain ⟨hx, hb, hml, hown, hts⟩ := id hF
  have hl : lv_has ls 1 [(0, .int a)] := hl
  refine lv_iload_n hx hb dX0_isWord_0 rfl (lv_at hl 0 rfl) ?_
  refine lv_if_lt (tgt := 14) hx hb dX0_isWord_1 (by decide) (fun c1 => ?_) (fun c1 => ?_)
  · refine lv_iconst (v := 0) hx hb dX0_isWord_14 (by decide) ?_
    exact W.zret hx hb hr rfl (fun t ht hW => ⟨_, rfl, b2i_0 (by simp [in10, Int32.not_le.mpr c1]), ht⟩) (fun q hq => absurd hq List.not_mem_nil) dX0_isWord_15
  · refine lv_iload_n hx hb dX0_isWord_4 rfl (lv_at hl 0 rfl) ?_
    refine lv_bipush (v := 10) hx hb dX0_isWord_5 (by decide) ?_
    refine lv_icmp_ge (tgt := 14) hx hb dX0_isWord_7 (by decide) (fun c7 => ?_) (fun c7 => ?_)
    · refine lv_iconst (v := 0) hx hb dX0_isWord_14 (by decide) ?_
      exact W.zret hx hb hr rfl (fun t ht hW => ⟨_, rfl, b2i_0 (by simp [in10, Int32.not_lt.mpr c7]), ht⟩) (fun q hq => absurd hq List.not_mem_nil) dX0_isWord_15
    · refine lv_iconst (v := 1) hx hb dX0_isWord_10 (by decide) ?_
      refine lv_goto (tgt := 15) hx hb dX0_isWord_11 (by decide) ?_
      exact W.zret hx hb hr rfl (fun t ht hW => ⟨_, rfl, b2i_1 (by simp [in10, Int32.not_lt.mp c1, Int32.not_le.mp c7]), ht⟩) (fun q hq => absurd hq List.not_mem_nil) dX0_isWord_15
set_option maxHeartbeats 4000000 in
set_option maxRecDepth 100000 in
theorem mX0_checkTurn (e : Nat) (he : e < 7) : Met l yX0_checkTurn (wm yX0_checkTurn cX0_checkTurn 1 none) ({ frames := 0, cells := 0, slots := 0, locals := 0 } : Room) (va_Pc [.int (nI e - 3)] (fun U => (fun _ _ => True : State → Heap → Prop) U U.heap)) (va_Sv (fun _ => True)) 0 0 (fun _ => False) := by
  refine mt (by decide) (Nat.le_of_ble_eq_true rfl) ?_
  intro p ev s m below meth c ls hF hr hlocks hnm hX hl
  have hF : CallFix p m c cX0_checkTurn 1 s _ wA RX0 := hF
  obtain ⟨hx, hb, hml, hown, hts⟩ := id hF
  have hl : lv_has ls 1 [(0, .int (nI e - 3))] := hl
  refine lv_iload_n hx hb dX0_checkTurn_0 rfl (lv_at hl 0 rfl) ?_
  refine lv_bipush (v := (-3)) hx hb dX0_checkTurn_1 (by decide) ?_
  refine lv_icmp_lt (tgt := 11) hx hb dX0_checkTurn_3 (by decide) (fun c3 => ?_) (fun c3 => ?_)
  · exact absurd c3 (tn_lo he)
  · refine lv_iload_n hx hb dX0_checkTurn_6 rfl (lv_at hl 0 rfl) ?_
    refine lv_iconst (v := 3) hx hb dX0_checkTurn_7 (by decide) ?_
    refine lv_icmp_le (tgt := 21) hx hb dX0_checkTurn_8 (by decide) (fun c8 => ?_) (fun c8 => ?_)
    · exact W.vret hx hb hr (fun t ht hW => ⟨rfl, trivial, ht⟩) (fun q hq => absurd hq List.not_mem_nil) dX0_checkTurn_21
    · exact absurd (tn_hi he) c8
set_option maxHeartbeats 4000000 in
set_option maxRecDepth 100000 in
theorem mX0_checkLandmark (j : Nat) (hj : j < 10) : Met l yX0_checkLandmark (wm yX0_checkLandmark cX0_checkLandmark 1 none) ({ frames := 1, cells := 0, slots := 0, locals := 20 } : Room) (va_Pc [.int (nI j)] (fun U => (fun _ _ => True : State → Heap → Prop) U U.heap)) (va_Sv (fun _ => True)) 0 0 (fun _ => False) := by
  refine mt (by decide) (Nat.le_of_ble_eq_true rfl) ?_
  intro p ev s m below meth c ls hF hr hlocks hnm hX hl
  have hF : CallFix p m c cX0_checkLandmark 1 s _ wA RX0 := hF
  obtain ⟨hx, hb, hml, hown, hts⟩ := id hF
  have hl : lv_has ls 1 [(0, .int (nI j))] := hl
  refine lv_iload_n hx hb dX0_checkLandmark_0 rfl (lv_at hl 0 rfl) ?_
  refine cSi (As := [.int (nI j)]) (rest := []) hF (mX0_isLandmark (nI j)) Mv.const trivial jyX0_isLandmark kl_RX0_53 ⟨rfl, rfl⟩ ⟨Nat.le_of_ble_eq_true rfl, Nat.le_of_ble_eq_true rfl⟩ rfl hl.1 rfl (Nat.le_of_ble_eq_true rfl) ⟨Nat.zero_le _, Nat.zero_le _⟩ dX0_checkLandmark_1 (fun r hr9 => ?_)
  subst hr9
  refine lv_if_ne (tgt := 17) hx hb dX0_checkLandmark_4 (by decide) (fun c4 => ?_) (fun c4 => ?_)
  · have c4b := b2i_t c4
    exact W.vret hx hb hr (fun t ht hW => ⟨rfl, trivial, ht⟩) (fun q hq => absurd hq List.not_mem_nil) dX0_checkLandmark_17
  · have c4b := b2i_f c4
    exact absurd (in10_nI hj) (by rw [c4b]; decide)
set_option maxHeartbeats 4000000 in
set_option maxRecDepth 100000 in
theorem mX0_checkWord (j : Nat) (hj : j < 10) : Met l yX0_checkWord (wm yX0_checkWord cX0_checkWord 1 none) ({ frames := 1, cells := 0, slots := 0, locals := 20 } : Room) (va_Pc [.int (nI j)] (fun U => (fun _ _ => True : State → Heap → Prop) U U.heap)) (va_Sv (fun _ => True)) 0 0 (fun _ => False) := by
  refine mt (by decide) (Nat.le_of_ble_eq_true rfl) ?_
  intro p ev s m below meth c ls hF hr hlocks hnm hX hl
  have hF : CallFix p m c cX0_checkWord 1 s _ wA RX0 := hF
  obtain ⟨hx, hb, hml, hown, hts⟩ := id hF
  have hl : lv_has ls 1 [(0, .int (nI j))] := hl
  refine lv_iload_n hx hb dX0_checkWord_0 rfl (lv_at hl 0 rfl) ?_
  refine cSi (As := [.int (nI j)]) (rest := []) hF (mX0_isWord (nI j)) Mv.const trivial jyX0_isWord kl_RX0_81 ⟨rfl, rfl⟩ ⟨Nat.le_of_ble_eq_true rfl, Nat.le_of_ble_eq_true rfl⟩ rfl hl.1 rfl (Nat.le_of_ble_eq_true rfl) ⟨Nat.zero_le _, Nat.zero_le _⟩ dX0_checkWord_1 (fun r hr9 => ?_)
  subst hr9
  refine lv_if_ne (tgt := 17) hx hb dX0_checkWord_4 (by decide) (fun c4 => ?_) (fun c4 => ?_)
  · have c4b := b2i_t c4
    exact W.vret hx hb hr (fun t ht hW => ⟨rfl, trivial, ht⟩) (fun q hq => absurd hq List.not_mem_nil) dX0_checkWord_17
  · have c4b := b2i_f c4
    exact absurd (in10_nI hj) (by rw [c4b]; decide)
set_option maxHeartbeats 4000000 in
set_option maxRecDepth 100000 in
theorem mX0_checkLeg (i : Nat) (hi : i < N) (hN : N ≤ 16) : Met l yX0_checkLeg (wm yX0_checkLeg cX0_checkLeg 2 none) ({ frames := 0, cells := 0, slots := 0, locals := 0 } : Room) (va_Pc [.ref (q 0), .int (nI i)] (fun U => C0 D cyI cyZ q (nI N) st v mk w U U.heap)) (va_Sv (fun _ => True)) 0 0 (fun _ => False) := by
  refine mt (by decide) (Nat.le_of_ble_eq_true rfl) ?_
  intro p ev s m below meth c ls hF hr hlocks hnm hX hl
  have hF : CallFix p m c cX0_checkLeg 2 s _ wA RX0 := hF
  obtain ⟨hx, hb, hml, hown, hts⟩ := id hF
  have hX : C0 D cyI cyZ q (nI N) st v mk w s s.heap := hX
  have hl : lv_has ls 2 [(0, .ref (q 0)), (1, .int (nI i))] := hl
  refine lv_iload_n hx hb dX0_checkLeg_0 rfl (lv_at hl 1 rfl) ?_
  refine lv_if_lt (tgt := 12) hx hb dX0_checkLeg_1 (by decide) (fun c1 => ?_) (fun c1 => ?_)
  · have c1n : i < 0 := (nI_ltI (a := i) (b := 0) (by omega) (by omega)).mp c1
    exact absurd c1n (by omega)
  · have c1n : ¬ i < 0 := fun h9 => c1 ((nI_ltI (a := i) (b := 0) (by omega) (by omega)).mpr h9)
    refine lv_iload_n hx hb dX0_checkLeg_4 rfl (lv_at hl 1 rfl) ?_
    refine lv_aload_n hx hb dX0_checkLeg_5 rfl (lv_at hl 0 rfl) ?_
    refine C0.get hF hX 5 (by decide) rfl rfl kf_RX0_59 dX0_checkLeg_6 ?_
    refine lv_icmp_lt (tgt := 22) hx hb dX0_checkLeg_9 (by decide) (fun c9 => ?_) (fun c9 => ?_)
    · have c9n : i < N := (nI_ltI (a := i) (b := N) (by omega) (by omega)).mp c9
      exact W.vret hx hb hr (fun t ht hW => ⟨rfl, trivial, ht⟩) (fun q hq => absurd hq List.not_mem_nil) dX0_checkLeg_22
    · have c9n : ¬ i < N := fun h9 => c9 ((nI_ltI (a := i) (b := N) (by omega) (by omega)).mpr h9)
      exact absurd hi c9n
set_option maxHeartbeats 4000000 in
set_option maxRecDepth 100000 in
theorem mX0_headingAhead (i : Nat) (hde : Der K st v w) (hi : i ≤ K) (hK : K ≤ 16) : Met l yX0_headingAhead (wm yX0_headingAhead cX0_headingAhead 2 (some .int)) ({ frames := 0, cells := 0, slots := 0, locals := 0 } : Room) (va_Pc [.ref (q 0), .int (nI i)] (fun U => C0 D cyI cyZ q n st v mk w U U.heap)) (vp_Si (fun r => r = hd (v 0) i)) 0 0 (fun _ => False) := by
  refine mt (by decide) (Nat.le_of_ble_eq_true rfl) ?_
  intro p ev s m below meth c ls hF hr hlocks hnm hX hl
  have hF : CallFix p m c cX0_headingAhead 2 s _ wA RX0 := hF
  obtain ⟨hx, hb, hml, hown, hts⟩ := id hF
  have hX : C0 D cyI cyZ q n st v mk w s s.heap := hX
  have hl : lv_has ls 2 [(0, .ref (q 0)), (1, .int (nI i))] := hl
  refine lv_iload_n hx hb dX0_headingAhead_0 rfl (lv_at hl 1 rfl) ?_
  refine lv_if_le (tgt := 15) hx hb dX0_headingAhead_1 (by decide) (fun c1 => ?_) (fun c1 => ?_)
  · have c1n : i ≤ 0 := (nI_leI (a := i) (b := 0) (by omega) (by omega)).mp c1
    obtain rfl : i = 0 := by omega
    refine lv_iconst (v := 0) hx hb dX0_headingAhead_15 (by decide) ?_
    exact W.iret hx hb hr (fun t ht hW => ⟨_, rfl, rfl, ht⟩) (fun q hq => absurd hq List.not_mem_nil) dX0_headingAhead_16
  · have c1n : ¬ i ≤ 0 := fun h9 => c1 ((nI_leI (a := i) (b := 0) (by omega) (by omega)).mpr h9)
    refine lv_aload_n hx hb dX0_headingAhead_4 rfl (lv_at hl 0 rfl) ?_
    refine C0.get hF hX 7 (by decide) rfl rfl kf_RX0_26 dX0_headingAhead_5 ?_
    refine lv_iload_n hx hb dX0_headingAhead_8 rfl (lv_at hl 1 rfl) ?_
    refine lv_iconst (v := 1) hx hb dX0_headingAhead_9 (by decide) ?_
    refine lv_isub hx hb dX0_headingAhead_10 ?_
    refine aldI hF hX.2.1 hX.1 6 0 rfl rfl (i - 1) (by omega) (by decide) (nI_dec (by omega)) dX0_headingAhead_11 ?_
    refine lv_goto (tgt := 16) hx hb dX0_headingAhead_12 (by decide) ?_
    exact W.iret hx hb hr (fun t ht hW => ⟨_, rfl, (der_pred hde (by omega) hi).1, ht⟩) (fun q hq => absurd hq List.not_mem_nil) dX0_headingAhead_16
set_option maxHeartbeats 4000000 in
set_option maxRecDepth 100000 in
theorem mX0_xAhead (i : Nat) (hde : Der K st v w) (hi : i ≤ K) (hK : K ≤ 16) : Met l yX0_xAhead (wm yX0_xAhead cX0_xAhead 2 (some .int)) ({ frames := 0, cells := 0, slots := 0, locals := 0 } : Room) (va_Pc [.ref (q 0), .int (nI i)] (fun U => C0 D cyI cyZ q n st v mk w U U.heap)) (vp_Si (fun r => r = px (v 0) (v 1) i)) 0 0 (fun _ => False) := by
  refine mt (by decide) (Nat.le_of_ble_eq_true rfl) ?_
  intro p ev s m below meth c ls hF hr hlocks hnm hX hl
  have hF : CallFix p m c cX0_xAhead 2 s _ wA RX0 := hF
  obtain ⟨hx, hb, hml, hown, hts⟩ := id hF
  have hX : C0 D cyI cyZ q n st v mk w s s.heap := hX
  have hl : lv_has ls 2 [(0, .ref (q 0)), (1, .int (nI i))] := hl
  refine lv_iload_n hx hb dX0_xAhead_0 rfl (lv_at hl 1 rfl) ?_
  refine lv_if_le (tgt := 15) hx hb dX0_xAhead_1 (by decide) (fun c1 => ?_) (fun c1 => ?_)
  · have c1n : i ≤ 0 := (nI_leI (a := i) (b := 0) (by omega) (by omega)).mp c1
    obtain rfl : i = 0 := by omega
    refine lv_iconst (v := 0) hx hb dX0_xAhead_15 (by decide) ?_
    exact W.iret hx hb hr (fun t ht hW => ⟨_, rfl, rfl, ht⟩) (fun q hq => absurd hq List.not_mem_nil) dX0_xAhead_16
  · have c1n : ¬ i ≤ 0 := fun h9 => c1 ((nI_leI (a := i) (b := 0) (by omega) (by omega)).mpr h9)
    refine lv_aload_n hx hb dX0_xAhead_4 rfl (lv_at hl 0 rfl) ?_
    refine C0.get hF hX 8 (by decide) rfl rfl kf_RX0_29 dX0_xAhead_5 ?_
    refine lv_iload_n hx hb dX0_xAhead_8 rfl (lv_at hl 1 rfl) ?_
    refine lv_iconst (v := 1) hx hb dX0_xAhead_9 (by decide) ?_
    refine lv_isub hx hb dX0_xAhead_10 ?_
    refine aldI hF hX.2.1 hX.1 7 0 rfl rfl (i - 1) (by omega) (by decide) (nI_dec (by omega)) dX0_xAhead_11 ?_
    refine lv_goto (tgt := 16) hx hb dX0_xAhead_12 (by decide) ?_
    exact W.iret hx hb hr (fun t ht hW => ⟨_, rfl, (der_pred hde (by omega) hi).2.1, ht⟩) (fun q hq => absurd hq List.not_mem_nil) dX0_xAhead_16
set_option maxHeartbeats 4000000 in
set_option maxRecDepth 100000 in
theorem mX0_yAhead (i : Nat) (hde : Der K st v w) (hi : i ≤ K) (hK : K ≤ 16) : Met l yX0_yAhead (wm yX0_yAhead cX0_yAhead 2 (some .int)) ({ frames := 0, cells := 0, slots := 0, locals := 0 } : Room) (va_Pc [.ref (q 0), .int (nI i)] (fun U => C0 D cyI cyZ q n st v mk w U U.heap)) (vp_Si (fun r => r = py (v 0) (v 1) i)) 0 0 (fun _ => False) := by
  refine mt (by decide) (Nat.le_of_ble_eq_true rfl) ?_
  intro p ev s m below meth c ls hF hr hlocks hnm hX hl
  have hF : CallFix p m c cX0_yAhead 2 s _ wA RX0 := hF
  obtain ⟨hx, hb, hml, hown, hts⟩ := id hF
  have hX : C0 D cyI cyZ q n st v mk w s s.heap := hX
  have hl : lv_has ls 2 [(0, .ref (q 0)), (1, .int (nI i))] := hl
  refine lv_iload_n hx hb dX0_yAhead_0 rfl (lv_at hl 1 rfl) ?_
  refine lv_if_le (tgt := 15) hx hb dX0_yAhead_1 (by decide) (fun c1 => ?_) (fun c1 => ?_)
  · have c1n : i ≤ 0 := (nI_leI (a := i) (b := 0) (by omega) (by omega)).mp c1
    obtain rfl : i = 0 := by omega
    refine lv_iconst (v := 0) hx hb dX0_yAhead_15 (by decide) ?_
    exact W.iret hx hb hr (fun t ht hW => ⟨_, rfl, rfl, ht⟩) (fun q hq => absurd hq List.not_mem_nil) dX0_yAhead_16
  · have c1n : ¬ i ≤ 0 := fun h9 => c1 ((nI_leI (a := i) (b := 0) (by omega) (by omega)).mpr h9)
    refine lv_aload_n hx hb dX0_yAhead_4 rfl (lv_at hl 0 rfl) ?_
    refine C0.get hF hX 9 (by decide) rfl rfl kf_RX0_32 dX0_yAhead_5 ?_
    refine lv_iload_n hx hb dX0_yAhead_8 rfl (lv_at hl 1 rfl) ?_
    refine lv_iconst (v := 1) hx hb dX0_yAhead_9 (by decide) ?_
    refine lv_isub hx hb dX0_yAhead_10 ?_
    refine aldI hF hX.2.1 hX.1 8 0 rfl rfl (i - 1) (by omega) (by decide) (nI_dec (by omega)) dX0_yAhead_11 ?_
    refine lv_goto (tgt := 16) hx hb dX0_yAhead_12 (by decide) ?_
    exact W.iret hx hb hr (fun t ht hW => ⟨_, rfl, (der_pred hde (by omega) hi).2.2.1, ht⟩) (fun q hq => absurd hq List.not_mem_nil) dX0_yAhead_16
set_option maxHeartbeats 4000000 in
set_option maxRecDepth 100000 in
theorem mX0_noteAhead (i : Nat) (hde : Der K st v w) (hi : i ≤ K) (hK : K ≤ 16) : Met l yX0_noteAhead (wm yX0_noteAhead cX0_noteAhead 2 (some .int)) ({ frames := 0, cells := 0, slots := 0, locals := 0 } : Room) (va_Pc [.ref (q 0), .int (nI i)] (fun U => C0 D cyI cyZ q n st v mk w U U.heap)) (vp_Si (fun r => r = nt (v 0) st i)) 0 0 (fun _ => False) := by
  refine mt (by decide) (Nat.le_of_ble_eq_true rfl) ?_
  intro p ev s m below meth c ls hF hr hlocks hnm hX hl
  have hF : CallFix p m c cX0_noteAhead 2 s _ wA RX0 := hF
  obtain ⟨hx, hb, hml, hown, hts⟩ := id hF
  have hX : C0 D cyI cyZ q n st v mk w s s.heap := hX
  have hl : lv_has ls 2 [(0, .ref (q 0)), (1, .int (nI i))] := hl
  refine lv_iload_n hx hb dX0_noteAhead_0 rfl (lv_at hl 1 rfl) ?_
  refine lv_if_le (tgt := 15) hx hb dX0_noteAhead_1 (by decide) (fun c1 => ?_) (fun c1 => ?_)
  · have c1n : i ≤ 0 := (nI_leI (a := i) (b := 0) (by omega) (by omega)).mp c1
    obtain rfl : i = 0 := by omega
    refine lv_bipush (v := 12) hx hb dX0_noteAhead_15 (by decide) ?_
    exact W.iret hx hb hr (fun t ht hW => ⟨_, rfl, rfl, ht⟩) (fun q hq => absurd hq List.not_mem_nil) dX0_noteAhead_17
  · have c1n : ¬ i ≤ 0 := fun h9 => c1 ((nI_leI (a := i) (b := 0) (by omega) (by omega)).mpr h9)
    refine lv_aload_n hx hb dX0_noteAhead_4 rfl (lv_at hl 0 rfl) ?_
    refine C0.get hF hX 10 (by decide) rfl rfl kf_RX0_35 dX0_noteAhead_5 ?_
    refine lv_iload_n hx hb dX0_noteAhead_8 rfl (lv_at hl 1 rfl) ?_
    refine lv_iconst (v := 1) hx hb dX0_noteAhead_9 (by decide) ?_
    refine lv_isub hx hb dX0_noteAhead_10 ?_
    refine aldI hF hX.2.1 hX.1 9 0 rfl rfl (i - 1) (by omega) (by decide) (nI_dec (by omega)) dX0_noteAhead_11 ?_
    refine lv_goto (tgt := 17) hx hb dX0_noteAhead_12 (by decide) ?_
    exact W.iret hx hb hr (fun t ht hW => ⟨_, rfl, (der_pred hde (by omega) hi).2.2.2, ht⟩) (fun q hq => absurd hq List.not_mem_nil) dX0_noteAhead_17
set_option maxHeartbeats 4000000 in
set_option maxRecDepth 100000 in
theorem mX0_digested (a b : Int64) : Met l yX0_digested (wm yX0_digested cX0_digested 4 (some .long)) ({ frames := 0, cells := 0, slots := 0, locals := 0 } : Room) (va_Pc [.long a, .long b] (fun U => (fun _ _ => True : State → Heap → Prop) U U.heap)) (vp_Sl (fun r => r = dg a b)) 0 0 (fun _ => False) := by
  refine mt (by decide) (Nat.le_of_ble_eq_true rfl) ?_
  intro p ev s m below meth c ls hF hr hlocks hnm hX hl
  have hF : CallFix p m c cX0_digested 4 s _ wA RX0 := hF
  obtain ⟨hx, hb, hml, hown, hts⟩ := id hF
  have hl : lv_has ls 4 [(0, .long a), (2, .long b)] := hl
  refine lv_lload_n hx hb dX0_digested_0 rfl (lv_at hl 0 rfl) ?_
  refine lv_ldc2 hx hb hown (hts _ kk_RX0_237) dX0_digested_1 ?_
  refine lv_lmul hx hb dX0_digested_4 ?_
  refine lv_lload_n hx hb dX0_digested_5 rfl (lv_at hl 1 rfl) ?_
  refine lv_ladd hx hb dX0_digested_6 ?_
  exact W.lret hx hb hr (fun t ht hW => ⟨_, rfl, rfl, ht⟩) (fun q hq => absurd hq List.not_mem_nil) dX0_digested_7
set_option maxHeartbeats 4000000 in
set_option maxRecDepth 100000 in
theorem mX0_turnsSungAs (note ahead : Int32) (e : Nat) (he : e ≤ 7) : Met l yX0_turnsSungAs (wm yX0_turnsSungAs cX0_turnsSungAs 6 (some .int)) ({ frames := 2, cells := 0, slots := 0, locals := 42 } : Room) (va_Pc [.int note, .int ahead, .int st, .int (nI e - 3)] (fun U => (fun _ _ => True : State → Heap → Prop) U U.heap)) (vp_Si (fun r => r = tsa note ahead st e)) 0 0 (fun _ => False) := by
  refine mt (by decide) (Nat.le_of_ble_eq_true rfl) ?_
  intro p ev s m below meth c ls hF hr hlocks hnm hX hl
  have hF : CallFix p m c cX0_turnsSungAs 6 s _ wA RX0 := hF
  obtain ⟨hx, hb, hml, hown, hts⟩ := id hF
  have hl : lv_has ls 6 [(0, .int note), (1, .int ahead), (2, .int st), (3, .int (nI e - 3))] := hl
  refine lv_iconst (v := 0) hx hb dX0_turnsSungAs_0 (by decide) ?_
  refine lv_istore (lv' := [(4, .int 0), (0, .int note), (1, .int ahead), (2, .int st), (3, .int (nI e - 3))]) hx hb dX0_turnsSungAs_1 hl (by decide) rfl (fun ls hl => ?_)
  refine lv_bipush (v := (nI 0 - 3)) hx hb dX0_turnsSungAs_3 (by decide) ?_
  refine lv_istore (lv' := [(5, .int (nI 0 - 3)), (4, .int 0), (0, .int note), (1, .int ahead), (2, .int st), (3, .int (nI e - 3))]) hx hb dX0_turnsSungAs_5 hl (by decide) rfl (fun ls hl => ?_)
  refine lpW (σ := Nat) (fun j ls => (j ≤ e) ∧ lv_has ls 6 [(0, .int note), (1, .int ahead), (2, .int st), (3, .int (nI e - 3)), (4, .int (tsa note ahead st j)), (5, .int (nI j - 3))]) (fun j => e - j) (fun j ls hI ih => ?_) (0) ⟨by omega, lv_sub hl [2, 3, 4, 5, 1, 0] rfl⟩
  obtain ⟨hj, hl⟩ := hI
  refine lv_iload hx hb dX0_turnsSungAs_7 (lv_at hl 5 rfl) ?_
  refine lv_iload_n hx hb dX0_turnsSungAs_9 rfl (lv_at hl 3 rfl) ?_
  refine lv_icmp_ge (tgt := 34) hx hb dX0_turnsSungAs_10 (by decide) (fun c10 => ?_) (fun c10 => ?_)
  · have h9 : e ≤ j := (nI_3le (by omega) (by omega)).mp c10
    obtain rfl : j = e := by omega
    refine lv_iload hx hb dX0_turnsSungAs_34 (lv_at hl 4 rfl) ?_
    exact W.iret hx hb hr (fun t ht hW => ⟨_, rfl, rfl, ht⟩) (fun q hq => absurd hq List.not_mem_nil) dX0_turnsSungAs_36
  · have h9 : ¬ e ≤ j := fun h => c10 ((nI_3le (by omega) (by omega)).mpr h)
    refine lv_iload_n hx hb dX0_turnsSungAs_13 rfl (lv_at hl 1 rfl) ?_
    refine lv_iload hx hb dX0_turnsSungAs_14 (lv_at hl 5 rfl) ?_
    refine lv_iload_n hx hb dX0_turnsSungAs_16 rfl (lv_at hl 2 rfl) ?_
    refine lv_imul hx hb dX0_turnsSungAs_17 ?_
    refine cSi (As := [.int ahead, .int ((nI j - 3) * st)]) (rest := []) hF (mX0_noteBehind ahead ((nI j - 3) * st)) Mv.const trivial jyX0_noteBehind kl_RX0_227 ⟨rfl, rfl⟩ ⟨Nat.le_of_ble_eq_true rfl, Nat.le_of_ble_eq_true rfl⟩ rfl hl.1 rfl (Nat.le_of_ble_eq_true rfl) ⟨Nat.zero_le _, Nat.zero_le _⟩ dX0_turnsSungAs_18 (fun r hr9 => ?_)
    subst hr9
    refine lv_iload_n hx hb dX0_turnsSungAs_21 rfl (lv_at hl 0 rfl) ?_
    refine lv_icmp_ne (tgt := 28) hx hb dX0_turnsSungAs_22 (by decide) (fun c22 => ?_) (fun c22 => ?_)
    · refine lv_iinc (v := (nI (j + 1) - 3)) (lv' := [(5, .int (nI (j + 1) - 3)), (0, .int note), (1, .int ahead), (2, .int st), (3, .int (nI e - 3)), (4, .int (tsa note ahead st j))]) hx hb dX0_turnsSungAs_28 hl (k := 5) rfl (nI_3 _) (by decide) rfl (fun ls hl => ?_)
      refine lv_goto (tgt := 7) hx hb dX0_turnsSungAs_31 (by decide) ?_
      exact ih (j + 1) ls (by omega) ⟨by omega, by rw [tsa_f c22]; exact lv_sub hl [1, 2, 3, 4, 5, 0] rfl⟩
    · refine lv_iinc (v := ((tsa note ahead st j) + 1)) (lv' := [(4, .int ((tsa note ahead st j) + 1)), (0, .int note), (1, .int ahead), (2, .int st), (3, .int (nI e - 3)), (5, .int (nI j - 3))]) hx hb dX0_turnsSungAs_25 hl (k := 4) rfl (rfl) (by decide) rfl (fun ls hl => ?_)
      refine lv_iinc (v := (nI (j + 1) - 3)) (lv' := [(5, .int (nI (j + 1) - 3)), (4, .int ((tsa note ahead st j) + 1)), (0, .int note), (1, .int ahead), (2, .int st), (3, .int (nI e - 3))]) hx hb dX0_turnsSungAs_28 hl (k := 5) rfl (nI_3 _) (by decide) rfl (fun ls hl => ?_)
      refine lv_goto (tgt := 7) hx hb dX0_turnsSungAs_31 (by decide) ?_
      exact ih (j + 1) ls (by omega) ⟨by omega, by rw [tsa_t c22]; exact lv_sub hl [2, 3, 4, 5, 1, 0] rfl⟩
set_option maxHeartbeats 4000000 in
set_option maxRecDepth 100000 in
theorem mX0_landmarksNamed (x : Int32) (e : Nat) (he : e ≤ 10) : Met l yX0_landmarksNamed (wm yX0_landmarksNamed cX0_landmarksNamed 5 (some .int)) ({ frames := 0, cells := 0, slots := 0, locals := 0 } : Room) (va_Pc [.ref (q 0), .int x, .int (nI e)] (fun U => C0 D cyI cyZ q n st v mk w U U.heap)) (vp_Si (fun r => r = lc (v 3) x e)) 0 0 (fun _ => False) := by
  refine mt (by decide) (Nat.le_of_ble_eq_true rfl) ?_
  intro p ev s m below meth c ls hF hr hlocks hnm hX hl
  have hF : CallFix p m c cX0_landmarksNamed 5 s _ wA RX0 := hF
  obtain ⟨hx, hb, hml, hown, hts⟩ := id hF
  have hX : C0 D cyI cyZ q n st v mk w s s.heap := hX
  have hl : lv_has ls 5 [(0, .ref (q 0)), (1, .int x), (2, .int (nI e))] := hl
  refine lv_iconst (v := 0) hx hb dX0_landmarksNamed_0 (by decide) ?_
  refine lv_istore_n (lv' := [(3, .int 0), (0, .ref (q 0)), (1, .int x), (2, .int (nI e))]) hx hb dX0_landmarksNamed_1 rfl hl (by decide) rfl (fun ls hl => ?_)
  refine lv_iconst (v := 0) hx hb dX0_landmarksNamed_2 (by decide) ?_
  refine lv_istore (lv' := [(4, .int 0), (3, .int 0), (0, .ref (q 0)), (1, .int x), (2, .int (nI e))]) hx hb dX0_landmarksNamed_3 hl (by decide) rfl (fun ls hl => ?_)
  refine lpW (σ := Nat) (fun j ls => (j ≤ e) ∧ lv_has ls 5 [(0, .ref (q 0)), (1, .int x), (2, .int (nI e)), (3, .int (lc (v 3) x j)), (4, .int (nI j))]) (fun j => e - j) (fun j ls hI ih => ?_) (0) ⟨by omega, lv_sub hl [2, 3, 4, 1, 0] rfl⟩
  obtain ⟨hj, hl⟩ := hI
  refine lv_iload hx hb dX0_landmarksNamed_5 (lv_at hl 4 rfl) ?_
  refine lv_iload_n hx hb dX0_landmarksNamed_7 rfl (lv_at hl 2 rfl) ?_
  refine lv_icmp_ge (tgt := 31) hx hb dX0_landmarksNamed_8 (by decide) (fun c8 => ?_) (fun c8 => ?_)
  · have c8n : e ≤ j := (nI_leI (a := e) (b := j) (by omega) (by omega)).mp c8
    obtain rfl : j = e := by omega
    refine lv_iload_n hx hb dX0_landmarksNamed_31 rfl (lv_at hl 3 rfl) ?_
    exact W.iret hx hb hr (fun t ht hW => ⟨_, rfl, rfl, ht⟩) (fun q hq => absurd hq List.not_mem_nil) dX0_landmarksNamed_32
  · have c8n : ¬ e ≤ j := fun h9 => c8 ((nI_leI (a := e) (b := j) (by omega) (by omega)).mpr h9)
    refine lv_aload_n hx hb dX0_landmarksNamed_11 rfl (lv_at hl 0 rfl) ?_
    refine C0.get hF hX 4 (by decide) rfl rfl kf_RX0_23 dX0_landmarksNamed_12 ?_
    refine lv_iload hx hb dX0_landmarksNamed_15 (lv_at hl 4 rfl) ?_
    refine aldI hF hX.2.1 hX.1 5 0 rfl rfl j (by omega) (by decide) rfl dX0_landmarksNamed_17 ?_
    refine lv_iload_n hx hb dX0_landmarksNamed_18 rfl (lv_at hl 1 rfl) ?_
    refine lv_icmp_ne (tgt := 25) hx hb dX0_landmarksNamed_19 (by decide) (fun c19 => ?_) (fun c19 => ?_)
    · refine lv_iinc (v := (nI (j + 1))) (lv' := [(4, .int (nI (j + 1))), (0, .ref (q 0)), (1, .int x), (2, .int (nI e)), (3, .int (lc (v 3) x j))]) hx hb dX0_landmarksNamed_25 hl (k := 4) rfl (nI_1 _) (by decide) rfl (fun ls hl => ?_)
      refine lv_goto (tgt := 5) hx hb dX0_landmarksNamed_28 (by decide) ?_
      exact ih (j + 1) ls (by omega) ⟨by omega, by rw [lc_f c19]; exact lv_sub hl [1, 2, 3, 4, 0] rfl⟩
    · refine lv_iinc (v := ((lc (v 3) x j) + 1)) (lv' := [(3, .int ((lc (v 3) x j) + 1)), (0, .ref (q 0)), (1, .int x), (2, .int (nI e)), (4, .int (nI j))]) hx hb dX0_landmarksNamed_22 hl (k := 3) rfl (rfl) (by decide) rfl (fun ls hl => ?_)
      refine lv_iinc (v := (nI (j + 1))) (lv' := [(4, .int (nI (j + 1))), (3, .int ((lc (v 3) x j) + 1)), (0, .ref (q 0)), (1, .int x), (2, .int (nI e))]) hx hb dX0_landmarksNamed_25 hl (k := 4) rfl (nI_1 _) (by decide) rfl (fun ls hl => ?_)
      refine lv_goto (tgt := 5) hx hb dX0_landmarksNamed_28 (by decide) ?_
      exact ih (j + 1) ls (by omega) ⟨by omega, by rw [lc_t c19]; exact lv_sub hl [2, 3, 4, 1, 0] rfl⟩
end P10
