section P21
variable {l : Launch} {D : va_G} {cyI cyZ : ClassId} {q : Nat → Nat} {N K : Nat} {n st th md : Int32} {v w : Nat → Nat → Int32} {mk : Nat → Bool}
variable {t1 : Nat}
set_option maxHeartbeats 4000000 in
set_option maxRecDepth 100000 in
theorem mX1_isTwofold (hok : Ok N st v) (by1 : Int32) (hsg : Sg N by1 v w) (i : Nat) (hi : i < N) : Met l yX1_isTwofold (wm yX1_isTwofold cX1_isTwofold 3 (some .boolean)) ({ frames := 2, cells := 0, slots := 0, locals := 43 } : Room) (va_Pc [.ref (q 0), .int (nI i), .int by1] (fun U => M0 D cyI cyZ q th (nI N) st md v w U U.heap)) (vp_Si (fun r => r = b2i (tw (nt (v 0) by1 i) (v 0 i) by1))) 0 0 (fun _ => False) := by
  refine mt (by decide) (Nat.le_of_ble_eq_true rfl) ?_
  intro p ev s m below meth c ls hF hr hlocks hnm hX hl
  have hF : CallFix p m c cX1_isTwofold 3 s _ wA RX1 := hF
  obtain ⟨hx, hb, hml, hown, hts⟩ := id hF
  have hX : M0 D cyI cyZ q th (nI N) st md v w s s.heap := hX
  have hl : lv_has ls 3 [(0, .ref (q 0)), (1, .int (nI i)), (2, .int by1)] := hl
  have hN := hok.1
  refine lv_aload_n hx hb dX1_isTwofold_0 rfl (lv_at hl 0 rfl) ?_
  refine M0.get hF hX 3 (by decide) rfl rfl kf_RX1_13 dX1_isTwofold_1 ?_
  refine lv_iload_n hx hb dX1_isTwofold_4 rfl (lv_at hl 1 rfl) ?_
  refine aldI hF hX.2.1 hX.1 1 0 rfl rfl i (by omega) (by decide) rfl dX1_isTwofold_5 ?_
  refine lv_if_eq (tgt := 54) hx hb dX1_isTwofold_6 (by decide) (fun c6 => ?_) (fun c6 => ?_)
  · refine lv_iconst (v := 0) hx hb dX1_isTwofold_54 (by decide) ?_
    exact W.zret hx hb hr rfl (fun t ht hW => ⟨_, rfl, b2i_0 (tw_0 c6), ht⟩) (fun q hq => absurd hq List.not_mem_nil) dX1_isTwofold_55
  · refine lv_aload_n hx hb dX1_isTwofold_9 rfl (lv_at hl 0 rfl) ?_
    refine M0.get hF hX 8 (by decide) rfl rfl kf_RX1_26 dX1_isTwofold_10 ?_
    refine lv_iload_n hx hb dX1_isTwofold_13 rfl (lv_at hl 1 rfl) ?_
    refine aldI hF hX.2.1 hX.1 5 0 rfl rfl i (by omega) (by decide) rfl dX1_isTwofold_14 ?_
    refine lv_iload_n hx hb dX1_isTwofold_15 rfl (lv_at hl 2 rfl) ?_
    refine lv_aload_n hx hb dX1_isTwofold_16 rfl (lv_at hl 0 rfl) ?_
    refine M0.get hF hX 3 (by decide) rfl rfl kf_RX1_13 dX1_isTwofold_17 ?_
    refine lv_iload_n hx hb dX1_isTwofold_20 rfl (lv_at hl 1 rfl) ?_
    refine aldI hF hX.2.1 hX.1 1 0 rfl rfl i (by omega) (by decide) rfl dX1_isTwofold_21 ?_
    refine lv_imul hx hb dX1_isTwofold_22 ?_
    refine cSi (As := [.int (w 0 i), .int (by1 * (v 0 i))]) (rest := []) hF (mX1_folds (w 0 i) (by1 * (v 0 i))) Mv.const trivial jyX1_folds kl_RX1_64 ⟨rfl, rfl⟩ ⟨Nat.le_of_ble_eq_true rfl, Nat.le_of_ble_eq_true rfl⟩ rfl hl.1 rfl (Nat.le_of_ble_eq_true rfl) ⟨Nat.zero_le _, Nat.zero_le _⟩ dX1_isTwofold_23 (fun r hr9 => ?_)
    subst hr9
    refine lv_if_ne (tgt := 50) hx hb dX1_isTwofold_26 (by decide) (fun c26 => ?_) (fun c26 => ?_)
    · have c26b := b2i_t c26
      refine lv_iconst (v := 1) hx hb dX1_isTwofold_50 (by decide) ?_
      refine lv_goto (tgt := 55) hx hb dX1_isTwofold_51 (by decide) ?_
      exact W.zret hx hb hr rfl (fun t ht hW => ⟨_, rfl, b2i_1 (tw_1 c6 (by rw [← hsg i (by omega)]; exact c26b)), ht⟩) (fun q hq => absurd hq List.not_mem_nil) dX1_isTwofold_55
    · have c26b := b2i_f c26
      refine lv_aload_n hx hb dX1_isTwofold_29 rfl (lv_at hl 0 rfl) ?_
      refine M0.get hF hX 8 (by decide) rfl rfl kf_RX1_26 dX1_isTwofold_30 ?_
      refine lv_iload_n hx hb dX1_isTwofold_33 rfl (lv_at hl 1 rfl) ?_
      refine aldI hF hX.2.1 hX.1 5 0 rfl rfl i (by omega) (by decide) rfl dX1_isTwofold_34 ?_
      refine lv_iload_n hx hb dX1_isTwofold_35 rfl (lv_at hl 2 rfl) ?_
      refine lv_ineg hx hb dX1_isTwofold_36 ?_
      refine lv_aload_n hx hb dX1_isTwofold_37 rfl (lv_at hl 0 rfl) ?_
      refine M0.get hF hX 3 (by decide) rfl rfl kf_RX1_13 dX1_isTwofold_38 ?_
      refine lv_iload_n hx hb dX1_isTwofold_41 rfl (lv_at hl 1 rfl) ?_
      refine aldI hF hX.2.1 hX.1 1 0 rfl rfl i (by omega) (by decide) rfl dX1_isTwofold_42 ?_
      refine lv_imul hx hb dX1_isTwofold_43 ?_
      refine cSi (As := [.int (w 0 i), .int ((-by1) * (v 0 i))]) (rest := []) hF (mX1_folds (w 0 i) ((-by1) * (v 0 i))) Mv.const trivial jyX1_folds kl_RX1_64 ⟨rfl, rfl⟩ ⟨Nat.le_of_ble_eq_true rfl, Nat.le_of_ble_eq_true rfl⟩ rfl hl.1 rfl (Nat.le_of_ble_eq_true rfl) ⟨Nat.zero_le _, Nat.zero_le _⟩ dX1_isTwofold_44 (fun r hr9 => ?_)
      subst hr9
      refine lv_if_eq (tgt := 54) hx hb dX1_isTwofold_47 (by decide) (fun c47 => ?_) (fun c47 => ?_)
      · have c47b := b2i_f c47
        refine lv_iconst (v := 0) hx hb dX1_isTwofold_54 (by decide) ?_
        exact W.zret hx hb hr rfl (fun t ht hW => ⟨_, rfl, b2i_0 (tw_3 (by rw [← hsg i (by omega)]; exact c26b) (by rw [← hsg i (by omega)]; exact c47b)), ht⟩) (fun q hq => absurd hq List.not_mem_nil) dX1_isTwofold_55
      · have c47b := b2i_t c47
        refine lv_iconst (v := 1) hx hb dX1_isTwofold_50 (by decide) ?_
        refine lv_goto (tgt := 55) hx hb dX1_isTwofold_51 (by decide) ?_
        exact W.zret hx hb hr rfl (fun t ht hW => ⟨_, rfl, b2i_1 (tw_2 c6 (by rw [← hsg i (by omega)]; exact c47b)), ht⟩) (fun q hq => absurd hq List.not_mem_nil) dX1_isTwofold_55
set_option maxHeartbeats 4000000 in
set_option maxRecDepth 100000 in
theorem mX1_alike (a : Nat) (ha : a < 10) : Met l yX1_alike (wm yX1_alike cX1_alike 4 (some .int)) ({ frames := 0, cells := 0, slots := 0, locals := 0 } : Room) (va_Pc [.ref (q 0), .int (nI a)] (fun U => M0 D cyI cyZ q th (nI N) st md v w U U.heap)) (vp_Si (fun r => r = lc (v 3) (v 3 a) 10)) 0 0 (fun _ => False) := by
  refine mt (by decide) (Nat.le_of_ble_eq_true rfl) ?_
  intro p ev s m below meth c ls hF hr hlocks hnm hX hl
  have hF : CallFix p m c cX1_alike 4 s _ wA RX1 := hF
  obtain ⟨hx, hb, hml, hown, hts⟩ := id hF
  have hX : M0 D cyI cyZ q th (nI N) st md v w s s.heap := hX
  have hl : lv_has ls 4 [(0, .ref (q 0)), (1, .int (nI a))] := hl
  refine lv_iconst (v := 0) hx hb dX1_alike_0 (by decide) ?_
  refine lv_istore_n (lv' := [(2, .int 0), (0, .ref (q 0)), (1, .int (nI a))]) hx hb dX1_alike_1 rfl hl (by decide) rfl (fun ls hl => ?_)
  refine lv_iconst (v := 0) hx hb dX1_alike_2 (by decide) ?_
  refine lv_istore_n (lv' := [(3, .int 0), (2, .int 0), (0, .ref (q 0)), (1, .int (nI a))]) hx hb dX1_alike_3 rfl hl (by decide) rfl (fun ls hl => ?_)
  refine lpW (σ := Nat) (fun j ls => (j ≤ 10) ∧ lv_has ls 4 [(0, .ref (q 0)), (1, .int (nI a)), (2, .int (lc (v 3) (v 3 a) j)), (3, .int (nI j))]) (fun j => 10 - j) (fun j ls hI ih => ?_) (0) ⟨by omega, lv_sub hl [2, 3, 1, 0] rfl⟩
  obtain ⟨hj, hl⟩ := hI
  refine lv_iload_n hx hb dX1_alike_4 rfl (lv_at hl 3 rfl) ?_
  refine lv_bipush (v := 10) hx hb dX1_alike_5 (by decide) ?_
  refine lv_icmp_ge (tgt := 39) hx hb dX1_alike_7 (by decide) (fun c7 => ?_) (fun c7 => ?_)
  · have c7n : 10 ≤ j := (nI_leI (a := 10) (b := j) (by omega) (by omega)).mp c7
    obtain rfl : j = 10 := by omega
    refine lv_iload_n hx hb dX1_alike_39 rfl (lv_at hl 2 rfl) ?_
    exact W.iret hx hb hr (fun t ht hW => ⟨_, rfl, rfl, ht⟩) (fun q hq => absurd hq List.not_mem_nil) dX1_alike_40
  · have c7n : ¬ 10 ≤ j := fun h9 => c7 ((nI_leI (a := 10) (b := j) (by omega) (by omega)).mpr h9)
    refine lv_iload_n hx hb dX1_alike_10 rfl (lv_at hl 2 rfl) ?_
    refine lv_aload_n hx hb dX1_alike_11 rfl (lv_at hl 0 rfl) ?_
    refine M0.get hF hX 6 (by decide) rfl rfl kf_RX1_23 dX1_alike_12 ?_
    refine lv_iload_n hx hb dX1_alike_15 rfl (lv_at hl 3 rfl) ?_
    refine aldI hF hX.2.1 hX.1 4 0 rfl rfl j (by omega) (by decide) rfl dX1_alike_16 ?_
    refine lv_aload_n hx hb dX1_alike_17 rfl (lv_at hl 0 rfl) ?_
    refine M0.get hF hX 6 (by decide) rfl rfl kf_RX1_23 dX1_alike_18 ?_
    refine lv_iload_n hx hb dX1_alike_21 rfl (lv_at hl 1 rfl) ?_
    refine aldI hF hX.2.1 hX.1 4 0 rfl rfl a (by omega) (by decide) rfl dX1_alike_22 ?_
    refine lv_icmp_ne (tgt := 30) hx hb dX1_alike_23 (by decide) (fun c23 => ?_) (fun c23 => ?_)
    · refine lv_iconst (v := 0) hx hb dX1_alike_30 (by decide) ?_
      refine lv_iadd hx hb dX1_alike_31 ?_
      refine topI (show ((lc (v 3) (v 3 a) j) + 0) = lc (v 3) (v 3 a) (j + 1) from lc_f' c23 rfl) ?_
      refine lv_istore_n (lv' := [(2, .int (lc (v 3) (v 3 a) (j + 1))), (0, .ref (q 0)), (1, .int (nI a)), (3, .int (nI j))]) hx hb dX1_alike_32 rfl hl (by decide) rfl (fun ls hl => ?_)
      refine lv_iinc (v := (nI (j + 1))) (lv' := [(3, .int (nI (j + 1))), (2, .int (lc (v 3) (v 3 a) (j + 1))), (0, .ref (q 0)), (1, .int (nI a))]) hx hb dX1_alike_33 hl (k := 3) rfl (nI_1 _) (by decide) rfl (fun ls hl => ?_)
      refine lv_goto (tgt := 4) hx hb dX1_alike_36 (by decide) ?_
      exact ih (j + 1) ls (by omega) ⟨by omega, by exact lv_sub hl [2, 3, 1, 0] rfl⟩
    · refine lv_iconst (v := 1) hx hb dX1_alike_26 (by decide) ?_
      refine lv_goto (tgt := 31) hx hb dX1_alike_27 (by decide) ?_
      refine lv_iadd hx hb dX1_alike_31 ?_
      refine topI (show ((lc (v 3) (v 3 a) j) + 1) = lc (v 3) (v 3 a) (j + 1) from lc_t' c23 rfl) ?_
      refine lv_istore_n (lv' := [(2, .int (lc (v 3) (v 3 a) (j + 1))), (0, .ref (q 0)), (1, .int (nI a)), (3, .int (nI j))]) hx hb dX1_alike_32 rfl hl (by decide) rfl (fun ls hl => ?_)
      refine lv_iinc (v := (nI (j + 1))) (lv' := [(3, .int (nI (j + 1))), (2, .int (lc (v 3) (v 3 a) (j + 1))), (0, .ref (q 0)), (1, .int (nI a))]) hx hb dX1_alike_33 hl (k := 3) rfl (nI_1 _) (by decide) rfl (fun ls hl => ?_)
      refine lv_goto (tgt := 4) hx hb dX1_alike_36 (by decide) ?_
      exact ih (j + 1) ls (by omega) ⟨by omega, by exact lv_sub hl [2, 3, 1, 0] rfl⟩
set_option maxHeartbeats 4000000 in
set_option maxRecDepth 100000 in
theorem mX1_many (hok : Ok N st v) (by1 : Int32) (hsg : Sg N by1 v w) (i : Nat) (hi : i < N) : Met l yX1_many (wm yX1_many cX1_many 3 (some .int)) ({ frames := 3, cells := 0, slots := 0, locals := 65 } : Room) (va_Pc [.ref (q 0), .int (nI i), .int by1] (fun U => M0 D cyI cyZ q th (nI N) st md v w U U.heap)) (vp_Si (fun r => r = mny v by1 i)) 0 0 (fun _ => False) := by
  refine mt (by decide) (Nat.le_of_ble_eq_true rfl) ?_
  intro p ev s m below meth c ls hF hr hlocks hnm hX hl
  have hF : CallFix p m c cX1_many 3 s _ wA RX1 := hF
  obtain ⟨hx, hb, hml, hown, hts⟩ := id hF
  have hX : M0 D cyI cyZ q th (nI N) st md v w s s.heap := hX
  have hl : lv_has ls 3 [(0, .ref (q 0)), (1, .int (nI i)), (2, .int by1)] := hl
  have hN := hok.1
  refine lv_aload_n hx hb dX1_many_0 rfl (lv_at hl 0 rfl) ?_
  refine lv_iload_n hx hb dX1_many_1 rfl (lv_at hl 1 rfl) ?_
  refine lv_iload_n hx hb dX1_many_2 rfl (lv_at hl 2 rfl) ?_
  refine cVi (As := [.int (nI i), .int by1]) (rest := []) hF (mX1_isTwofold hok by1 hsg i (by omega)) M0.mv hX (M0.rc hX) jyX1_isTwofold kl_RX1_76 ⟨rfl, rfl⟩ ⟨Nat.le_of_ble_eq_true rfl, Nat.le_of_ble_eq_true rfl⟩ rfl hl.1 rfl (Nat.le_of_ble_eq_true rfl) ⟨Nat.zero_le _, Nat.zero_le _⟩ dX1_many_3 (fun r hr9 => ?_)
  subst hr9
  refine lv_if_eq (tgt := 13) hx hb dX1_many_6 (by decide) (fun c6 => ?_) (fun c6 => ?_)
  · have c6b := b2i_f c6
    refine lv_iconst (v := 1) hx hb dX1_many_13 (by decide) ?_
    refine lv_aload_n hx hb dX1_many_14 rfl (lv_at hl 0 rfl) ?_
    refine lv_aload_n hx hb dX1_many_15 rfl (lv_at hl 0 rfl) ?_
    refine M0.get hF hX 5 (by decide) rfl rfl kf_RX1_20 dX1_many_16 ?_
    refine lv_iload_n hx hb dX1_many_19 rfl (lv_at hl 1 rfl) ?_
    refine aldI hF hX.2.1 hX.1 3 0 rfl rfl i (by omega) (by decide) rfl dX1_many_20 ?_
    refine topI (show (v 2 i) = nI (ix (v 2 i)) from okM hok i) ?_
    refine cVi (As := [.int (nI (ix (v 2 i)))]) (rest := [.int 1]) hF (mX1_alike (ix (v 2 i)) (okM10 hok i)) M0.mv hX (M0.rc hX) jyX1_alike kl_RX1_79 ⟨rfl, rfl⟩ ⟨Nat.le_of_ble_eq_true rfl, Nat.le_of_ble_eq_true rfl⟩ rfl hl.1 rfl (Nat.le_of_ble_eq_true rfl) ⟨Nat.zero_le _, Nat.zero_le _⟩ dX1_many_21 (fun r hr9 => ?_)
    subst hr9
    refine lv_imul hx hb dX1_many_24 ?_
    exact W.iret hx hb hr (fun t ht hW => ⟨_, rfl, mny_f c6b, ht⟩) (fun q hq => absurd hq List.not_mem_nil) dX1_many_25
  · have c6b := b2i_t c6
    refine lv_iconst (v := 2) hx hb dX1_many_9 (by decide) ?_
    refine lv_goto (tgt := 14) hx hb dX1_many_10 (by decide) ?_
    refine lv_aload_n hx hb dX1_many_14 rfl (lv_at hl 0 rfl) ?_
    refine lv_aload_n hx hb dX1_many_15 rfl (lv_at hl 0 rfl) ?_
    refine M0.get hF hX 5 (by decide) rfl rfl kf_RX1_20 dX1_many_16 ?_
    refine lv_iload_n hx hb dX1_many_19 rfl (lv_at hl 1 rfl) ?_
    refine aldI hF hX.2.1 hX.1 3 0 rfl rfl i (by omega) (by decide) rfl dX1_many_20 ?_
    refine topI (show (v 2 i) = nI (ix (v 2 i)) from okM hok i) ?_
    refine cVi (As := [.int (nI (ix (v 2 i)))]) (rest := [.int 2]) hF (mX1_alike (ix (v 2 i)) (okM10 hok i)) M0.mv hX (M0.rc hX) jyX1_alike kl_RX1_79 ⟨rfl, rfl⟩ ⟨Nat.le_of_ble_eq_true rfl, Nat.le_of_ble_eq_true rfl⟩ rfl hl.1 rfl (Nat.le_of_ble_eq_true rfl) ⟨Nat.zero_le _, Nat.zero_le _⟩ dX1_many_21 (fun r hr9 => ?_)
    subst hr9
    refine lv_imul hx hb dX1_many_24 ?_
    exact W.iret hx hb hr (fun t ht hW => ⟨_, rfl, mny_t c6b, ht⟩) (fun q hq => absurd hq List.not_mem_nil) dX1_many_25
set_option maxHeartbeats 4000000 in
set_option maxRecDepth 100000 in
theorem mX1_manyNow (hok : Ok N st v) (i : Nat) (hi : i < N) : Met l yX1_manyNow (wm yX1_manyNow cX1_manyNow 2 (some .int)) ({ frames := 4, cells := 0, slots := 0, locals := 87 } : Room) (va_Pc [.ref (q 0), .int (nI i)] (fun U => M0 D cyI cyZ q th (nI N) st md v w U U.heap)) (va_Qi (fun (r : Int32) (u : Nat → Nat → Int32) => r = rdn v st i) (fun u U => (fun (u : Nat → Nat → Int32) => (M0 D cyI cyZ q th (nI N) st md v u : State → Heap → Prop)) u U U.heap) (own 8 q)) 0 0 (own 8 q) := by
  refine mt (by decide) (Nat.le_of_ble_eq_true rfl) ?_
  intro p ev s m below meth c ls hF hr hlocks hnm hX hl
  have hF : CallFix p m c cX1_manyNow 2 s _ wA RX1 := hF
  obtain ⟨hx, hb, hml, hown, hts⟩ := id hF
  have hX : M0 D cyI cyZ q th (nI N) st md v w s s.heap := hX
  have hl : lv_has ls 2 [(0, .ref (q 0)), (1, .int (nI i))] := hl
  have hS : va_S (own 8 q) s.heap s.heap [] := va_S.rf
  have hN := hok.1
  refine lv_aload_n hx hb dX1_manyNow_0 rfl (lv_at hl 0 rfl) ?_
  refine lv_aload_n hx hb dX1_manyNow_1 rfl (lv_at hl 0 rfl) ?_
  refine M0.get hF hX 2 (by decide) rfl rfl kf_RX1_7 dX1_manyNow_2 ?_
  refine wVv (mc := 0) (ms := 0) (As := [.int st]) (rest := []) hF (mX1_sing hok st) M0.mv (fun _ => M0.mv) hX (M0.rc hX) jyX1_sing kl_RX1_68 ⟨rfl, rfl⟩ ⟨Nat.le_of_ble_eq_true rfl, Nat.le_of_ble_eq_true rfl⟩ rfl hl.1 rfl (Nat.le_of_ble_eq_true rfl) ⟨Nat.zero_le _, Nat.zero_le _⟩ hS (fun _ _ h => h) (fun _ h => h) dX1_manyNow_5 (fun w1 H locs hp hX hz hk hS => ?_)
  have hsg := hp
  refine lv_aload_n hx hb dX1_manyNow_8 rfl (lv_at hl 0 rfl) ?_
  refine lv_iload_n hx hb dX1_manyNow_9 rfl (lv_at hl 1 rfl) ?_
  refine lv_aload_n hx hb dX1_manyNow_10 rfl (lv_at hl 0 rfl) ?_
  refine M0.get hF hX 2 (by decide) rfl rfl kf_RX1_7 dX1_manyNow_11 ?_
  refine cVi (As := [.int (nI i), .int st]) (rest := []) hF (mX1_many hok st hsg i (by omega)) M0.mv hX (M0.rc hX) jyX1_many kl_RX1_82 ⟨rfl, rfl⟩ ⟨Nat.le_of_ble_eq_true rfl, Nat.le_of_ble_eq_true rfl⟩ rfl hl.1 rfl (Nat.le_of_ble_eq_true rfl) ⟨Nat.zero_le _, Nat.zero_le _⟩ dX1_manyNow_14 (fun r hr9 => ?_)
  subst hr9
  exact W.iret hx hb hr (fun t ht hW => ⟨⟨_, w1, rfl, rfl, wEnd M0.mv hX ht hW⟩, hS.F ht⟩) hS.2.2 dX1_manyNow_17
set_option maxHeartbeats 4000000 in
set_option maxRecDepth 100000 in
theorem mX1_right (hok : Ok N st v) (i : Nat) (hi : i < N) : Met l yX1_right (wm yX1_right cX1_right 4 (some .int)) ({ frames := 3, cells := 0, slots := 0, locals := 65 } : Room) (va_Pc [.ref (q 0), .int (nI i)] (fun U => M0 D cyI cyZ q th (nI N) st md v w U U.heap)) (va_Qi (fun (r : Int32) (u : Nat → Nat → Int32) => r = rrn v st i) (fun u U => (fun (u : Nat → Nat → Int32) => (M0 D cyI cyZ q th (nI N) st md v u : State → Heap → Prop)) u U U.heap) (own 8 q)) 0 0 (own 8 q) := by
  refine mt (by decide) (Nat.le_of_ble_eq_true rfl) ?_
  intro p ev s m below meth c ls hF hr hlocks hnm hX hl
  have hF : CallFix p m c cX1_right 4 s _ wA RX1 := hF
  obtain ⟨hx, hb, hml, hown, hts⟩ := id hF
  have hX : M0 D cyI cyZ q th (nI N) st md v w s s.heap := hX
  have hl : lv_has ls 4 [(0, .ref (q 0)), (1, .int (nI i))] := hl
  have hS : va_S (own 8 q) s.heap s.heap [] := va_S.rf
  have hN := hok.1
  have h10 := okM10 hok i
  refine lv_aload_n hx hb dX1_right_0 rfl (lv_at hl 0 rfl) ?_
  refine lv_aload_n hx hb dX1_right_1 rfl (lv_at hl 0 rfl) ?_
  refine M0.get hF hX 2 (by decide) rfl rfl kf_RX1_7 dX1_right_2 ?_
  refine wVv (mc := 0) (ms := 0) (As := [.int st]) (rest := []) hF (mX1_sing hok st) M0.mv (fun _ => M0.mv) hX (M0.rc hX) jyX1_sing kl_RX1_68 ⟨rfl, rfl⟩ ⟨Nat.le_of_ble_eq_true rfl, Nat.le_of_ble_eq_true rfl⟩ rfl hl.1 rfl (Nat.le_of_ble_eq_true rfl) ⟨Nat.zero_le _, Nat.zero_le _⟩ hS (fun _ _ h => h) (fun _ h => h) dX1_right_5 (fun w1 H locs hp hX hz hk hS => ?_)
  have hsg := hp
  refine lv_aload_n hx hb dX1_right_8 rfl (lv_at hl 0 rfl) ?_
  refine lv_iload_n hx hb dX1_right_9 rfl (lv_at hl 1 rfl) ?_
  refine lv_aload_n hx hb dX1_right_10 rfl (lv_at hl 0 rfl) ?_
  refine M0.get hF hX 2 (by decide) rfl rfl kf_RX1_7 dX1_right_11 ?_
  refine cVi (As := [.int (nI i), .int st]) (rest := []) hF (mX1_isTwofold hok st hsg i (by omega)) M0.mv hX (M0.rc hX) jyX1_isTwofold kl_RX1_76 ⟨rfl, rfl⟩ ⟨Nat.le_of_ble_eq_true rfl, Nat.le_of_ble_eq_true rfl⟩ rfl hl.1 rfl (Nat.le_of_ble_eq_true rfl) ⟨Nat.zero_le _, Nat.zero_le _⟩ dX1_right_14 (fun r hr9 => ?_)
  subst hr9
  refine lv_if_eq (tgt := 42) hx hb dX1_right_17 (by decide) (fun c17 => ?_) (fun c17 => ?_)
  · have c17b := b2i_f c17
    refine lv_iconst (v := 0) hx hb dX1_right_42 (by decide) ?_
    refine topI (show 0 = rrS v st i 0 from rrS_a c17b) ?_
    refine lv_istore_n (lv' := [(2, .int (rrS v st i 0)), (0, .ref (q 0)), (1, .int (nI i))]) hx hb dX1_right_43 rfl hl (by decide) rfl (fun ls hl => ?_)
    refine lv_iconst (v := 0) hx hb dX1_right_44 (by decide) ?_
    refine lv_istore_n (lv' := [(3, .int 0), (2, .int (rrS v st i 0)), (0, .ref (q 0)), (1, .int (nI i))]) hx hb dX1_right_45 rfl hl (by decide) rfl (fun ls hl => ?_)
    refine lpW (σ := Nat) (fun j ls => (j ≤ ix (v 2 i)) ∧ lv_has ls 4 [(0, .ref (q 0)), (1, .int (nI i)), (2, .int (rrS v st i j)), (3, .int (nI j))]) (fun j => ix (v 2 i) - j) (fun j ls hI ih => ?_) (0) ⟨Nat.zero_le _, lv_sub hl [2, 3, 1, 0] rfl⟩
    obtain ⟨hj, hl⟩ := hI
    refine lv_iload_n hx hb dX1_right_46 rfl (lv_at hl 3 rfl) ?_
    refine lv_aload_n hx hb dX1_right_47 rfl (lv_at hl 0 rfl) ?_
    refine M0.get hF hX 5 (by decide) rfl rfl kf_RX1_20 dX1_right_48 ?_
    refine lv_iload_n hx hb dX1_right_51 rfl (lv_at hl 1 rfl) ?_
    refine aldI hF hX.2.1 hX.1 3 0 rfl rfl i (by omega) (by decide) rfl dX1_right_52 ?_
    refine topI (show (v 2 i) = nI (ix (v 2 i)) from okM hok i) ?_
    refine lv_icmp_ge (tgt := 90) hx hb dX1_right_53 (by decide) (fun c53 => ?_) (fun c53 => ?_)
    · have c53n : (ix (v 2 i)) ≤ j := (nI_leI (a := (ix (v 2 i))) (b := j) (by omega) (by omega)).mp c53
      obtain rfl : j = ix (v 2 i) := by omega
      refine lv_iload_n hx hb dX1_right_90 rfl (lv_at hl 2 rfl) ?_
      exact W.iret hx hb hr (fun t ht hW => ⟨⟨_, w1, rfl, rfl, wEnd M0.mv hX ht hW⟩, hS.F ht⟩) hS.2.2 dX1_right_91
    · have c53n : ¬ (ix (v 2 i)) ≤ j := fun h9 => c53 ((nI_leI (a := (ix (v 2 i))) (b := j) (by omega) (by omega)).mpr h9)
      refine lv_iload_n hx hb dX1_right_56 rfl (lv_at hl 2 rfl) ?_
      refine lv_aload_n hx hb dX1_right_57 rfl (lv_at hl 0 rfl) ?_
      refine M0.get hF hX 6 (by decide) rfl rfl kf_RX1_23 dX1_right_58 ?_
      refine lv_iload_n hx hb dX1_right_61 rfl (lv_at hl 3 rfl) ?_
      refine aldI hF hX.2.1 hX.1 4 0 rfl rfl j (by omega) (by decide) rfl dX1_right_62 ?_
      refine lv_aload_n hx hb dX1_right_63 rfl (lv_at hl 0 rfl) ?_
      refine M0.get hF hX 6 (by decide) rfl rfl kf_RX1_23 dX1_right_64 ?_
      refine lv_aload_n hx hb dX1_right_67 rfl (lv_at hl 0 rfl) ?_
      refine M0.get hF hX 5 (by decide) rfl rfl kf_RX1_20 dX1_right_68 ?_
      refine lv_iload_n hx hb dX1_right_71 rfl (lv_at hl 1 rfl) ?_
      refine aldI hF hX.2.1 hX.1 3 0 rfl rfl i (by omega) (by decide) rfl dX1_right_72 ?_
      refine aldI hF hX.2.1 hX.1 4 0 rfl rfl (ix (v 2 i)) (okM10 hok i) (by decide) (okM hok i) dX1_right_73 ?_
      refine lv_icmp_ne (tgt := 81) hx hb dX1_right_74 (by decide) (fun c74 => ?_) (fun c74 => ?_)
      · refine lv_iconst (v := 0) hx hb dX1_right_81 (by decide) ?_
        refine lv_iadd hx hb dX1_right_82 ?_
        refine topI (show ((rrS v st i j) + 0) = rrS v st i (j + 1) from rrS_f c74) ?_
        refine lv_istore_n (lv' := [(2, .int (rrS v st i (j + 1))), (0, .ref (q 0)), (1, .int (nI i)), (3, .int (nI j))]) hx hb dX1_right_83 rfl hl (by decide) rfl (fun ls hl => ?_)
        refine lv_iinc (v := (nI (j + 1))) (lv' := [(3, .int (nI (j + 1))), (2, .int (rrS v st i (j + 1))), (0, .ref (q 0)), (1, .int (nI i))]) hx hb dX1_right_84 hl (k := 3) rfl (nI_1 _) (by decide) rfl (fun ls hl => ?_)
        refine lv_goto (tgt := 46) hx hb dX1_right_87 (by decide) ?_
        exact ih (j + 1) ls (by omega) ⟨by omega, by exact lv_sub hl [2, 3, 1, 0] rfl⟩
      · refine lv_iconst (v := 1) hx hb dX1_right_77 (by decide) ?_
        refine lv_goto (tgt := 82) hx hb dX1_right_78 (by decide) ?_
        refine lv_iadd hx hb dX1_right_82 ?_
        refine topI (show ((rrS v st i j) + 1) = rrS v st i (j + 1) from rrS_t c74) ?_
        refine lv_istore_n (lv' := [(2, .int (rrS v st i (j + 1))), (0, .ref (q 0)), (1, .int (nI i)), (3, .int (nI j))]) hx hb dX1_right_83 rfl hl (by decide) rfl (fun ls hl => ?_)
        refine lv_iinc (v := (nI (j + 1))) (lv' := [(3, .int (nI (j + 1))), (2, .int (rrS v st i (j + 1))), (0, .ref (q 0)), (1, .int (nI i))]) hx hb dX1_right_84 hl (k := 3) rfl (nI_1 _) (by decide) rfl (fun ls hl => ?_)
        refine lv_goto (tgt := 46) hx hb dX1_right_87 (by decide) ?_
        exact ih (j + 1) ls (by omega) ⟨by omega, by exact lv_sub hl [2, 3, 1, 0] rfl⟩
  · have c17b := b2i_t c17
    refine lv_aload_n hx hb dX1_right_20 rfl (lv_at hl 0 rfl) ?_
    refine M0.get hF hX 3 (by decide) rfl rfl kf_RX1_13 dX1_right_21 ?_
    refine lv_iload_n hx hb dX1_right_24 rfl (lv_at hl 1 rfl) ?_
    refine aldI hF hX.2.1 hX.1 1 0 rfl rfl i (by omega) (by decide) rfl dX1_right_25 ?_
    refine lv_if_le (tgt := 42) hx hb dX1_right_26 (by decide) (fun c26 => ?_) (fun c26 => ?_)
    · refine lv_iconst (v := 0) hx hb dX1_right_42 (by decide) ?_
      refine topI (show 0 = rrS v st i 0 from rrS_b c26) ?_
      refine lv_istore_n (lv' := [(2, .int (rrS v st i 0)), (0, .ref (q 0)), (1, .int (nI i))]) hx hb dX1_right_43 rfl hl (by decide) rfl (fun ls hl => ?_)
      refine lv_iconst (v := 0) hx hb dX1_right_44 (by decide) ?_
      refine lv_istore_n (lv' := [(3, .int 0), (2, .int (rrS v st i 0)), (0, .ref (q 0)), (1, .int (nI i))]) hx hb dX1_right_45 rfl hl (by decide) rfl (fun ls hl => ?_)
      refine lpW (σ := Nat) (fun j ls => (j ≤ ix (v 2 i)) ∧ lv_has ls 4 [(0, .ref (q 0)), (1, .int (nI i)), (2, .int (rrS v st i j)), (3, .int (nI j))]) (fun j => ix (v 2 i) - j) (fun j ls hI ih => ?_) (0) ⟨Nat.zero_le _, lv_sub hl [2, 3, 1, 0] rfl⟩
      obtain ⟨hj, hl⟩ := hI
      refine lv_iload_n hx hb dX1_right_46 rfl (lv_at hl 3 rfl) ?_
      refine lv_aload_n hx hb dX1_right_47 rfl (lv_at hl 0 rfl) ?_
      refine M0.get hF hX 5 (by decide) rfl rfl kf_RX1_20 dX1_right_48 ?_
      refine lv_iload_n hx hb dX1_right_51 rfl (lv_at hl 1 rfl) ?_
      refine aldI hF hX.2.1 hX.1 3 0 rfl rfl i (by omega) (by decide) rfl dX1_right_52 ?_
      refine topI (show (v 2 i) = nI (ix (v 2 i)) from okM hok i) ?_
      refine lv_icmp_ge (tgt := 90) hx hb dX1_right_53 (by decide) (fun c53 => ?_) (fun c53 => ?_)
      · have c53n : (ix (v 2 i)) ≤ j := (nI_leI (a := (ix (v 2 i))) (b := j) (by omega) (by omega)).mp c53
        obtain rfl : j = ix (v 2 i) := by omega
        refine lv_iload_n hx hb dX1_right_90 rfl (lv_at hl 2 rfl) ?_
        exact W.iret hx hb hr (fun t ht hW => ⟨⟨_, w1, rfl, rfl, wEnd M0.mv hX ht hW⟩, hS.F ht⟩) hS.2.2 dX1_right_91
      · have c53n : ¬ (ix (v 2 i)) ≤ j := fun h9 => c53 ((nI_leI (a := (ix (v 2 i))) (b := j) (by omega) (by omega)).mpr h9)
        refine lv_iload_n hx hb dX1_right_56 rfl (lv_at hl 2 rfl) ?_
        refine lv_aload_n hx hb dX1_right_57 rfl (lv_at hl 0 rfl) ?_
        refine M0.get hF hX 6 (by decide) rfl rfl kf_RX1_23 dX1_right_58 ?_
        refine lv_iload_n hx hb dX1_right_61 rfl (lv_at hl 3 rfl) ?_
        refine aldI hF hX.2.1 hX.1 4 0 rfl rfl j (by omega) (by decide) rfl dX1_right_62 ?_
        refine lv_aload_n hx hb dX1_right_63 rfl (lv_at hl 0 rfl) ?_
        refine M0.get hF hX 6 (by decide) rfl rfl kf_RX1_23 dX1_right_64 ?_
        refine lv_aload_n hx hb dX1_right_67 rfl (lv_at hl 0 rfl) ?_
        refine M0.get hF hX 5 (by decide) rfl rfl kf_RX1_20 dX1_right_68 ?_
        refine lv_iload_n hx hb dX1_right_71 rfl (lv_at hl 1 rfl) ?_
        refine aldI hF hX.2.1 hX.1 3 0 rfl rfl i (by omega) (by decide) rfl dX1_right_72 ?_
        refine aldI hF hX.2.1 hX.1 4 0 rfl rfl (ix (v 2 i)) (okM10 hok i) (by decide) (okM hok i) dX1_right_73 ?_
        refine lv_icmp_ne (tgt := 81) hx hb dX1_right_74 (by decide) (fun c74 => ?_) (fun c74 => ?_)
        · refine lv_iconst (v := 0) hx hb dX1_right_81 (by decide) ?_
          refine lv_iadd hx hb dX1_right_82 ?_
          refine topI (show ((rrS v st i j) + 0) = rrS v st i (j + 1) from rrS_f c74) ?_
          refine lv_istore_n (lv' := [(2, .int (rrS v st i (j + 1))), (0, .ref (q 0)), (1, .int (nI i)), (3, .int (nI j))]) hx hb dX1_right_83 rfl hl (by decide) rfl (fun ls hl => ?_)
          refine lv_iinc (v := (nI (j + 1))) (lv' := [(3, .int (nI (j + 1))), (2, .int (rrS v st i (j + 1))), (0, .ref (q 0)), (1, .int (nI i))]) hx hb dX1_right_84 hl (k := 3) rfl (nI_1 _) (by decide) rfl (fun ls hl => ?_)
          refine lv_goto (tgt := 46) hx hb dX1_right_87 (by decide) ?_
          exact ih (j + 1) ls (by omega) ⟨by omega, by exact lv_sub hl [2, 3, 1, 0] rfl⟩
        · refine lv_iconst (v := 1) hx hb dX1_right_77 (by decide) ?_
          refine lv_goto (tgt := 82) hx hb dX1_right_78 (by decide) ?_
          refine lv_iadd hx hb dX1_right_82 ?_
          refine topI (show ((rrS v st i j) + 1) = rrS v st i (j + 1) from rrS_t c74) ?_
          refine lv_istore_n (lv' := [(2, .int (rrS v st i (j + 1))), (0, .ref (q 0)), (1, .int (nI i)), (3, .int (nI j))]) hx hb dX1_right_83 rfl hl (by decide) rfl (fun ls hl => ?_)
          refine lv_iinc (v := (nI (j + 1))) (lv' := [(3, .int (nI (j + 1))), (2, .int (rrS v st i (j + 1))), (0, .ref (q 0)), (1, .int (nI i))]) hx hb dX1_right_84 hl (k := 3) rfl (nI_1 _) (by decide) rfl (fun ls hl => ?_)
          refine lv_goto (tgt := 46) hx hb dX1_right_87 (by decide) ?_
          exact ih (j + 1) ls (by omega) ⟨by omega, by exact lv_sub hl [2, 3, 1, 0] rfl⟩
    · refine lv_aload_n hx hb dX1_right_29 rfl (lv_at hl 0 rfl) ?_
      refine lv_aload_n hx hb dX1_right_30 rfl (lv_at hl 0 rfl) ?_
      refine M0.get hF hX 5 (by decide) rfl rfl kf_RX1_20 dX1_right_31 ?_
      refine lv_iload_n hx hb dX1_right_34 rfl (lv_at hl 1 rfl) ?_
      refine aldI hF hX.2.1 hX.1 3 0 rfl rfl i (by omega) (by decide) rfl dX1_right_35 ?_
      refine topI (show (v 2 i) = nI (ix (v 2 i)) from okM hok i) ?_
      refine cVi (As := [.int (nI (ix (v 2 i)))]) (rest := []) hF (mX1_alike (ix (v 2 i)) (okM10 hok i)) M0.mv hX (M0.rc hX) jyX1_alike kl_RX1_79 ⟨rfl, rfl⟩ ⟨Nat.le_of_ble_eq_true rfl, Nat.le_of_ble_eq_true rfl⟩ rfl hl.1 rfl (Nat.le_of_ble_eq_true rfl) ⟨Nat.zero_le _, Nat.zero_le _⟩ dX1_right_36 (fun r hr9 => ?_)
      subst hr9
      refine lv_goto (tgt := 43) hx hb dX1_right_39 (by decide) ?_
      refine topI (show (lc (v 3) (v 3 (ix (v 2 i))) 10) = rrS v st i 0 from rrS_c c17b c26) ?_
      refine lv_istore_n (lv' := [(2, .int (rrS v st i 0)), (0, .ref (q 0)), (1, .int (nI i))]) hx hb dX1_right_43 rfl hl (by decide) rfl (fun ls hl => ?_)
      refine lv_iconst (v := 0) hx hb dX1_right_44 (by decide) ?_
      refine lv_istore_n (lv' := [(3, .int 0), (2, .int (rrS v st i 0)), (0, .ref (q 0)), (1, .int (nI i))]) hx hb dX1_right_45 rfl hl (by decide) rfl (fun ls hl => ?_)
      refine lpW (σ := Nat) (fun j ls => (j ≤ ix (v 2 i)) ∧ lv_has ls 4 [(0, .ref (q 0)), (1, .int (nI i)), (2, .int (rrS v st i j)), (3, .int (nI j))]) (fun j => ix (v 2 i) - j) (fun j ls hI ih => ?_) (0) ⟨Nat.zero_le _, lv_sub hl [2, 3, 1, 0] rfl⟩
      obtain ⟨hj, hl⟩ := hI
      refine lv_iload_n hx hb dX1_right_46 rfl (lv_at hl 3 rfl) ?_
      refine lv_aload_n hx hb dX1_right_47 rfl (lv_at hl 0 rfl) ?_
      refine M0.get hF hX 5 (by decide) rfl rfl kf_RX1_20 dX1_right_48 ?_
      refine lv_iload_n hx hb dX1_right_51 rfl (lv_at hl 1 rfl) ?_
      refine aldI hF hX.2.1 hX.1 3 0 rfl rfl i (by omega) (by decide) rfl dX1_right_52 ?_
      refine topI (show (v 2 i) = nI (ix (v 2 i)) from okM hok i) ?_
      refine lv_icmp_ge (tgt := 90) hx hb dX1_right_53 (by decide) (fun c53 => ?_) (fun c53 => ?_)
      · have c53n : (ix (v 2 i)) ≤ j := (nI_leI (a := (ix (v 2 i))) (b := j) (by omega) (by omega)).mp c53
        obtain rfl : j = ix (v 2 i) := by omega
        refine lv_iload_n hx hb dX1_right_90 rfl (lv_at hl 2 rfl) ?_
        exact W.iret hx hb hr (fun t ht hW => ⟨⟨_, w1, rfl, rfl, wEnd M0.mv hX ht hW⟩, hS.F ht⟩) hS.2.2 dX1_right_91
      · have c53n : ¬ (ix (v 2 i)) ≤ j := fun h9 => c53 ((nI_leI (a := (ix (v 2 i))) (b := j) (by omega) (by omega)).mpr h9)
        refine lv_iload_n hx hb dX1_right_56 rfl (lv_at hl 2 rfl) ?_
        refine lv_aload_n hx hb dX1_right_57 rfl (lv_at hl 0 rfl) ?_
        refine M0.get hF hX 6 (by decide) rfl rfl kf_RX1_23 dX1_right_58 ?_
        refine lv_iload_n hx hb dX1_right_61 rfl (lv_at hl 3 rfl) ?_
        refine aldI hF hX.2.1 hX.1 4 0 rfl rfl j (by omega) (by decide) rfl dX1_right_62 ?_
        refine lv_aload_n hx hb dX1_right_63 rfl (lv_at hl 0 rfl) ?_
        refine M0.get hF hX 6 (by decide) rfl rfl kf_RX1_23 dX1_right_64 ?_
        refine lv_aload_n hx hb dX1_right_67 rfl (lv_at hl 0 rfl) ?_
        refine M0.get hF hX 5 (by decide) rfl rfl kf_RX1_20 dX1_right_68 ?_
        refine lv_iload_n hx hb dX1_right_71 rfl (lv_at hl 1 rfl) ?_
        refine aldI hF hX.2.1 hX.1 3 0 rfl rfl i (by omega) (by decide) rfl dX1_right_72 ?_
        refine aldI hF hX.2.1 hX.1 4 0 rfl rfl (ix (v 2 i)) (okM10 hok i) (by decide) (okM hok i) dX1_right_73 ?_
        refine lv_icmp_ne (tgt := 81) hx hb dX1_right_74 (by decide) (fun c74 => ?_) (fun c74 => ?_)
        · refine lv_iconst (v := 0) hx hb dX1_right_81 (by decide) ?_
          refine lv_iadd hx hb dX1_right_82 ?_
          refine topI (show ((rrS v st i j) + 0) = rrS v st i (j + 1) from rrS_f c74) ?_
          refine lv_istore_n (lv' := [(2, .int (rrS v st i (j + 1))), (0, .ref (q 0)), (1, .int (nI i)), (3, .int (nI j))]) hx hb dX1_right_83 rfl hl (by decide) rfl (fun ls hl => ?_)
          refine lv_iinc (v := (nI (j + 1))) (lv' := [(3, .int (nI (j + 1))), (2, .int (rrS v st i (j + 1))), (0, .ref (q 0)), (1, .int (nI i))]) hx hb dX1_right_84 hl (k := 3) rfl (nI_1 _) (by decide) rfl (fun ls hl => ?_)
          refine lv_goto (tgt := 46) hx hb dX1_right_87 (by decide) ?_
          exact ih (j + 1) ls (by omega) ⟨by omega, by exact lv_sub hl [2, 3, 1, 0] rfl⟩
        · refine lv_iconst (v := 1) hx hb dX1_right_77 (by decide) ?_
          refine lv_goto (tgt := 82) hx hb dX1_right_78 (by decide) ?_
          refine lv_iadd hx hb dX1_right_82 ?_
          refine topI (show ((rrS v st i j) + 1) = rrS v st i (j + 1) from rrS_t c74) ?_
          refine lv_istore_n (lv' := [(2, .int (rrS v st i (j + 1))), (0, .ref (q 0)), (1, .int (nI i)), (3, .int (nI j))]) hx hb dX1_right_83 rfl hl (by decide) rfl (fun ls hl => ?_)
          refine lv_iinc (v := (nI (j + 1))) (lv' := [(3, .int (nI (j + 1))), (2, .int (rrS v st i (j + 1))), (0, .ref (q 0)), (1, .int (nI i))]) hx hb dX1_right_84 hl (k := 3) rfl (nI_1 _) (by decide) rfl (fun ls hl => ?_)
          refine lv_goto (tgt := 46) hx hb dX1_right_87 (by decide) ?_
          exact ih (j + 1) ls (by omega) ⟨by omega, by exact lv_sub hl [2, 3, 1, 0] rfl⟩
set_option maxHeartbeats 4000000 in
set_option maxRecDepth 100000 in
theorem mX1_isMendedNow (hok : Ok N st v) (hmk : Mk N mk md) (i : Nat) (hi : i < N) : Met l yX1_isMendedNow (wm yX1_isMendedNow cX1_isMendedNow 2 (some .boolean)) ({ frames := 0, cells := 0, slots := 0, locals := 0 } : Room) (va_Pc [.ref (q 0), .int (nI i)] (fun U => M0 D cyI cyZ q th (nI N) st md v w U U.heap)) (vp_Si (fun r => r = b2i (mk i))) 0 0 (fun _ => False) := by
  refine mt (by decide) (Nat.le_of_ble_eq_true rfl) ?_
  intro p ev s m below meth c ls hF hr hlocks hnm hX hl
  have hF : CallFix p m c cX1_isMendedNow 2 s _ wA RX1 := hF
  obtain ⟨hx, hb, hml, hown, hts⟩ := id hF
  have hX : M0 D cyI cyZ q th (nI N) st md v w s s.heap := hX
  have hl : lv_has ls 2 [(0, .ref (q 0)), (1, .int (nI i))] := hl
  have hN := hok.1
  refine lv_aload_n hx hb dX1_isMendedNow_0 rfl (lv_at hl 0 rfl) ?_
  refine M0.get hF hX 7 (by decide) rfl rfl kf_RX1_85 dX1_isMendedNow_1 ?_
  refine lv_iload_n hx hb dX1_isMendedNow_4 rfl (lv_at hl 1 rfl) ?_
  refine lv_ishr hx hb dX1_isMendedNow_5 ?_
  refine lv_iconst (v := 1) hx hb dX1_isMendedNow_6 (by decide) ?_
  refine lv_iand hx hb dX1_isMendedNow_7 ?_
  refine topI (show ((md >>> ((nI i) &&& 31)) &&& 1) = b2i (mk i) from Mk_get hmk hN hi) ?_
  refine lv_iconst (v := 1) hx hb dX1_isMendedNow_8 (by decide) ?_
  refine lv_icmp_ne (tgt := 16) hx hb dX1_isMendedNow_9 (by decide) (fun c9 => ?_) (fun c9 => ?_)
  · refine lv_iconst (v := 0) hx hb dX1_isMendedNow_16 (by decide) ?_
    exact W.zret hx hb hr rfl (fun t ht hW => ⟨_, rfl, b2i_0 (b2i_n1 c9), ht⟩) (fun q hq => absurd hq List.not_mem_nil) dX1_isMendedNow_17
  · refine lv_iconst (v := 1) hx hb dX1_isMendedNow_12 (by decide) ?_
    refine lv_goto (tgt := 17) hx hb dX1_isMendedNow_13 (by decide) ?_
    exact W.zret hx hb hr rfl (fun t ht hW => ⟨_, rfl, b2i_1 (b2i_y1 c9), ht⟩) (fun q hq => absurd hq List.not_mem_nil) dX1_isMendedNow_17
set_option maxHeartbeats 4000000 in
set_option maxRecDepth 100000 in
theorem mX1_isOpen (hok : Ok N st v) (hmk : Mk N mk md) (i : Nat) (hi : i < N) : Met l yX1_isOpen (wm yX1_isOpen cX1_isOpen 2 (some .boolean)) ({ frames := 5, cells := 0, slots := 0, locals := 108 } : Room) (va_Pc [.ref (q 0), .int (nI i)] (fun U => M0 D cyI cyZ q th (nI N) st md v w U U.heap)) (va_Qi (fun (r : Int32) (u : Nat → Nat → Int32) => r = b2i (amb v st mk i)) (fun u U => (fun (u : Nat → Nat → Int32) => (M0 D cyI cyZ q th (nI N) st md v u : State → Heap → Prop)) u U U.heap) (own 8 q)) 0 0 (own 8 q) := by
  refine mt (by decide) (Nat.le_of_ble_eq_true rfl) ?_
  intro p ev s m below meth c ls hF hr hlocks hnm hX hl
  have hF : CallFix p m c cX1_isOpen 2 s _ wA RX1 := hF
  obtain ⟨hx, hb, hml, hown, hts⟩ := id hF
  have hX : M0 D cyI cyZ q th (nI N) st md v w s s.heap := hX
  have hl : lv_has ls 2 [(0, .ref (q 0)), (1, .int (nI i))] := hl
  have hS : va_S (own 8 q) s.heap s.heap [] := va_S.rf
  have hN := hok.1
  refine lv_aload_n hx hb dX1_isOpen_0 rfl (lv_at hl 0 rfl) ?_
  refine lv_iload_n hx hb dX1_isOpen_1 rfl (lv_at hl 1 rfl) ?_
  refine cVi (As := [.int (nI i)]) (rest := []) hF (mX1_isMendedNow hok hmk i (by omega)) M0.mv hX (M0.rc hX) jyX1_isMendedNow kl_RX1_88 ⟨rfl, rfl⟩ ⟨Nat.le_of_ble_eq_true rfl, Nat.le_of_ble_eq_true rfl⟩ rfl hl.1 rfl (Nat.le_of_ble_eq_true rfl) ⟨Nat.zero_le _, Nat.zero_le _⟩ dX1_isOpen_2 (fun r hr9 => ?_)
  subst hr9
  refine lv_if_ne (tgt := 21) hx hb dX1_isOpen_5 (by decide) (fun c5 => ?_) (fun c5 => ?_)
  · have c5b := b2i_t c5
    refine lv_iconst (v := 0) hx hb dX1_isOpen_21 (by decide) ?_
    exact W.zret hx hb hr rfl (fun t ht hW => ⟨⟨_, w, rfl, b2i_0 (amb_o c5b), wEnd M0.mv hX ht hW⟩, hS.F ht⟩) hS.2.2 dX1_isOpen_22
  · have c5b := b2i_f c5
    refine lv_aload_n hx hb dX1_isOpen_8 rfl (lv_at hl 0 rfl) ?_
    refine lv_iload_n hx hb dX1_isOpen_9 rfl (lv_at hl 1 rfl) ?_
    refine wVi (mc := 0) (ms := 0) (As := [.int (nI i)]) (rest := []) hF (mX1_manyNow hok i (by omega)) M0.mv (fun _ => M0.mv) hX (M0.rc hX) jyX1_manyNow kl_RX1_91 ⟨rfl, rfl⟩ ⟨Nat.le_of_ble_eq_true rfl, Nat.le_of_ble_eq_true rfl⟩ rfl hl.1 rfl (Nat.le_of_ble_eq_true rfl) ⟨Nat.zero_le _, Nat.zero_le _⟩ hS (fun _ _ h => h) (fun _ h => h) dX1_isOpen_10 (fun r9 w1 H locs hp hX hz hk hS => ?_)
    have hr9 := hp
    subst hr9
    refine lv_iconst (v := 1) hx hb dX1_isOpen_13 (by decide) ?_
    refine lv_icmp_le (tgt := 21) hx hb dX1_isOpen_14 (by decide) (fun c14 => ?_) (fun c14 => ?_)
    · refine lv_iconst (v := 0) hx hb dX1_isOpen_21 (by decide) ?_
      exact W.zret hx hb hr rfl (fun t ht hW => ⟨⟨_, w1, rfl, b2i_0 (amb_0 c14), wEnd M0.mv hX ht hW⟩, hS.F ht⟩) hS.2.2 dX1_isOpen_22
    · refine lv_iconst (v := 1) hx hb dX1_isOpen_17 (by decide) ?_
      refine lv_goto (tgt := 22) hx hb dX1_isOpen_18 (by decide) ?_
      exact W.zret hx hb hr rfl (fun t ht hW => ⟨⟨_, w1, rfl, b2i_1 (amb_1 c5b c14), wEnd M0.mv hX ht hW⟩, hS.F ht⟩) hS.2.2 dX1_isOpen_22
set_option maxHeartbeats 4000000 in
set_option maxRecDepth 100000 in
theorem mX1_open (hok : Ok N st v) (hmk : Mk N mk md) : Met l yX1_open (wm yX1_open cX1_open 3 (some .int)) ({ frames := 6, cells := 0, slots := 0, locals := 129 } : Room) (va_Pc [.ref (q 0)] (fun U => M0 D cyI cyZ q th (nI N) st md v w U U.heap)) (va_Qi (fun (r : Int32) (u : Nat → Nat → Int32) => r = ctB (amb v st mk) N) (fun u U => (fun (u : Nat → Nat → Int32) => (M0 D cyI cyZ q th (nI N) st md v u : State → Heap → Prop)) u U U.heap) (own 8 q)) 0 0 (own 8 q) := by
  refine mt (by decide) (Nat.le_of_ble_eq_true rfl) ?_
  intro p ev s m below meth c ls hF hr hlocks hnm hX hl
  have hF : CallFix p m c cX1_open 3 s _ wA RX1 := hF
  obtain ⟨hx, hb, hml, hown, hts⟩ := id hF
  have hX : M0 D cyI cyZ q th (nI N) st md v w s s.heap := hX
  have hl : lv_has ls 3 [(0, .ref (q 0))] := hl
  have hS : va_S (own 8 q) s.heap s.heap [] := va_S.rf
  have hN := hok.1
  refine lv_iconst (v := 0) hx hb dX1_open_0 (by decide) ?_
  refine lv_istore_n (lv' := [(1, .int 0), (0, .ref (q 0))]) hx hb dX1_open_1 rfl hl (by decide) rfl (fun ls hl => ?_)
  refine lv_iconst (v := 0) hx hb dX1_open_2 (by decide) ?_
  refine lv_istore_n (lv' := [(2, .int 0), (1, .int 0), (0, .ref (q 0))]) hx hb dX1_open_3 rfl hl (by decide) rfl (fun ls hl => ?_)
  refine lpH2 (σ := Nat) (τ := Nat → Nat → Int32) (fun j w ls H locs => (j ≤ N) ∧ M0 D cyI cyZ q th (nI N) st md v w s H ∧ va_S (own 8 q) s.heap H locs ∧ lv_has ls 3 [(0, .ref (q 0)), (1, .int (ctB (amb v st mk) j)), (2, .int (nI j))]) (fun j w => N - j) (fun j w ls H locs hI ih => ?_) (0) w ⟨Nat.zero_le _, hX, hS, lv_sub hl [2, 1, 0] rfl⟩
  obtain ⟨hj, hX, hS, hl⟩ := hI
  refine lv_iload_n hx hb dX1_open_4 rfl (lv_at hl 2 rfl) ?_
  refine lv_aload_n hx hb dX1_open_5 rfl (lv_at hl 0 rfl) ?_
  refine M0.get hF hX 1 (by decide) rfl rfl kf_RX1_38 dX1_open_6 ?_
  refine lv_icmp_ge (tgt := 34) hx hb dX1_open_9 (by decide) (fun c9 => ?_) (fun c9 => ?_)
  · have c9n : N ≤ j := (nI_leI (a := N) (b := j) (by omega) (by omega)).mp c9
    obtain rfl : j = N := by omega
    refine lv_iload_n hx hb dX1_open_34 rfl (lv_at hl 1 rfl) ?_
    exact W.iret hx hb hr (fun t ht hW => ⟨⟨_, w, rfl, rfl, wEnd M0.mv hX ht hW⟩, hS.F ht⟩) hS.2.2 dX1_open_35
  · have c9n : ¬ N ≤ j := fun h9 => c9 ((nI_leI (a := N) (b := j) (by omega) (by omega)).mpr h9)
    refine lv_iload_n hx hb dX1_open_12 rfl (lv_at hl 1 rfl) ?_
    refine lv_aload_n hx hb dX1_open_13 rfl (lv_at hl 0 rfl) ?_
    refine lv_iload_n hx hb dX1_open_14 rfl (lv_at hl 2 rfl) ?_
    refine wVi (mc := 0) (ms := 0) (As := [.int (nI j)]) (rest := [.int (ctB (amb v st mk) j)]) hF (mX1_isOpen hok hmk j (by omega)) M0.mv (fun _ => M0.mv) hX (M0.rc hX) jyX1_isOpen kl_RX1_94 ⟨rfl, rfl⟩ ⟨Nat.le_of_ble_eq_true rfl, Nat.le_of_ble_eq_true rfl⟩ rfl hl.1 rfl (Nat.le_of_ble_eq_true rfl) ⟨Nat.zero_le _, Nat.zero_le _⟩ hS (fun _ _ h => h) (fun _ h => h) dX1_open_15 (fun r9 w1 H locs hp hX hz hk hS => ?_)
    have hr9 := hp
    subst hr9
    refine lv_if_eq (tgt := 25) hx hb dX1_open_18 (by decide) (fun c18 => ?_) (fun c18 => ?_)
    · have c18b := b2i_f c18
      refine lv_iconst (v := 0) hx hb dX1_open_25 (by decide) ?_
      refine lv_iadd hx hb dX1_open_26 ?_
      refine topI (show ((ctB (amb v st mk) j) + 0) = ctB (amb v st mk) (j + 1) from ctB_f' c18b) ?_
      refine lv_istore_n (lv' := [(1, .int (ctB (amb v st mk) (j + 1))), (0, .ref (q 0)), (2, .int (nI j))]) hx hb dX1_open_27 rfl hl (by decide) rfl (fun ls hl => ?_)
      refine lv_iinc (v := (nI (j + 1))) (lv' := [(2, .int (nI (j + 1))), (1, .int (ctB (amb v st mk) (j + 1))), (0, .ref (q 0))]) hx hb dX1_open_28 hl (k := 2) rfl (nI_1 _) (by decide) rfl (fun ls hl => ?_)
      refine lv_goto (tgt := 4) hx hb dX1_open_31 (by decide) ?_
      exact ih (j + 1) w1 ls H locs (by omega) ⟨by omega, hX, hS, by exact lv_sub hl [2, 1, 0] rfl⟩
    · have c18b := b2i_t c18
      refine lv_iconst (v := 1) hx hb dX1_open_21 (by decide) ?_
      refine lv_goto (tgt := 26) hx hb dX1_open_22 (by decide) ?_
      refine lv_iadd hx hb dX1_open_26 ?_
      refine topI (show ((ctB (amb v st mk) j) + 1) = ctB (amb v st mk) (j + 1) from ctB_t' c18b) ?_
      refine lv_istore_n (lv' := [(1, .int (ctB (amb v st mk) (j + 1))), (0, .ref (q 0)), (2, .int (nI j))]) hx hb dX1_open_27 rfl hl (by decide) rfl (fun ls hl => ?_)
      refine lv_iinc (v := (nI (j + 1))) (lv' := [(2, .int (nI (j + 1))), (1, .int (ctB (amb v st mk) (j + 1))), (0, .ref (q 0))]) hx hb dX1_open_28 hl (k := 2) rfl (nI_1 _) (by decide) rfl (fun ls hl => ?_)
      refine lv_goto (tgt := 4) hx hb dX1_open_31 (by decide) ?_
      exact ih (j + 1) w1 ls H locs (by omega) ⟨by omega, hX, hS, by exact lv_sub hl [2, 1, 0] rfl⟩
set_option maxHeartbeats 4000000 in
set_option maxRecDepth 100000 in
theorem mX1_all (hok : Ok N st v) (hmk : Mk N mk md) : Met l yX1_all (wm yX1_all cX1_all 4 (some .long)) ({ frames := 6, cells := 0, slots := 0, locals := 129 } : Room) (va_Pc [.ref (q 0)] (fun U => M0 D cyI cyZ q th (nI N) st md v w U U.heap)) (va_Ql (fun (r : Int64) (u : Nat → Nat → Int32) => r = wys v st mk N) (fun u U => (fun (u : Nat → Nat → Int32) => (M0 D cyI cyZ q th (nI N) st md v u : State → Heap → Prop)) u U U.heap) (own 8 q)) 0 0 (own 8 q) := by
  refine mt (by decide) (Nat.le_of_ble_eq_true rfl) ?_
  intro p ev s m below meth c ls hF hr hlocks hnm hX hl
  have hF : CallFix p m c cX1_all 4 s _ wA RX1 := hF
  obtain ⟨hx, hb, hml, hown, hts⟩ := id hF
  have hX : M0 D cyI cyZ q th (nI N) st md v w s s.heap := hX
  have hl : lv_has ls 4 [(0, .ref (q 0))] := hl
  have hS : va_S (own 8 q) s.heap s.heap [] := va_S.rf
  have hN := hok.1
  refine lv_lconst (v := 1) hx hb dX1_all_0 (by decide) ?_
  refine lv_lstore_n (lv' := [(1, .long 1), (0, .ref (q 0))]) hx hb dX1_all_1 rfl hl (by decide) rfl (fun ls hl => ?_)
  refine lv_iconst (v := 0) hx hb dX1_all_2 (by decide) ?_
  refine lv_istore_n (lv' := [(3, .int 0), (1, .long 1), (0, .ref (q 0))]) hx hb dX1_all_3 rfl hl (by decide) rfl (fun ls hl => ?_)
  refine lpH2 (σ := Nat) (τ := Nat → Nat → Int32) (fun j w ls H locs => (j ≤ N) ∧ M0 D cyI cyZ q th (nI N) st md v w s H ∧ va_S (own 8 q) s.heap H locs ∧ lv_has ls 4 [(0, .ref (q 0)), (1, .long (wys v st mk j)), (3, .int (nI j))]) (fun j w => N - j) (fun j w ls H locs hI ih => ?_) (0) w ⟨Nat.zero_le _, hX, hS, lv_sub hl [2, 1, 0] rfl⟩
  obtain ⟨hj, hX, hS, hl⟩ := hI
  refine lv_iload_n hx hb dX1_all_4 rfl (lv_at hl 2 rfl) ?_
  refine lv_aload_n hx hb dX1_all_5 rfl (lv_at hl 0 rfl) ?_
  refine M0.get hF hX 1 (by decide) rfl rfl kf_RX1_38 dX1_all_6 ?_
  refine lv_icmp_ge (tgt := 41) hx hb dX1_all_9 (by decide) (fun c9 => ?_) (fun c9 => ?_)
  · have c9n : N ≤ j := (nI_leI (a := N) (b := j) (by omega) (by omega)).mp c9
    obtain rfl : j = N := by omega
    refine lv_lload_n hx hb dX1_all_41 rfl (lv_at hl 1 rfl) ?_
    exact W.lret hx hb hr (fun t ht hW => ⟨⟨_, w, rfl, rfl, wEnd M0.mv hX ht hW⟩, hS.F ht⟩) hS.2.2 dX1_all_42
  · have c9n : ¬ N ≤ j := fun h9 => c9 ((nI_leI (a := N) (b := j) (by omega) (by omega)).mpr h9)
    refine lv_aload_n hx hb dX1_all_12 rfl (lv_at hl 0 rfl) ?_
    refine lv_iload_n hx hb dX1_all_13 rfl (lv_at hl 2 rfl) ?_
    refine wVi (mc := 0) (ms := 0) (As := [.int (nI j)]) (rest := []) hF (mX1_isOpen hok hmk j (by omega)) M0.mv (fun _ => M0.mv) hX (M0.rc hX) jyX1_isOpen kl_RX1_94 ⟨rfl, rfl⟩ ⟨Nat.le_of_ble_eq_true rfl, Nat.le_of_ble_eq_true rfl⟩ rfl hl.1 rfl (Nat.le_of_ble_eq_true rfl) ⟨Nat.zero_le _, Nat.zero_le _⟩ hS (fun _ _ h => h) (fun _ h => h) dX1_all_14 (fun r9 w1 H locs hp hX hz hk hS => ?_)
    have hr9 := hp
    subst hr9
    refine lv_if_eq (tgt := 35) hx hb dX1_all_17 (by decide) (fun c17 => ?_) (fun c17 => ?_)
    · have c17b := b2i_f c17
      refine lv_iinc (v := (nI (j + 1))) (lv' := [(3, .int (nI (j + 1))), (0, .ref (q 0)), (1, .long (wys v st mk j))]) hx hb dX1_all_35 hl (k := 2) rfl (nI_1 _) (by decide) rfl (fun ls hl => ?_)
      refine lv_goto (tgt := 4) hx hb dX1_all_38 (by decide) ?_
      exact ih (j + 1) w1 ls H locs (by omega) ⟨by omega, hX, hS, by rw [wys_f c17b]; exact lv_sub hl [1, 2, 0] rfl⟩
    · have c17b := b2i_t c17
      refine lv_ldc2 hx hb hown (hts _ kk_RX1_97) dX1_all_20 ?_
      refine lv_lload_n hx hb dX1_all_23 rfl (lv_at hl 1 rfl) ?_
      refine lv_aload_n hx hb dX1_all_24 rfl (lv_at hl 0 rfl) ?_
      refine lv_iload_n hx hb dX1_all_25 rfl (lv_at hl 2 rfl) ?_
      refine wVi (mc := 0) (ms := 0) (As := [.int (nI j)]) (rest := [.long (wys v st mk j), .long 1000000000]) hF (mX1_manyNow hok j (by omega)) M0.mv (fun _ => M0.mv) hX (M0.rc hX) jyX1_manyNow kl_RX1_91 ⟨rfl, rfl⟩ ⟨Nat.le_of_ble_eq_true rfl, Nat.le_of_ble_eq_true rfl⟩ rfl hl.1 rfl (Nat.le_of_ble_eq_true rfl) ⟨Nat.zero_le _, Nat.zero_le _⟩ hS (fun _ _ h => h) (fun _ h => h) dX1_all_26 (fun r9 w2 H locs hp hX hz hk hS => ?_)
      have hr9 := hp
      subst hr9
      refine lv_i2l hx hb dX1_all_29 rfl ?_
      refine lv_lmul hx hb dX1_all_30 ?_
      refine va_mmin_long hx hb (hml.trans hl.1.symm) hown (hts _ kl_RX1_99) (hts _ ks_LM_min_long_x) (hts _ kn_Math) (hts _ kd_LM_min_long_x) (Nat.le_of_ble_eq_true rfl) (Nat.le_of_ble_eq_true rfl) (Nat.zero_le _) (Nat.zero_le _) dX1_all_31 ?_
      refine topL (show (if ((wys v st mk j) * (Int32.toInt64 (rdn v st j))) < 1000000000 then ((wys v st mk j) * (Int32.toInt64 (rdn v st j))) else 1000000000) = wys v st mk (j + 1) from wys_t' c17b) ?_
      refine lv_lstore_n (lv' := [(1, .long (wys v st mk (j + 1))), (0, .ref (q 0)), (3, .int (nI j))]) hx hb dX1_all_34 rfl hl (by decide) rfl (fun ls hl => ?_)
      refine lv_iinc (v := (nI (j + 1))) (lv' := [(3, .int (nI (j + 1))), (1, .long (wys v st mk (j + 1))), (0, .ref (q 0))]) hx hb dX1_all_35 hl (k := 2) rfl (nI_1 _) (by decide) rfl (fun ls hl => ?_)
      refine lv_goto (tgt := 4) hx hb dX1_all_38 (by decide) ?_
      exact ih (j + 1) w2 ls H locs (by omega) ⟨by omega, hX, hS, by exact lv_sub hl [2, 1, 0] rfl⟩
set_option maxHeartbeats 4000000 in
set_option maxRecDepth 100000 in
theorem mX1_openBy (hok : Ok N st v) (by1 : Int32) : Met l yX1_openBy (wm yX1_openBy cX1_openBy 4 (some .int)) ({ frames := 4, cells := 0, slots := 0, locals := 87 } : Room) (va_Pc [.ref (q 0), .int by1] (fun U => M0 D cyI cyZ q th (nI N) st md v w U U.heap)) (va_Qi (fun (r : Int32) (u : Nat → Nat → Int32) => r = unm v (v 3) by1 N) (fun u U => (fun (u : Nat → Nat → Int32) => (M0 D cyI cyZ q th (nI N) st md v u : State → Heap → Prop)) u U U.heap) (own 8 q)) 0 0 (own 8 q) := by
  refine mt (by decide) (Nat.le_of_ble_eq_true rfl) ?_
  intro p ev s m below meth c ls hF hr hlocks hnm hX hl
  have hF : CallFix p m c cX1_openBy 4 s _ wA RX1 := hF
  obtain ⟨hx, hb, hml, hown, hts⟩ := id hF
  have hX : M0 D cyI cyZ q th (nI N) st md v w s s.heap := hX
  have hl : lv_has ls 4 [(0, .ref (q 0)), (1, .int by1)] := hl
  have hS : va_S (own 8 q) s.heap s.heap [] := va_S.rf
  have hN := hok.1
  refine lv_aload_n hx hb dX1_openBy_0 rfl (lv_at hl 0 rfl) ?_
  refine lv_iload_n hx hb dX1_openBy_1 rfl (lv_at hl 1 rfl) ?_
  refine wVv (mc := 0) (ms := 0) (As := [.int by1]) (rest := []) hF (mX1_sing hok by1) M0.mv (fun _ => M0.mv) hX (M0.rc hX) jyX1_sing kl_RX1_68 ⟨rfl, rfl⟩ ⟨Nat.le_of_ble_eq_true rfl, Nat.le_of_ble_eq_true rfl⟩ rfl hl.1 rfl (Nat.le_of_ble_eq_true rfl) ⟨Nat.zero_le _, Nat.zero_le _⟩ hS (fun _ _ h => h) (fun _ h => h) dX1_openBy_2 (fun w1 H locs hp hX hz hk hS => ?_)
  have hsg := hp
  refine lv_iconst (v := 0) hx hb dX1_openBy_5 (by decide) ?_
  refine lv_istore_n (lv' := [(2, .int 0), (0, .ref (q 0)), (1, .int by1)]) hx hb dX1_openBy_6 rfl hl (by decide) rfl (fun ls hl => ?_)
  refine lv_iconst (v := 0) hx hb dX1_openBy_7 (by decide) ?_
  refine lv_istore_n (lv' := [(3, .int 0), (2, .int 0), (0, .ref (q 0)), (1, .int by1)]) hx hb dX1_openBy_8 rfl hl (by decide) rfl (fun ls hl => ?_)
  refine lpW (σ := Nat) (fun j ls => (j ≤ N) ∧ lv_has ls 4 [(0, .ref (q 0)), (1, .int by1), (2, .int (ctB (umP v (v 3) by1) j)), (3, .int (nI j))]) (fun j => N - j) (fun j ls hI ih => ?_) (0) ⟨Nat.zero_le _, lv_sub hl [2, 3, 1, 0] rfl⟩
  obtain ⟨hj, hl⟩ := hI
  refine lv_iload_n hx hb dX1_openBy_9 rfl (lv_at hl 3 rfl) ?_
  refine lv_aload_n hx hb dX1_openBy_10 rfl (lv_at hl 0 rfl) ?_
  refine M0.get hF hX 1 (by decide) rfl rfl kf_RX1_38 dX1_openBy_11 ?_
  refine lv_icmp_ge (tgt := 41) hx hb dX1_openBy_14 (by decide) (fun c14 => ?_) (fun c14 => ?_)
  · have c14n : N ≤ j := (nI_leI (a := N) (b := j) (by omega) (by omega)).mp c14
    obtain rfl : j = N := by omega
    refine lv_iload_n hx hb dX1_openBy_41 rfl (lv_at hl 2 rfl) ?_
    exact W.iret hx hb hr (fun t ht hW => ⟨⟨_, w1, rfl, rfl, wEnd M0.mv hX ht hW⟩, hS.F ht⟩) hS.2.2 dX1_openBy_42
  · have c14n : ¬ N ≤ j := fun h9 => c14 ((nI_leI (a := N) (b := j) (by omega) (by omega)).mpr h9)
    refine lv_iload_n hx hb dX1_openBy_17 rfl (lv_at hl 2 rfl) ?_
    refine lv_aload_n hx hb dX1_openBy_18 rfl (lv_at hl 0 rfl) ?_
    refine lv_iload_n hx hb dX1_openBy_19 rfl (lv_at hl 3 rfl) ?_
    refine lv_iload_n hx hb dX1_openBy_20 rfl (lv_at hl 1 rfl) ?_
    refine cVi (As := [.int (nI j), .int by1]) (rest := [.int (ctB (umP v (v 3) by1) j)]) hF (mX1_many hok by1 hsg j (by omega)) M0.mv hX (M0.rc hX) jyX1_many kl_RX1_82 ⟨rfl, rfl⟩ ⟨Nat.le_of_ble_eq_true rfl, Nat.le_of_ble_eq_true rfl⟩ rfl hl.1 rfl (Nat.le_of_ble_eq_true rfl) ⟨Nat.zero_le _, Nat.zero_le _⟩ dX1_openBy_21 (fun r hr9 => ?_)
    subst hr9
    refine lv_iconst (v := 1) hx hb dX1_openBy_24 (by decide) ?_
    refine lv_icmp_le (tgt := 32) hx hb dX1_openBy_25 (by decide) (fun c25 => ?_) (fun c25 => ?_)
    · refine lv_iconst (v := 0) hx hb dX1_openBy_32 (by decide) ?_
      refine lv_iadd hx hb dX1_openBy_33 ?_
      refine topI (show ((ctB (umP v (v 3) by1) j) + 0) = ctB (umP v (v 3) by1) (j + 1) from ctB_f' (um_0 c25)) ?_
      refine lv_istore_n (lv' := [(2, .int (ctB (umP v (v 3) by1) (j + 1))), (0, .ref (q 0)), (1, .int by1), (3, .int (nI j))]) hx hb dX1_openBy_34 rfl hl (by decide) rfl (fun ls hl => ?_)
      refine lv_iinc (v := (nI (j + 1))) (lv' := [(3, .int (nI (j + 1))), (2, .int (ctB (umP v (v 3) by1) (j + 1))), (0, .ref (q 0)), (1, .int by1)]) hx hb dX1_openBy_35 hl (k := 3) rfl (nI_1 _) (by decide) rfl (fun ls hl => ?_)
      refine lv_goto (tgt := 9) hx hb dX1_openBy_38 (by decide) ?_
      exact ih (j + 1) ls (by omega) ⟨by omega, by exact lv_sub hl [2, 3, 1, 0] rfl⟩
    · refine lv_iconst (v := 1) hx hb dX1_openBy_28 (by decide) ?_
      refine lv_goto (tgt := 33) hx hb dX1_openBy_29 (by decide) ?_
      refine lv_iadd hx hb dX1_openBy_33 ?_
      refine topI (show ((ctB (umP v (v 3) by1) j) + 1) = ctB (umP v (v 3) by1) (j + 1) from ctB_t' (um_1 c25)) ?_
      refine lv_istore_n (lv' := [(2, .int (ctB (umP v (v 3) by1) (j + 1))), (0, .ref (q 0)), (1, .int by1), (3, .int (nI j))]) hx hb dX1_openBy_34 rfl hl (by decide) rfl (fun ls hl => ?_)
      refine lv_iinc (v := (nI (j + 1))) (lv' := [(3, .int (nI (j + 1))), (2, .int (ctB (umP v (v 3) by1) (j + 1))), (0, .ref (q 0)), (1, .int by1)]) hx hb dX1_openBy_35 hl (k := 3) rfl (nI_1 _) (by decide) rfl (fun ls hl => ?_)
      refine lv_goto (tgt := 9) hx hb dX1_openBy_38 (by decide) ?_
      exact ih (j + 1) ls (by omega) ⟨by omega, by exact lv_sub hl [2, 3, 1, 0] rfl⟩
set_option maxHeartbeats 4000000 in
set_option maxRecDepth 100000 in
theorem mX1_openWith (hok : Ok N st v) (i : Nat) (x : Int32) (hi : i < 10) : Met l yX1_openWith (wm yX1_openWith cX1_openWith 5 (some .int)) ({ frames := 5, cells := 0, slots := 0, locals := 110 } : Room) (va_Pc [.ref (q 0), .int (nI i), .int x] (fun U => M0 D cyI cyZ q th (nI N) st md v w U U.heap)) (va_Qi (fun (r : Int32) (u : Nat → Nat → Int32) => r = unW v st N i x) (fun u U => (fun (u : Nat → Nat → Int32) => (M0 D cyI cyZ q th (nI N) st md v u : State → Heap → Prop)) u U U.heap) (own 8 q)) 0 0 (own 8 q) := by
  refine mt (by decide) (Nat.le_of_ble_eq_true rfl) ?_
  intro p ev s m below meth c ls hF hr hlocks hnm hX hl
  have hF : CallFix p m c cX1_openWith 5 s _ wA RX1 := hF
  obtain ⟨hx, hb, hml, hown, hts⟩ := id hF
  have hX : M0 D cyI cyZ q th (nI N) st md v w s s.heap := hX
  have hl : lv_has ls 5 [(0, .ref (q 0)), (1, .int (nI i)), (2, .int x)] := hl
  have hS : va_S (own 8 q) s.heap s.heap [] := va_S.rf
  have hN := hok.1
  refine lv_aload_n hx hb dX1_openWith_0 rfl (lv_at hl 0 rfl) ?_
  refine M0.get hF hX 6 (by decide) rfl rfl kf_RX1_23 dX1_openWith_1 ?_
  refine lv_iload_n hx hb dX1_openWith_4 rfl (lv_at hl 1 rfl) ?_
  refine aldI hF hX.2.1 hX.1 4 0 rfl rfl i (by omega) (by decide) rfl dX1_openWith_5 ?_
  refine lv_istore_n (lv' := [(3, .int (v 3 i)), (0, .ref (q 0)), (1, .int (nI i)), (2, .int x)]) hx hb dX1_openWith_6 rfl hl (by decide) rfl (fun ls hl => ?_)
  refine lv_aload_n hx hb dX1_openWith_7 rfl (lv_at hl 1 rfl) ?_
  refine M0.get hF hX 6 (by decide) rfl rfl kf_RX1_23 dX1_openWith_8 ?_
  refine lv_iload_n hx hb dX1_openWith_11 rfl (lv_at hl 2 rfl) ?_
  refine lv_iload_n hx hb dX1_openWith_12 rfl (lv_at hl 3 rfl) ?_
  refine M0.st_v3 hF hX hS i (by omega) rfl dX1_openWith_13 (fun H locs hX hS => ?_)
  refine lv_aload_n hx hb dX1_openWith_14 rfl (lv_at hl 1 rfl) ?_
  refine lv_aload_n hx hb dX1_openWith_15 rfl (lv_at hl 1 rfl) ?_
  refine M0.get hF hX 2 (by decide) rfl rfl kf_RX1_7 dX1_openWith_16 ?_
  refine wVi (mc := 0) (ms := 0) (As := [.int st]) (rest := []) hF (mX1_openBy (show Ok N st (va_up v 3 (upd (v 3) i x)) from ⟨hok.1, hok.2.1, hok.2.2⟩) st) M0.mv (fun _ => M0.mv) hX (M0.rc hX) jyX1_openBy kl_RX1_103 ⟨rfl, rfl⟩ ⟨Nat.le_of_ble_eq_true rfl, Nat.le_of_ble_eq_true rfl⟩ rfl hl.1 rfl (Nat.le_of_ble_eq_true rfl) ⟨Nat.zero_le _, Nat.zero_le _⟩ hS (fun _ _ h => h) (fun _ h => h) dX1_openWith_19 (fun r9 w1 H locs hp hX hz hk hS => ?_)
  have hr9 := hp
  subst hr9
  refine lv_istore (lv' := [(4, .int (unW v st N i x)), (3, .int (v 3 i)), (0, .ref (q 0)), (1, .int (nI i)), (2, .int x)]) hx hb dX1_openWith_22 hl (by decide) rfl (fun ls hl => ?_)
  refine lv_aload_n hx hb dX1_openWith_24 rfl (lv_at hl 2 rfl) ?_
  refine M0.get hF hX 6 (by decide) rfl rfl kf_RX1_23 dX1_openWith_25 ?_
  refine lv_iload_n hx hb dX1_openWith_28 rfl (lv_at hl 3 rfl) ?_
  refine lv_iload_n hx hb dX1_openWith_29 rfl (lv_at hl 1 rfl) ?_
  refine M0.st_v3 hF hX hS i (by omega) rfl dX1_openWith_30 (fun H locs hX hS => ?_)
  rw [upd_back] at hX
  refine lv_iload hx hb dX1_openWith_31 (lv_at hl 0 rfl) ?_
  exact W.iret hx hb hr (fun t ht hW => ⟨⟨_, w1, rfl, rfl, wEnd M0.mv hX ht hW⟩, hS.F ht⟩) hS.2.2 dX1_openWith_33
set_option maxHeartbeats 4000000 in
set_option maxRecDepth 100000 in
theorem mX1_wordFor (hok : Ok N st v) (i : Nat) (hi : i < 10) : Met l yX1_wordFor (wm yX1_wordFor cX1_wordFor 4 (some .int)) ({ frames := 6, cells := 0, slots := 0, locals := 134 } : Room) (va_Pc [.ref (q 0), .int (nI i)] (fun U => M0 D cyI cyZ q th (nI N) st md v w U U.heap)) (va_Qi (fun (r : Int32) (u : Nat → Nat → Int32) => r = nI (bwd v st N i)) (fun u U => (fun (u : Nat → Nat → Int32) => (M0 D cyI cyZ q th (nI N) st md v u : State → Heap → Prop)) u U U.heap) (own 8 q)) 0 0 (own 8 q) := by
  refine mt (by decide) (Nat.le_of_ble_eq_true rfl) ?_
  intro p ev s m below meth c ls hF hr hlocks hnm hX hl
  have hF : CallFix p m c cX1_wordFor 4 s _ wA RX1 := hF
  obtain ⟨hx, hb, hml, hown, hts⟩ := id hF
  have hX : M0 D cyI cyZ q th (nI N) st md v w s s.heap := hX
  have hl : lv_has ls 4 [(0, .ref (q 0)), (1, .int (nI i))] := hl
  have hS : va_S (own 8 q) s.heap s.heap [] := va_S.rf
  have hN := hok.1
  refine lv_iconst (v := (nI 0)) hx hb dX1_wordFor_0 (by decide) ?_
  refine lv_istore_n (lv' := [(2, .int (nI 0)), (0, .ref (q 0)), (1, .int (nI i))]) hx hb dX1_wordFor_1 rfl hl (by decide) rfl (fun ls hl => ?_)
  refine lv_iconst (v := (nI 1)) hx hb dX1_wordFor_2 (by decide) ?_
  refine lv_istore_n (lv' := [(3, .int (nI 1)), (2, .int (nI 0)), (0, .ref (q 0)), (1, .int (nI i))]) hx hb dX1_wordFor_3 rfl hl (by decide) rfl (fun ls hl => ?_)
  refine lpH2 (σ := Nat) (τ := Nat → Nat → Int32) (fun j w ls H locs => (j ≤ 9) ∧ M0 D cyI cyZ q th (nI N) st md v w s H ∧ va_S (own 8 q) s.heap H locs ∧ lv_has ls 4 [(0, .ref (q 0)), (1, .int (nI i)), (2, .int (nI (amin (fun x => unW v st N i (nI x)) j))), (3, .int (nI (j + 1)))]) (fun j w => 9 - j) (fun j w ls H locs hI ih => ?_) (0) w ⟨Nat.zero_le _, hX, hS, lv_sub hl [2, 3, 1, 0] rfl⟩
  obtain ⟨hj, hX, hS, hl⟩ := hI
  refine lv_iload_n hx hb dX1_wordFor_4 rfl (lv_at hl 3 rfl) ?_
  refine lv_bipush (v := 10) hx hb dX1_wordFor_5 (by decide) ?_
  refine lv_icmp_ge (tgt := 33) hx hb dX1_wordFor_7 (by decide) (fun c7 => ?_) (fun c7 => ?_)
  · have c7n : 10 ≤ (j + 1) := (nI_leI (a := 10) (b := (j + 1)) (by omega) (by omega)).mp c7
    obtain rfl : j = 9 := by omega
    refine lv_iload_n hx hb dX1_wordFor_33 rfl (lv_at hl 2 rfl) ?_
    exact W.iret hx hb hr (fun t ht hW => ⟨⟨_, w, rfl, rfl, wEnd M0.mv hX ht hW⟩, hS.F ht⟩) hS.2.2 dX1_wordFor_34
  · have c7n : ¬ 10 ≤ (j + 1) := fun h9 => c7 ((nI_leI (a := 10) (b := (j + 1)) (by omega) (by omega)).mpr h9)
    refine lv_aload_n hx hb dX1_wordFor_10 rfl (lv_at hl 0 rfl) ?_
    refine lv_iload_n hx hb dX1_wordFor_11 rfl (lv_at hl 1 rfl) ?_
    refine lv_iload_n hx hb dX1_wordFor_12 rfl (lv_at hl 3 rfl) ?_
    refine wVi (mc := 0) (ms := 0) (As := [.int (nI i), .int (nI (j + 1))]) (rest := []) hF (mX1_openWith hok i (nI (j + 1)) (by omega)) M0.mv (fun _ => M0.mv) hX (M0.rc hX) jyX1_openWith kl_RX1_106 ⟨rfl, rfl⟩ ⟨Nat.le_of_ble_eq_true rfl, Nat.le_of_ble_eq_true rfl⟩ rfl hl.1 rfl (Nat.le_of_ble_eq_true rfl) ⟨Nat.zero_le _, Nat.zero_le _⟩ hS (fun _ _ h => h) (fun _ h => h) dX1_wordFor_13 (fun r9 w1 H locs hp hX hz hk hS => ?_)
    have hr9 := hp
    subst hr9
    refine lv_aload_n hx hb dX1_wordFor_16 rfl (lv_at hl 0 rfl) ?_
    refine lv_iload_n hx hb dX1_wordFor_17 rfl (lv_at hl 1 rfl) ?_
    refine lv_iload_n hx hb dX1_wordFor_18 rfl (lv_at hl 2 rfl) ?_
    refine wVi (mc := 0) (ms := 0) (As := [.int (nI i), .int (nI (amin (fun x => unW v st N i (nI x)) j))]) (rest := [.int (unW v st N i (nI (j + 1)))]) hF (mX1_openWith hok i (nI (amin (fun x => unW v st N i (nI x)) j)) (by omega)) M0.mv (fun _ => M0.mv) hX (M0.rc hX) jyX1_openWith kl_RX1_106 ⟨rfl, rfl⟩ ⟨Nat.le_of_ble_eq_true rfl, Nat.le_of_ble_eq_true rfl⟩ rfl hl.1 rfl (Nat.le_of_ble_eq_true rfl) ⟨Nat.zero_le _, Nat.zero_le _⟩ hS (fun _ _ h => h) (fun _ h => h) dX1_wordFor_19 (fun r9 w2 H locs hp hX hz hk hS => ?_)
    have hr9 := hp
    subst hr9
    refine lv_icmp_ge (tgt := 27) hx hb dX1_wordFor_22 (by decide) (fun c22 => ?_) (fun c22 => ?_)
    · refine lv_iinc (v := (nI (j + 1 + 1))) (lv' := [(3, .int (nI (j + 1 + 1))), (0, .ref (q 0)), (1, .int (nI i)), (2, .int (nI (amin (fun x => unW v st N i (nI x)) j)))]) hx hb dX1_wordFor_27 hl (k := 3) rfl (nI_1 _) (by decide) rfl (fun ls hl => ?_)
      refine lv_goto (tgt := 4) hx hb dX1_wordFor_30 (by decide) ?_
      exact ih (j + 1) w2 ls H locs (by omega) ⟨by omega, hX, hS, by rw [amin_f (f := (fun x => unW v st N i (nI x))) (k := j) (Int32.not_lt.mpr c22)]; exact lv_sub hl [1, 2, 3, 0] rfl⟩
    · refine lv_iload_n hx hb dX1_wordFor_25 rfl (lv_at hl 3 rfl) ?_
      refine lv_istore_n (lv' := [(2, .int (nI (j + 1))), (0, .ref (q 0)), (1, .int (nI i)), (3, .int (nI (j + 1)))]) hx hb dX1_wordFor_26 rfl hl (by decide) rfl (fun ls hl => ?_)
      refine lv_iinc (v := (nI (j + 1 + 1))) (lv' := [(3, .int (nI (j + 1 + 1))), (2, .int (nI (j + 1))), (0, .ref (q 0)), (1, .int (nI i))]) hx hb dX1_wordFor_27 hl (k := 3) rfl (nI_1 _) (by decide) rfl (fun ls hl => ?_)
      refine lv_goto (tgt := 4) hx hb dX1_wordFor_30 (by decide) ?_
      exact ih (j + 1) w2 ls H locs (by omega) ⟨by omega, hX, hS, by rw [amin_t (f := (fun x => unW v st N i (nI x))) (k := j) (Int32.not_le.mp c22)]; exact lv_sub hl [2, 3, 1, 0] rfl⟩
set_option maxHeartbeats 4000000 in
set_option maxRecDepth 100000 in
theorem mX1_stepFor (hok : Ok N st v) : Met l yX1_stepFor (wm yX1_stepFor cX1_stepFor 3 (some .int)) ({ frames := 5, cells := 0, slots := 0, locals := 110 } : Room) (va_Pc [.ref (q 0)] (fun U => M0 D cyI cyZ q th (nI N) st md v w U U.heap)) (va_Qi (fun (r : Int32) (u : Nat → Nat → Int32) => r = nI (bst v N)) (fun u U => (fun (u : Nat → Nat → Int32) => (M0 D cyI cyZ q th (nI N) st md v u : State → Heap → Prop)) u U U.heap) (own 8 q)) 0 0 (own 8 q) := by
  refine mt (by decide) (Nat.le_of_ble_eq_true rfl) ?_
  intro p ev s m below meth c ls hF hr hlocks hnm hX hl
  have hF : CallFix p m c cX1_stepFor 3 s _ wA RX1 := hF
  obtain ⟨hx, hb, hml, hown, hts⟩ := id hF
  have hX : M0 D cyI cyZ q th (nI N) st md v w s s.heap := hX
  have hl : lv_has ls 3 [(0, .ref (q 0))] := hl
  have hS : va_S (own 8 q) s.heap s.heap [] := va_S.rf
  have hN := hok.1
  refine lv_iconst (v := (nI (0 + 1))) hx hb dX1_stepFor_0 (by decide) ?_
  refine lv_istore_n (lv' := [(1, .int (nI (0 + 1))), (0, .ref (q 0))]) hx hb dX1_stepFor_1 rfl hl (by decide) rfl (fun ls hl => ?_)
  refine lv_iconst (v := (nI (0 + 2))) hx hb dX1_stepFor_2 (by decide) ?_
  refine lv_istore_n (lv' := [(2, .int (nI (0 + 2))), (1, .int (nI (0 + 1))), (0, .ref (q 0))]) hx hb dX1_stepFor_3 rfl hl (by decide) rfl (fun ls hl => ?_)
  refine lpH2 (σ := Nat) (τ := Nat → Nat → Int32) (fun j w ls H locs => (j ≤ 3) ∧ M0 D cyI cyZ q th (nI N) st md v w s H ∧ va_S (own 8 q) s.heap H locs ∧ lv_has ls 3 [(0, .ref (q 0)), (1, .int (nI (amin (fun x => unm v (v 3) (nI (x + 1)) N) j + 1))), (2, .int (nI (j + 2)))]) (fun j w => 3 - j) (fun j w ls H locs hI ih => ?_) (0) w ⟨Nat.zero_le _, hX, hS, lv_sub hl [2, 1, 0] rfl⟩
  obtain ⟨hj, hX, hS, hl⟩ := hI
  refine lv_iload_n hx hb dX1_stepFor_4 rfl (lv_at hl 2 rfl) ?_
  refine lv_iconst (v := 4) hx hb dX1_stepFor_5 (by decide) ?_
  refine lv_icmp_gt (tgt := 30) hx hb dX1_stepFor_6 (by decide) (fun c6 => ?_) (fun c6 => ?_)
  · have c6n : 4 < (j + 2) := (nI_ltI (a := 4) (b := (j + 2)) (by omega) (by omega)).mp c6
    obtain rfl : j = 3 := by omega
    refine lv_iload_n hx hb dX1_stepFor_30 rfl (lv_at hl 1 rfl) ?_
    exact W.iret hx hb hr (fun t ht hW => ⟨⟨_, w, rfl, rfl, wEnd M0.mv hX ht hW⟩, hS.F ht⟩) hS.2.2 dX1_stepFor_31
  · have c6n : ¬ 4 < (j + 2) := fun h9 => c6 ((nI_ltI (a := 4) (b := (j + 2)) (by omega) (by omega)).mpr h9)
    refine lv_aload_n hx hb dX1_stepFor_9 rfl (lv_at hl 0 rfl) ?_
    refine lv_iload_n hx hb dX1_stepFor_10 rfl (lv_at hl 2 rfl) ?_
    refine wVi (mc := 0) (ms := 0) (As := [.int (nI (j + 2))]) (rest := []) hF (mX1_openBy hok (nI (j + 2))) M0.mv (fun _ => M0.mv) hX (M0.rc hX) jyX1_openBy kl_RX1_103 ⟨rfl, rfl⟩ ⟨Nat.le_of_ble_eq_true rfl, Nat.le_of_ble_eq_true rfl⟩ rfl hl.1 rfl (Nat.le_of_ble_eq_true rfl) ⟨Nat.zero_le _, Nat.zero_le _⟩ hS (fun _ _ h => h) (fun _ h => h) dX1_stepFor_11 (fun r9 w1 H locs hp hX hz hk hS => ?_)
    have hr9 := hp
    subst hr9
    refine lv_aload_n hx hb dX1_stepFor_14 rfl (lv_at hl 0 rfl) ?_
    refine lv_iload_n hx hb dX1_stepFor_15 rfl (lv_at hl 1 rfl) ?_
    refine wVi (mc := 0) (ms := 0) (As := [.int (nI (amin (fun x => unm v (v 3) (nI (x + 1)) N) j + 1))]) (rest := [.int (unm v (v 3) (nI (j + 2)) N)]) hF (mX1_openBy hok (nI (amin (fun x => unm v (v 3) (nI (x + 1)) N) j + 1))) M0.mv (fun _ => M0.mv) hX (M0.rc hX) jyX1_openBy kl_RX1_103 ⟨rfl, rfl⟩ ⟨Nat.le_of_ble_eq_true rfl, Nat.le_of_ble_eq_true rfl⟩ rfl hl.1 rfl (Nat.le_of_ble_eq_true rfl) ⟨Nat.zero_le _, Nat.zero_le _⟩ hS (fun _ _ h => h) (fun _ h => h) dX1_stepFor_16 (fun r9 w2 H locs hp hX hz hk hS => ?_)
    have hr9 := hp
    subst hr9
    refine lv_icmp_ge (tgt := 24) hx hb dX1_stepFor_19 (by decide) (fun c19 => ?_) (fun c19 => ?_)
    · refine lv_iinc (v := (nI (j + 2 + 1))) (lv' := [(2, .int (nI (j + 2 + 1))), (0, .ref (q 0)), (1, .int (nI (amin (fun x => unm v (v 3) (nI (x + 1)) N) j + 1)))]) hx hb dX1_stepFor_24 hl (k := 2) rfl (nI_1 _) (by decide) rfl (fun ls hl => ?_)
      refine lv_goto (tgt := 4) hx hb dX1_stepFor_27 (by decide) ?_
      exact ih (j + 1) w2 ls H locs (by omega) ⟨by omega, hX, hS, by rw [amin_f (f := (fun x => unm v (v 3) (nI (x + 1)) N)) (k := j) (Int32.not_lt.mpr c19)]; exact lv_sub hl [1, 2, 0] rfl⟩
    · refine lv_iload_n hx hb dX1_stepFor_22 rfl (lv_at hl 2 rfl) ?_
      refine lv_istore_n (lv' := [(1, .int (nI (j + 2))), (0, .ref (q 0)), (2, .int (nI (j + 2)))]) hx hb dX1_stepFor_23 rfl hl (by decide) rfl (fun ls hl => ?_)
      refine lv_iinc (v := (nI (j + 2 + 1))) (lv' := [(2, .int (nI (j + 2 + 1))), (1, .int (nI (j + 2))), (0, .ref (q 0))]) hx hb dX1_stepFor_24 hl (k := 2) rfl (nI_1 _) (by decide) rfl (fun ls hl => ?_)
      refine lv_goto (tgt := 4) hx hb dX1_stepFor_27 (by decide) ?_
      exact ih (j + 1) w2 ls H locs (by omega) ⟨by omega, hX, hS, by rw [amin_t (f := (fun x => unm v (v 3) (nI (x + 1)) N)) (k := j) (Int32.not_le.mp c19)]; exact lv_sub hl [2, 1, 0] rfl⟩
set_option maxHeartbeats 4000000 in
set_option maxRecDepth 100000 in
theorem mX1_allBeats (hok : Ok N st v) : Met l yX1_allBeats (wm yX1_allBeats cX1_allBeats 3 (some .int)) ({ frames := 0, cells := 0, slots := 0, locals := 0 } : Room) (va_Pc [.ref (q 0)] (fun U => M0 D cyI cyZ q th (nI N) st md v w U U.heap)) (vp_Si (fun r => r = sumI (v 1) N)) 0 0 (fun _ => False) := by
  refine mt (by decide) (Nat.le_of_ble_eq_true rfl) ?_
  intro p ev s m below meth c ls hF hr hlocks hnm hX hl
  have hF : CallFix p m c cX1_allBeats 3 s _ wA RX1 := hF
  obtain ⟨hx, hb, hml, hown, hts⟩ := id hF
  have hX : M0 D cyI cyZ q th (nI N) st md v w s s.heap := hX
  have hl : lv_has ls 3 [(0, .ref (q 0))] := hl
  have hN := hok.1
  refine lv_iconst (v := 0) hx hb dX1_allBeats_0 (by decide) ?_
  refine lv_istore_n (lv' := [(1, .int 0), (0, .ref (q 0))]) hx hb dX1_allBeats_1 rfl hl (by decide) rfl (fun ls hl => ?_)
  refine lv_iconst (v := 0) hx hb dX1_allBeats_2 (by decide) ?_
  refine lv_istore_n (lv' := [(2, .int 0), (1, .int 0), (0, .ref (q 0))]) hx hb dX1_allBeats_3 rfl hl (by decide) rfl (fun ls hl => ?_)
  refine lpW (σ := Nat) (fun j ls => (j ≤ N) ∧ lv_has ls 3 [(0, .ref (q 0)), (1, .int (sumI (v 1) j)), (2, .int (nI j))]) (fun j => N - j) (fun j ls hI ih => ?_) (0) ⟨by omega, lv_sub hl [2, 1, 0] rfl⟩
  obtain ⟨hj, hl⟩ := hI
  refine lv_iload_n hx hb dX1_allBeats_4 rfl (lv_at hl 2 rfl) ?_
  refine lv_aload_n hx hb dX1_allBeats_5 rfl (lv_at hl 0 rfl) ?_
  refine M0.get hF hX 1 (by decide) rfl rfl kf_RX1_38 dX1_allBeats_6 ?_
  refine lv_icmp_ge (tgt := 27) hx hb dX1_allBeats_9 (by decide) (fun c9 => ?_) (fun c9 => ?_)
  · have c9n : N ≤ j := (nI_leI (a := N) (b := j) (by omega) (by omega)).mp c9
    obtain rfl : j = N := by omega
    refine lv_iload_n hx hb dX1_allBeats_27 rfl (lv_at hl 1 rfl) ?_
    exact W.iret hx hb hr (fun t ht hW => ⟨_, rfl, rfl, ht⟩) (fun q hq => absurd hq List.not_mem_nil) dX1_allBeats_28
  · have c9n : ¬ N ≤ j := fun h9 => c9 ((nI_leI (a := N) (b := j) (by omega) (by omega)).mpr h9)
    refine lv_iload_n hx hb dX1_allBeats_12 rfl (lv_at hl 1 rfl) ?_
    refine lv_aload_n hx hb dX1_allBeats_13 rfl (lv_at hl 0 rfl) ?_
    refine M0.get hF hX 4 (by decide) rfl rfl kf_RX1_17 dX1_allBeats_14 ?_
    refine lv_iload_n hx hb dX1_allBeats_17 rfl (lv_at hl 2 rfl) ?_
    refine aldI hF hX.2.1 hX.1 2 0 rfl rfl j (by omega) (by decide) rfl dX1_allBeats_18 ?_
    refine lv_iadd hx hb dX1_allBeats_19 ?_
    refine lv_istore_n (lv' := [(1, .int ((sumI (v 1) j) + (v 1 j))), (0, .ref (q 0)), (2, .int (nI j))]) hx hb dX1_allBeats_20 rfl hl (by decide) rfl (fun ls hl => ?_)
    refine lv_iinc (v := (nI (j + 1))) (lv' := [(2, .int (nI (j + 1))), (1, .int ((sumI (v 1) j) + (v 1 j))), (0, .ref (q 0))]) hx hb dX1_allBeats_21 hl (k := 2) rfl (nI_1 _) (by decide) rfl (fun ls hl => ?_)
    refine lv_goto (tgt := 4) hx hb dX1_allBeats_24 (by decide) ?_
    exact ih (j + 1) ls (by omega) ⟨by omega, by exact lv_sub hl [2, 1, 0] rfl⟩
set_option maxHeartbeats 4000000 in
set_option maxRecDepth 100000 in
theorem mX1_wide (hok : Ok N st v) : Met l yX1_wide (wm yX1_wide cX1_wide 4 (some .int)) ({ frames := 3, cells := 0, slots := 0, locals := 65 } : Room) (va_Pc [.ref (q 0)] (fun U => M0 D cyI cyZ q th (nI N) st md v w U U.heap)) (va_Qi (fun (r : Int32) (u : Nat → Nat → Int32) => r = rng v st N) (fun u U => (fun (u : Nat → Nat → Int32) => (M0 D cyI cyZ q th (nI N) st md v u : State → Heap → Prop)) u U U.heap) (own 8 q)) 0 0 (own 8 q) := by
  refine mt (by decide) (Nat.le_of_ble_eq_true rfl) ?_
  intro p ev s m below meth c ls hF hr hlocks hnm hX hl
  have hF : CallFix p m c cX1_wide 4 s _ wA RX1 := hF
  obtain ⟨hx, hb, hml, hown, hts⟩ := id hF
  have hX : M0 D cyI cyZ q th (nI N) st md v w s s.heap := hX
  have hl : lv_has ls 4 [(0, .ref (q 0))] := hl
  have hS : va_S (own 8 q) s.heap s.heap [] := va_S.rf
  have hN := hok.1
  refine lv_aload_n hx hb dX1_wide_0 rfl (lv_at hl 0 rfl) ?_
  refine lv_aload_n hx hb dX1_wide_1 rfl (lv_at hl 0 rfl) ?_
  refine M0.get hF hX 2 (by decide) rfl rfl kf_RX1_7 dX1_wide_2 ?_
  refine wVv (mc := 0) (ms := 0) (As := [.int st]) (rest := []) hF (mX1_sing hok st) M0.mv (fun _ => M0.mv) hX (M0.rc hX) jyX1_sing kl_RX1_68 ⟨rfl, rfl⟩ ⟨Nat.le_of_ble_eq_true rfl, Nat.le_of_ble_eq_true rfl⟩ rfl hl.1 rfl (Nat.le_of_ble_eq_true rfl) ⟨Nat.zero_le _, Nat.zero_le _⟩ hS (fun _ _ h => h) (fun _ h => h) dX1_wide_5 (fun w1 H locs hp hX hz hk hS => ?_)
  have hsg := hp
  refine lv_iconst (v := 0) hx hb dX1_wide_8 (by decide) ?_
  refine lv_istore_n (lv' := [(1, .int 0), (0, .ref (q 0))]) hx hb dX1_wide_9 rfl hl (by decide) rfl (fun ls hl => ?_)
  refine lv_bipush (v := 24) hx hb dX1_wide_10 (by decide) ?_
  refine lv_istore_n (lv' := [(2, .int 24), (1, .int 0), (0, .ref (q 0))]) hx hb dX1_wide_12 rfl hl (by decide) rfl (fun ls hl => ?_)
  refine lv_iconst (v := 1) hx hb dX1_wide_13 (by decide) ?_
  refine lv_istore_n (lv' := [(3, .int 1), (2, .int 24), (1, .int 0), (0, .ref (q 0))]) hx hb dX1_wide_14 rfl hl (by decide) rfl (fun ls hl => ?_)
  refine lpW (σ := Nat) (fun j ls => (j ≤ N) ∧ lv_has ls 4 [(0, .ref (q 0)), (1, .int (hi9 (v 0) st j)), (2, .int (lo9 (v 0) st j)), (3, .int (nI (j + 1)))]) (fun j => N - j) (fun j ls hI ih => ?_) (0) ⟨Nat.zero_le _, lv_sub hl [3, 2, 1, 0] rfl⟩
  obtain ⟨hj, hl⟩ := hI
  refine lv_iload_n hx hb dX1_wide_15 rfl (lv_at hl 3 rfl) ?_
  refine lv_aload_n hx hb dX1_wide_16 rfl (lv_at hl 0 rfl) ?_
  refine M0.get hF hX 1 (by decide) rfl rfl kf_RX1_38 dX1_wide_17 ?_
  refine lv_icmp_gt (tgt := 51) hx hb dX1_wide_20 (by decide) (fun c20 => ?_) (fun c20 => ?_)
  · have c20n : N < (j + 1) := (nI_ltI (a := N) (b := (j + 1)) (by omega) (by omega)).mp c20
    have hjN : j = N := by omega
    rw [hjN] at hl
    refine lv_aload_n hx hb dX1_wide_51 rfl (lv_at hl 0 rfl) ?_
    refine M0.get hF hX 1 (by decide) rfl rfl kf_RX1_38 dX1_wide_52 ?_
    refine lv_if_ne (tgt := 62) hx hb dX1_wide_55 (by decide) (fun c55 => ?_) (fun c55 => ?_)
    · have c55n : ¬ N = 0 := fun h9 => c55 ((nI_eq (a := N) (b := 0) (by omega) (by omega)).mpr h9)
      refine lv_iload_n hx hb dX1_wide_62 rfl (lv_at hl 1 rfl) ?_
      refine lv_iload_n hx hb dX1_wide_63 rfl (lv_at hl 2 rfl) ?_
      refine lv_isub hx hb dX1_wide_64 ?_
      exact W.iret hx hb hr (fun t ht hW => ⟨⟨_, w1, rfl, (rng_1 (by omega)), wEnd M0.mv hX ht hW⟩, hS.F ht⟩) hS.2.2 dX1_wide_65
    · have c55n : N = 0 := (nI_eq (a := N) (b := 0) (by omega) (by omega)).mp c55
      refine lv_iconst (v := 0) hx hb dX1_wide_58 (by decide) ?_
      refine lv_goto (tgt := 65) hx hb dX1_wide_59 (by decide) ?_
      exact W.iret hx hb hr (fun t ht hW => ⟨⟨_, w1, rfl, (rng_0 (by omega)), wEnd M0.mv hX ht hW⟩, hS.F ht⟩) hS.2.2 dX1_wide_65
  · have c20n : ¬ N < (j + 1) := fun h9 => c20 ((nI_ltI (a := N) (b := (j + 1)) (by omega) (by omega)).mpr h9)
    refine lv_iload_n hx hb dX1_wide_23 rfl (lv_at hl 1 rfl) ?_
    refine lv_aload_n hx hb dX1_wide_24 rfl (lv_at hl 0 rfl) ?_
    refine M0.get hF hX 8 (by decide) rfl rfl kf_RX1_26 dX1_wide_25 ?_
    refine lv_iload_n hx hb dX1_wide_28 rfl (lv_at hl 3 rfl) ?_
    refine aldI hF hX.2.1 hX.1 5 0 rfl rfl (j + 1) (by omega) (by decide) rfl dX1_wide_29 ?_
    refine topI (show (w1 0 (j + 1)) = nt (v 0) st (j + 1) from hsg (j + 1) (by omega)) ?_
    refine va_mmax hx hb (hml.trans hl.1.symm) hown (hts _ kl_RX1_60) (hts _ ks_LM_max_name) (hts _ kn_Math) (hts _ kd_LM_max_name) (Nat.le_of_ble_eq_true rfl) (Nat.le_of_ble_eq_true rfl) (Nat.zero_le _) (Nat.zero_le _) dX1_wide_30 ?_
    refine lv_istore_n (lv' := [(1, .int (mx (hi9 (v 0) st j) (nt (v 0) st (j + 1)))), (0, .ref (q 0)), (2, .int (lo9 (v 0) st j)), (3, .int (nI (j + 1)))]) hx hb dX1_wide_33 rfl hl (by decide) rfl (fun ls hl => ?_)
    refine lv_iload_n hx hb dX1_wide_34 rfl (lv_at hl 2 rfl) ?_
    refine lv_aload_n hx hb dX1_wide_35 rfl (lv_at hl 1 rfl) ?_
    refine M0.get hF hX 8 (by decide) rfl rfl kf_RX1_26 dX1_wide_36 ?_
    refine lv_iload_n hx hb dX1_wide_39 rfl (lv_at hl 3 rfl) ?_
    refine aldI hF hX.2.1 hX.1 5 0 rfl rfl (j + 1) (by omega) (by decide) rfl dX1_wide_40 ?_
    refine topI (show (w1 0 (j + 1)) = nt (v 0) st (j + 1) from hsg (j + 1) (by omega)) ?_
    refine va_mmin hx hb (hml.trans hl.1.symm) hown (hts _ kl_RX1_144) (hts _ ks_LM_min_name) (hts _ kn_Math) (hts _ kd_LM_min_name) (Nat.le_of_ble_eq_true rfl) (Nat.le_of_ble_eq_true rfl) (Nat.zero_le _) (Nat.zero_le _) dX1_wide_41 ?_
    refine lv_istore_n (lv' := [(2, .int (mn (lo9 (v 0) st j) (nt (v 0) st (j + 1)))), (1, .int (mx (hi9 (v 0) st j) (nt (v 0) st (j + 1)))), (0, .ref (q 0)), (3, .int (nI (j + 1)))]) hx hb dX1_wide_44 rfl hl (by decide) rfl (fun ls hl => ?_)
    refine lv_iinc (v := (nI (j + 1 + 1))) (lv' := [(3, .int (nI (j + 1 + 1))), (2, .int (mn (lo9 (v 0) st j) (nt (v 0) st (j + 1)))), (1, .int (mx (hi9 (v 0) st j) (nt (v 0) st (j + 1)))), (0, .ref (q 0))]) hx hb dX1_wide_45 hl (k := 3) rfl (nI_1 _) (by decide) rfl (fun ls hl => ?_)
    refine lv_goto (tgt := 15) hx hb dX1_wide_48 (by decide) ?_
    exact ih (j + 1) ls (by omega) ⟨by omega, by exact lv_sub hl [3, 2, 1, 0] rfl⟩
set_option maxHeartbeats 4000000 in
set_option maxRecDepth 100000 in
theorem mX1_firstOpen (hok : Ok N st v) (hmk : Mk N mk md) : Met l yX1_firstOpen (wm yX1_firstOpen cX1_firstOpen 2 (some .int)) ({ frames := 6, cells := 0, slots := 0, locals := 129 } : Room) (va_Pc [.ref (q 0)] (fun U => M0 D cyI cyZ q th (nI N) st md v w U U.heap)) (va_Qi (fun (r : Int32) (u : Nat → Nat → Int32) => r = fam v st mk N) (fun u U => (fun (u : Nat → Nat → Int32) => (M0 D cyI cyZ q th (nI N) st md v u : State → Heap → Prop)) u U U.heap) (own 8 q)) 0 0 (own 8 q) := by
  refine mt (by decide) (Nat.le_of_ble_eq_true rfl) ?_
  intro p ev s m below meth c ls hF hr hlocks hnm hX hl
  have hF : CallFix p m c cX1_firstOpen 2 s _ wA RX1 := hF
  obtain ⟨hx, hb, hml, hown, hts⟩ := id hF
  have hX : M0 D cyI cyZ q th (nI N) st md v w s s.heap := hX
  have hl : lv_has ls 2 [(0, .ref (q 0))] := hl
  have hS : va_S (own 8 q) s.heap s.heap [] := va_S.rf
  have hN := hok.1
  refine lv_iconst (v := 0) hx hb dX1_firstOpen_0 (by decide) ?_
  refine lv_istore_n (lv' := [(1, .int 0), (0, .ref (q 0))]) hx hb dX1_firstOpen_1 rfl hl (by decide) rfl (fun ls hl => ?_)
  refine lpH2 (σ := Nat) (τ := Nat → Nat → Int32) (fun j w ls H locs => (j ≤ N ∧ ∀ i, i < j → amb v st mk i = false) ∧ M0 D cyI cyZ q th (nI N) st md v w s H ∧ va_S (own 8 q) s.heap H locs ∧ lv_has ls 2 [(0, .ref (q 0)), (1, .int (nI j))]) (fun j w => N - j) (fun j w ls H locs hI ih => ?_) (0) w ⟨⟨by omega, fun i h => absurd h (Nat.not_lt_zero _)⟩, hX, hS, lv_sub hl [1, 0] rfl⟩
  obtain ⟨hj, hX, hS, hl⟩ := hI
  refine lv_iload_n hx hb dX1_firstOpen_2 rfl (lv_at hl 1 rfl) ?_
  refine lv_aload_n hx hb dX1_firstOpen_3 rfl (lv_at hl 0 rfl) ?_
  refine M0.get hF hX 1 (by decide) rfl rfl kf_RX1_38 dX1_firstOpen_4 ?_
  refine lv_icmp_ge (tgt := 26) hx hb dX1_firstOpen_7 (by decide) (fun c7 => ?_) (fun c7 => ?_)
  · have c7n : N ≤ j := (nI_leI (a := N) (b := j) (by omega) (by omega)).mp c7
    obtain rfl : j = N := by omega
    refine lv_iconst (v := (-1)) hx hb dX1_firstOpen_26 (by decide) ?_
    exact W.iret hx hb hr (fun t ht hW => ⟨⟨_, w, rfl, fam_no hj.2, wEnd M0.mv hX ht hW⟩, hS.F ht⟩) hS.2.2 dX1_firstOpen_27
  · have c7n : ¬ N ≤ j := fun h9 => c7 ((nI_leI (a := N) (b := j) (by omega) (by omega)).mpr h9)
    refine lv_aload_n hx hb dX1_firstOpen_10 rfl (lv_at hl 0 rfl) ?_
    refine lv_iload_n hx hb dX1_firstOpen_11 rfl (lv_at hl 1 rfl) ?_
    refine wVi (mc := 0) (ms := 0) (As := [.int (nI j)]) (rest := []) hF (mX1_isOpen hok hmk j (by omega)) M0.mv (fun _ => M0.mv) hX (M0.rc hX) jyX1_isOpen kl_RX1_94 ⟨rfl, rfl⟩ ⟨Nat.le_of_ble_eq_true rfl, Nat.le_of_ble_eq_true rfl⟩ rfl hl.1 rfl (Nat.le_of_ble_eq_true rfl) ⟨Nat.zero_le _, Nat.zero_le _⟩ hS (fun _ _ h => h) (fun _ h => h) dX1_firstOpen_12 (fun r9 w1 H locs hp hX hz hk hS => ?_)
    have hr9 := hp
    subst hr9
    refine lv_if_eq (tgt := 20) hx hb dX1_firstOpen_15 (by decide) (fun c15 => ?_) (fun c15 => ?_)
    · have c15b := b2i_f c15
      refine lv_iinc (v := (nI (j + 1))) (lv' := [(1, .int (nI (j + 1))), (0, .ref (q 0))]) hx hb dX1_firstOpen_20 hl (k := 1) rfl (nI_1 _) (by decide) rfl (fun ls hl => ?_)
      refine lv_goto (tgt := 2) hx hb dX1_firstOpen_23 (by decide) ?_
      exact ih (j + 1) w1 ls H locs (by omega) ⟨⟨by omega, lt_s1 hj.2 c15b⟩, hX, hS, by exact lv_sub hl [1, 0] rfl⟩
    · have c15b := b2i_t c15
      refine lv_iload_n hx hb dX1_firstOpen_18 rfl (lv_at hl 1 rfl) ?_
      exact W.iret hx hb hr (fun t ht hW => ⟨⟨_, w1, rfl, fam_at hj.2 c15b (by omega), wEnd M0.mv hX ht hW⟩, hS.F ht⟩) hS.2.2 dX1_firstOpen_19
end P21
