section P20
variable {l : Launch} {D : va_G} {cyI cyZ : ClassId} {q : Nat → Nat} {N K : Nat} {n st th md : Int32} {v w : Nat → Nat → Int32} {mk : Nat → Bool}
variable {t1 : Nat}
set_option maxHeartbeats 4000000 in
set_option maxRecDepth 100000 in
theorem mX1_isIn (x lo hi : Int32) : Met l yX1_isIn (wm yX1_isIn cX1_isIn 3 (some .boolean)) ({ frames := 0, cells := 0, slots := 0, locals := 0 } : Room) (va_Pc [.int x, .int lo, .int hi] (fun U => (fun _ _ => True : State → Heap → Prop) U U.heap)) (vp_Si (fun r => r = b2i (isI x lo hi))) 0 0 (fun _ => False) := by
  refine mt (by decide) (Nat.le_of_ble_eq_true rfl) ?_
  intro p ev s m below meth c ls hF hr hlocks hnm hX hl
  have hF : CallFix p m c cX1_isIn 3 s _ wA RX1 := hF
  obtain ⟨hx, hb, hml, hown, hts⟩ := id hF
  have hl : lv_has ls 3 [(0, .int x), (1, .int lo), (2, .int hi)] := hl
  refine lv_iload_n hx hb dX1_isIn_0 rfl (lv_at hl 0 rfl) ?_
  refine lv_iload_n hx hb dX1_isIn_1 rfl (lv_at hl 1 rfl) ?_
  refine lv_icmp_lt (tgt := 14) hx hb dX1_isIn_2 (by decide) (fun c2 => ?_) (fun c2 => ?_)
  · refine lv_iconst (v := 0) hx hb dX1_isIn_14 (by decide) ?_
    exact W.zret hx hb hr rfl (fun t ht hW => ⟨_, rfl, b2i_0 (by simp [isI, Int32.not_le.mpr c2]), ht⟩) (fun q hq => absurd hq List.not_mem_nil) dX1_isIn_15
  · refine lv_iload_n hx hb dX1_isIn_5 rfl (lv_at hl 0 rfl) ?_
    refine lv_iload_n hx hb dX1_isIn_6 rfl (lv_at hl 2 rfl) ?_
    refine lv_icmp_gt (tgt := 14) hx hb dX1_isIn_7 (by decide) (fun c7 => ?_) (fun c7 => ?_)
    · refine lv_iconst (v := 0) hx hb dX1_isIn_14 (by decide) ?_
      exact W.zret hx hb hr rfl (fun t ht hW => ⟨_, rfl, b2i_0 (by simp [isI, Int32.not_le.mpr c7]), ht⟩) (fun q hq => absurd hq List.not_mem_nil) dX1_isIn_15
    · refine lv_iconst (v := 1) hx hb dX1_isIn_10 (by decide) ?_
      refine lv_goto (tgt := 15) hx hb dX1_isIn_11 (by decide) ?_
      exact W.zret hx hb hr rfl (fun t ht hW => ⟨_, rfl, b2i_1 (by simp [isI, Int32.not_lt.mp c2, Int32.not_lt.mp c7]), ht⟩) (fun q hq => absurd hq List.not_mem_nil) dX1_isIn_15
set_option maxHeartbeats 4000000 in
set_option maxRecDepth 100000 in
theorem mX1_isLeg (x : Int32) : Met l yX1_isLeg (wm yX1_isLeg cX1_isLeg 2 (some .boolean)) ({ frames := 1, cells := 0, slots := 0, locals := 22 } : Room) (va_Pc [.ref (q 0), .int x] (fun U => M0 D cyI cyZ q th (nI N) st md v w U U.heap)) (vp_Si (fun r => r = b2i (legB N x))) 0 0 (fun _ => False) := by
  refine mt (by decide) (Nat.le_of_ble_eq_true rfl) ?_
  intro p ev s m below meth c ls hF hr hlocks hnm hX hl
  have hF : CallFix p m c cX1_isLeg 2 s _ wA RX1 := hF
  obtain ⟨hx, hb, hml, hown, hts⟩ := id hF
  have hX : M0 D cyI cyZ q th (nI N) st md v w s s.heap := hX
  have hl : lv_has ls 2 [(0, .ref (q 0)), (1, .int x)] := hl
  refine lv_iload_n hx hb dX1_isLeg_0 rfl (lv_at hl 1 rfl) ?_
  refine lv_iconst (v := 0) hx hb dX1_isLeg_1 (by decide) ?_
  refine lv_aload_n hx hb dX1_isLeg_2 rfl (lv_at hl 0 rfl) ?_
  refine M0.get hF hX 1 (by decide) rfl rfl kf_RX1_38 dX1_isLeg_3 ?_
  refine lv_iconst (v := 1) hx hb dX1_isLeg_6 (by decide) ?_
  refine lv_isub hx hb dX1_isLeg_7 ?_
  refine cSi (As := [.int x, .int 0, .int ((nI N) - 1)]) (rest := []) hF (mX1_isIn x 0 ((nI N) - 1)) Mv.const trivial jyX1_isIn kl_RX1_41 ⟨rfl, rfl⟩ ⟨Nat.le_of_ble_eq_true rfl, Nat.le_of_ble_eq_true rfl⟩ rfl hl.1 rfl (Nat.le_of_ble_eq_true rfl) ⟨Nat.zero_le _, Nat.zero_le _⟩ dX1_isLeg_8 (fun r hr9 => ?_)
  subst hr9
  exact W.zret hx hb hr b2i_nar (fun t ht hW => ⟨_, rfl, rfl, ht⟩) (fun q hq => absurd hq List.not_mem_nil) dX1_isLeg_11
set_option maxHeartbeats 4000000 in
set_option maxRecDepth 100000 in
theorem mX1_isKind (x : Int32) : Met l yX1_isKind (wm yX1_isKind cX1_isKind 1 (some .boolean)) ({ frames := 1, cells := 0, slots := 0, locals := 22 } : Room) (va_Pc [.int x] (fun U => (fun _ _ => True : State → Heap → Prop) U U.heap)) (vp_Si (fun r => r = b2i (isI x 0 9))) 0 0 (fun _ => False) := by
  refine mt (by decide) (Nat.le_of_ble_eq_true rfl) ?_
  intro p ev s m below meth c ls hF hr hlocks hnm hX hl
  have hF : CallFix p m c cX1_isKind 1 s _ wA RX1 := hF
  obtain ⟨hx, hb, hml, hown, hts⟩ := id hF
  have hl : lv_has ls 1 [(0, .int x)] := hl
  refine lv_iload_n hx hb dX1_isKind_0 rfl (lv_at hl 0 rfl) ?_
  refine lv_iconst (v := 0) hx hb dX1_isKind_1 (by decide) ?_
  refine lv_bipush (v := 9) hx hb dX1_isKind_2 (by decide) ?_
  refine cSi (As := [.int x, .int 0, .int 9]) (rest := []) hF (mX1_isIn x 0 9) Mv.const trivial jyX1_isIn kl_RX1_41 ⟨rfl, rfl⟩ ⟨Nat.le_of_ble_eq_true rfl, Nat.le_of_ble_eq_true rfl⟩ rfl hl.1 rfl (Nat.le_of_ble_eq_true rfl) ⟨Nat.zero_le _, Nat.zero_le _⟩ dX1_isKind_4 (fun r hr9 => ?_)
  subst hr9
  exact W.zret hx hb hr b2i_nar (fun t ht hW => ⟨_, rfl, rfl, ht⟩) (fun q hq => absurd hq List.not_mem_nil) dX1_isKind_7
set_option maxHeartbeats 4000000 in
set_option maxRecDepth 100000 in
theorem mX1_folds (a i : Int32) : Met l yX1_folds (wm yX1_folds cX1_folds 2 (some .boolean)) ({ frames := 1, cells := 0, slots := 0, locals := 22 } : Room) (va_Pc [.int a, .int i] (fun U => (fun _ _ => True : State → Heap → Prop) U U.heap)) (vp_Si (fun r => r = b2i (lv9 (a + i)))) 0 0 (fun _ => False) := by
  refine mt (by decide) (Nat.le_of_ble_eq_true rfl) ?_
  intro p ev s m below meth c ls hF hr hlocks hnm hX hl
  have hF : CallFix p m c cX1_folds 2 s _ wA RX1 := hF
  obtain ⟨hx, hb, hml, hown, hts⟩ := id hF
  have hl : lv_has ls 2 [(0, .int a), (1, .int i)] := hl
  refine lv_iload_n hx hb dX1_folds_0 rfl (lv_at hl 0 rfl) ?_
  refine lv_iload_n hx hb dX1_folds_1 rfl (lv_at hl 1 rfl) ?_
  refine lv_iadd hx hb dX1_folds_2 ?_
  refine lv_iconst (v := 0) hx hb dX1_folds_3 (by decide) ?_
  refine lv_bipush (v := 24) hx hb dX1_folds_4 (by decide) ?_
  refine cSi (As := [.int (a + i), .int 0, .int 24]) (rest := []) hF (mX1_isIn (a + i) 0 24) Mv.const trivial jyX1_isIn kl_RX1_41 ⟨rfl, rfl⟩ ⟨Nat.le_of_ble_eq_true rfl, Nat.le_of_ble_eq_true rfl⟩ rfl hl.1 rfl (Nat.le_of_ble_eq_true rfl) ⟨Nat.zero_le _, Nat.zero_le _⟩ dX1_folds_6 (fun r hr9 => ?_)
  subst hr9
  refine lv_if_ne (tgt := 16) hx hb dX1_folds_9 (by decide) (fun c9 => ?_) (fun c9 => ?_)
  · have c9b := b2i_t c9
    refine lv_iconst (v := 0) hx hb dX1_folds_16 (by decide) ?_
    exact W.zret hx hb hr rfl (fun t ht hW => ⟨_, rfl, b2i_0 (by rw [lv9_isI, c9b]; rfl), ht⟩) (fun q hq => absurd hq List.not_mem_nil) dX1_folds_17
  · have c9b := b2i_f c9
    refine lv_iconst (v := 1) hx hb dX1_folds_12 (by decide) ?_
    refine lv_goto (tgt := 17) hx hb dX1_folds_13 (by decide) ?_
    exact W.zret hx hb hr rfl (fun t ht hW => ⟨_, rfl, b2i_1 (by rw [lv9_isI, c9b]; rfl), ht⟩) (fun q hq => absurd hq List.not_mem_nil) dX1_folds_17
set_option maxHeartbeats 4000000 in
set_option maxRecDepth 100000 in
theorem mX1_thrown  : Met l yX1_thrown (wm yX1_thrown cX1_thrown 1 (some .int)) ({ frames := 0, cells := 0, slots := 0, locals := 0 } : Room) (va_Pc [.ref (q 0)] (fun U => M0 D cyI cyZ q th n st md v w U U.heap)) (vp_Si (fun r => r = th)) 0 0 (fun _ => False) := by
  refine mt (by decide) (Nat.le_of_ble_eq_true rfl) ?_
  intro p ev s m below meth c ls hF hr hlocks hnm hX hl
  have hF : CallFix p m c cX1_thrown 1 s _ wA RX1 := hF
  obtain ⟨hx, hb, hml, hown, hts⟩ := id hF
  have hX : M0 D cyI cyZ q th n st md v w s s.heap := hX
  have hl : lv_has ls 1 [(0, .ref (q 0))] := hl
  refine lv_aload_n hx hb dX1_thrown_0 rfl (lv_at hl 0 rfl) ?_
  refine M0.get hF hX 0 (by decide) rfl rfl kf_RX1_35 dX1_thrown_1 ?_
  exact W.iret hx hb hr (fun t ht hW => ⟨_, rfl, rfl, ht⟩) (fun q hq => absurd hq List.not_mem_nil) dX1_thrown_4
set_option maxHeartbeats 4000000 in
set_option maxRecDepth 100000 in
theorem mX1_heading (hok : Ok N st v) (i : Nat) (hi : i < N) : Met l yX1_heading (wm yX1_heading cX1_heading 4 (some .int)) ({ frames := 0, cells := 0, slots := 0, locals := 0 } : Room) (va_Pc [.ref (q 0), .int (nI i)] (fun U => M0 D cyI cyZ q th (nI N) st md v w U U.heap)) (vp_Si (fun r => r = hd (v 0) (i + 1))) 0 0 (fun _ => False) := by
  refine mt (by decide) (Nat.le_of_ble_eq_true rfl) ?_
  intro p ev s m below meth c ls hF hr hlocks hnm hX hl
  have hF : CallFix p m c cX1_heading 4 s _ wA RX1 := hF
  obtain ⟨hx, hb, hml, hown, hts⟩ := id hF
  have hX : M0 D cyI cyZ q th (nI N) st md v w s s.heap := hX
  have hl : lv_has ls 4 [(0, .ref (q 0)), (1, .int (nI i))] := hl
  have hN := hok.1
  refine lv_iconst (v := 0) hx hb dX1_heading_0 (by decide) ?_
  refine lv_istore_n (lv' := [(2, .int 0), (0, .ref (q 0)), (1, .int (nI i))]) hx hb dX1_heading_1 rfl hl (by decide) rfl (fun ls hl => ?_)
  refine lv_iconst (v := 0) hx hb dX1_heading_2 (by decide) ?_
  refine lv_istore_n (lv' := [(3, .int 0), (2, .int 0), (0, .ref (q 0)), (1, .int (nI i))]) hx hb dX1_heading_3 rfl hl (by decide) rfl (fun ls hl => ?_)
  refine lpW (σ := Nat) (fun j ls => (j ≤ i + 1) ∧ lv_has ls 4 [(0, .ref (q 0)), (1, .int (nI i)), (2, .int (hsum (v 0) j)), (3, .int (nI j))]) (fun j => i + 1 - j) (fun j ls hI ih => ?_) (0) ⟨by omega, lv_sub hl [2, 3, 1, 0] rfl⟩
  obtain ⟨hj, hl⟩ := hI
  refine lv_iload_n hx hb dX1_heading_4 rfl (lv_at hl 3 rfl) ?_
  refine lv_iload_n hx hb dX1_heading_5 rfl (lv_at hl 1 rfl) ?_
  refine lv_icmp_gt (tgt := 27) hx hb dX1_heading_6 (by decide) (fun c6 => ?_) (fun c6 => ?_)
  · have c6n : i < j := (nI_ltI (a := i) (b := j) (by omega) (by omega)).mp c6
    obtain rfl : j = i + 1 := by omega
    refine lv_iload_n hx hb dX1_heading_27 rfl (lv_at hl 2 rfl) ?_
    refine lv_bipush (v := 8) hx hb dX1_heading_28 (by decide) ?_
    refine lv_irem hx hb dX1_heading_30 (by decide) ?_
    exact W.iret hx hb hr (fun t ht hW => ⟨_, rfl, hsum_hd hok (by omega), ht⟩) (fun q hq => absurd hq List.not_mem_nil) dX1_heading_31
  · have c6n : ¬ i < j := fun h9 => c6 ((nI_ltI (a := i) (b := j) (by omega) (by omega)).mpr h9)
    refine lv_iload_n hx hb dX1_heading_9 rfl (lv_at hl 2 rfl) ?_
    refine lv_aload_n hx hb dX1_heading_10 rfl (lv_at hl 0 rfl) ?_
    refine M0.get hF hX 3 (by decide) rfl rfl kf_RX1_13 dX1_heading_11 ?_
    refine lv_iload_n hx hb dX1_heading_14 rfl (lv_at hl 3 rfl) ?_
    refine aldI hF hX.2.1 hX.1 1 0 rfl rfl j (by omega) (by decide) rfl dX1_heading_15 ?_
    refine lv_bipush (v := 8) hx hb dX1_heading_16 (by decide) ?_
    refine lv_iadd hx hb dX1_heading_18 ?_
    refine lv_iadd hx hb dX1_heading_19 ?_
    refine lv_istore_n (lv' := [(2, .int ((hsum (v 0) j) + ((v 0 j) + 8))), (0, .ref (q 0)), (1, .int (nI i)), (3, .int (nI j))]) hx hb dX1_heading_20 rfl hl (by decide) rfl (fun ls hl => ?_)
    refine lv_iinc (v := (nI (j + 1))) (lv' := [(3, .int (nI (j + 1))), (2, .int ((hsum (v 0) j) + ((v 0 j) + 8))), (0, .ref (q 0)), (1, .int (nI i))]) hx hb dX1_heading_21 hl (k := 3) rfl (nI_1 _) (by decide) rfl (fun ls hl => ?_)
    refine lv_goto (tgt := 4) hx hb dX1_heading_24 (by decide) ?_
    exact ih (j + 1) ls (by omega) ⟨by omega, by exact lv_sub hl [2, 3, 1, 0] rfl⟩
set_option maxHeartbeats 4000000 in
set_option maxRecDepth 100000 in
theorem mX1_walk (hok : Ok N st v) : Met l yX1_walk (wm yX1_walk cX1_walk 2 none) ({ frames := 1, cells := 0, slots := 0, locals := 23 } : Room) (va_Pc [.ref (q 0)] (fun U => (fun U H => M0 D cyI cyZ q th (nI N) st md v w U H ∧ (SM1 t1 (own 8 q)) U H : State → Heap → Prop) U U.heap)) (va_Qv (fun (u : Nat → Nat → Int32) => Wk N v u) (fun u U => (fun (u : Nat → Nat → Int32) => (M0 D cyI cyZ q th (nI N) st md v u : State → Heap → Prop)) u U U.heap) (own 8 q)) 0 0 (own 8 q) := by
  refine mt (by decide) (Nat.le_of_ble_eq_true rfl) ?_
  intro p ev s m below meth c ls hF hr hlocks hnm hX hl
  have hF : CallFix p m c cX1_walk 2 s _ wA RX1 := hF
  obtain ⟨hx, hb, hml, hown, hts⟩ := id hF
  have hZ0 : (SM1 t1 (own 8 q)) s s.heap := hX.2
  have hX : M0 D cyI cyZ q th (nI N) st md v w s s.heap := hX.1
  have hl : lv_has ls 2 [(0, .ref (q 0))] := hl
  have hS : va_S (own 8 q) s.heap s.heap [] := va_S.rf
  have hN := hok.1
  refine lv_aload_n hx hb dX1_walk_0 rfl (lv_at hl 0 rfl) ?_
  refine M0.get hF hX 9 (by decide) rfl rfl kf_RX1_29 dX1_walk_1 ?_
  refine lv_iconst (v := 0) hx hb dX1_walk_4 (by decide) ?_
  refine lv_iconst (v := 0) hx hb dX1_walk_5 (by decide) ?_
  refine M0.st_w1 hF hX hS 0 (by omega) rfl dX1_walk_6 (fun H locs hX hS => ?_)
  refine lv_aload_n hx hb dX1_walk_7 rfl (lv_at hl 0 rfl) ?_
  refine M0.get hF hX 10 (by decide) rfl rfl kf_RX1_32 dX1_walk_8 ?_
  refine lv_iconst (v := 0) hx hb dX1_walk_11 (by decide) ?_
  refine lv_iconst (v := 0) hx hb dX1_walk_12 (by decide) ?_
  refine M0.st_w2 hF hX hS 0 (by omega) rfl dX1_walk_13 (fun H locs hX hS => ?_)
  refine lv_iconst (v := 0) hx hb dX1_walk_14 (by decide) ?_
  refine lv_istore_n (lv' := [(1, .int 0), (0, .ref (q 0))]) hx hb dX1_walk_15 rfl hl (by decide) rfl (fun ls hl => ?_)
  refine lpH2 (σ := Nat) (τ := Nat → Nat → Int32) (fun j w ls H locs => (j ≤ N ∧ ∀ k, k ≤ j → w 1 k = px (v 0) (v 1) k ∧ w 2 k = py (v 0) (v 1) k) ∧ M0 D cyI cyZ q th (nI N) st md v w s H ∧ va_S (own 8 q) s.heap H locs ∧ lv_has ls 2 [(0, .ref (q 0)), (1, .int (nI j))]) (fun j w => N - j) (fun j w ls H locs hI ih => ?_) (0) (va_up (va_up w 1 (upd (w 1) 0 0)) 2 (upd ((va_up w 1 (upd (w 1) 0 0)) 2) 0 0)) ⟨⟨Nat.zero_le _, wk_0⟩, hX, hS, lv_sub hl [1, 0] rfl⟩
  obtain ⟨hj, hX, hS, hl⟩ := hI
  refine lv_iload_n hx hb dX1_walk_16 rfl (lv_at hl 1 rfl) ?_
  refine lv_aload_n hx hb dX1_walk_17 rfl (lv_at hl 0 rfl) ?_
  refine M0.get hF hX 1 (by decide) rfl rfl kf_RX1_38 dX1_walk_18 ?_
  refine lv_icmp_ge (tgt := 97) hx hb dX1_walk_21 (by decide) (fun c21 => ?_) (fun c21 => ?_)
  · have c21n : N ≤ j := (nI_leI (a := N) (b := j) (by omega) (by omega)).mp c21
    obtain rfl : j = N := by omega
    exact W.vret hx hb hr (fun t ht hW => ⟨⟨w, rfl, hj.2, wEnd M0.mv hX ht hW⟩, hS.F ht⟩) hS.2.2 dX1_walk_97
  · have c21n : ¬ N ≤ j := fun h9 => c21 ((nI_leI (a := N) (b := j) (by omega) (by omega)).mpr h9)
    refine lv_aload_n hx hb dX1_walk_24 rfl (lv_at hl 0 rfl) ?_
    refine M0.get hF hX 9 (by decide) rfl rfl kf_RX1_29 dX1_walk_25 ?_
    refine lv_iload_n hx hb dX1_walk_28 rfl (lv_at hl 1 rfl) ?_
    refine lv_iconst (v := 1) hx hb dX1_walk_29 (by decide) ?_
    refine lv_iadd hx hb dX1_walk_30 ?_
    refine lv_aload_n hx hb dX1_walk_31 rfl (lv_at hl 0 rfl) ?_
    refine M0.get hF hX 9 (by decide) rfl rfl kf_RX1_29 dX1_walk_32 ?_
    refine lv_iload_n hx hb dX1_walk_35 rfl (lv_at hl 1 rfl) ?_
    refine aldI hF hX.2.1 hX.1 6 0 rfl rfl j (by omega) (by decide) rfl dX1_walk_36 ?_
    refine lv_aload_n hx hb dX1_walk_37 rfl (lv_at hl 0 rfl) ?_
    refine M0.get hF hX 4 (by decide) rfl rfl kf_RX1_17 dX1_walk_38 ?_
    refine lv_iload_n hx hb dX1_walk_41 rfl (lv_at hl 1 rfl) ?_
    refine aldI hF hX.2.1 hX.1 2 0 rfl rfl j (by omega) (by decide) rfl dX1_walk_42 ?_
    refine va_gets hx hb hZ0.1 hS hown (hts _ kf_RX1_45) (fun _ h9 => h9) dX1_walk_43 ?_
    refine lv_aload_n hx hb dX1_walk_46 rfl (lv_at hl 0 rfl) ?_
    refine lv_iload_n hx hb dX1_walk_47 rfl (lv_at hl 1 rfl) ?_
    refine cVi (As := [.int (nI j)]) (rest := [.ref t1, .int (v 1 j), .int (w 1 j), .int ((nI j) + 1), .ref (q 6)]) hF (mX1_heading hok j (by omega)) M0.mv hX (M0.rc hX) jyX1_heading kl_RX1_48 ⟨rfl, rfl⟩ ⟨Nat.le_of_ble_eq_true rfl, Nat.le_of_ble_eq_true rfl⟩ rfl hl.1 rfl (Nat.le_of_ble_eq_true rfl) ⟨Nat.zero_le _, Nat.zero_le _⟩ dX1_walk_48 (fun r hr9 => ?_)
    subst hr9
    refine aldT hF hZ0.2 hS (ix (hd (v 0) (j + 1))) (hd_ix8 hok (j + 1)) (by decide) (hd_ix hok (j + 1)) rfl dX1_walk_51 ?_
    refine lv_imul hx hb dX1_walk_52 ?_
    refine lv_iadd hx hb dX1_walk_53 ?_
    refine topI (show ((w 1 j) + ((v 1 j) * (eaT (ix (hd (v 0) (j + 1)))))) = px (v 0) (v 1) (j + 1) from wk_x (hj.2 j (Nat.le_refl j)).1) ?_
    refine M0.st_w1 hF hX hS (j + 1) (by omega) (nI_1 j) dX1_walk_54 (fun H locs hX hS => ?_)
    refine lv_aload_n hx hb dX1_walk_55 rfl (lv_at hl 0 rfl) ?_
    refine M0.get hF hX 10 (by decide) rfl rfl kf_RX1_32 dX1_walk_56 ?_
    refine lv_iload_n hx hb dX1_walk_59 rfl (lv_at hl 1 rfl) ?_
    refine lv_iconst (v := 1) hx hb dX1_walk_60 (by decide) ?_
    refine lv_iadd hx hb dX1_walk_61 ?_
    refine lv_aload_n hx hb dX1_walk_62 rfl (lv_at hl 0 rfl) ?_
    refine M0.get hF hX 10 (by decide) rfl rfl kf_RX1_32 dX1_walk_63 ?_
    refine lv_iload_n hx hb dX1_walk_66 rfl (lv_at hl 1 rfl) ?_
    refine aldI hF hX.2.1 hX.1 7 0 rfl rfl j (by omega) (by decide) rfl dX1_walk_67 ?_
    refine lv_aload_n hx hb dX1_walk_68 rfl (lv_at hl 0 rfl) ?_
    refine M0.get hF hX 4 (by decide) rfl rfl kf_RX1_17 dX1_walk_69 ?_
    refine lv_iload_n hx hb dX1_walk_72 rfl (lv_at hl 1 rfl) ?_
    refine aldI hF hX.2.1 hX.1 2 0 rfl rfl j (by omega) (by decide) rfl dX1_walk_73 ?_
    refine va_gets hx hb hZ0.1 hS hown (hts _ kf_RX1_45) (fun _ h9 => h9) dX1_walk_74 ?_
    refine lv_aload_n hx hb dX1_walk_77 rfl (lv_at hl 0 rfl) ?_
    refine lv_iload_n hx hb dX1_walk_78 rfl (lv_at hl 1 rfl) ?_
    refine cVi (As := [.int (nI j)]) (rest := [.ref t1, .int (v 1 j), .int ((va_up w 1 (upd (w 1) (j + 1) (px (v 0) (v 1) (j + 1)))) 2 j), .int ((nI j) + 1), .ref (q 7)]) hF (mX1_heading hok j (by omega)) M0.mv hX (M0.rc hX) jyX1_heading kl_RX1_48 ⟨rfl, rfl⟩ ⟨Nat.le_of_ble_eq_true rfl, Nat.le_of_ble_eq_true rfl⟩ rfl hl.1 rfl (Nat.le_of_ble_eq_true rfl) ⟨Nat.zero_le _, Nat.zero_le _⟩ dX1_walk_79 (fun r hr9 => ?_)
    subst hr9
    refine lv_iconst (v := 2) hx hb dX1_walk_82 (by decide) ?_
    refine lv_iadd hx hb dX1_walk_83 ?_
    refine lv_bipush (v := 8) hx hb dX1_walk_84 (by decide) ?_
    refine lv_irem hx hb dX1_walk_86 (by decide) ?_
    refine aldT hF hZ0.2 hS ((ix (hd (v 0) (j + 1)) + 2) % 8) (Nat.mod_lt _ (by decide)) (by decide) (hd_y hok (j + 1)) rfl dX1_walk_87 ?_
    refine topI (show (eaT ((ix (hd (v 0) (j + 1)) + 2) % 8)) = noT (ix (hd (v 0) (j + 1))) from noT_y hok (j + 1)) ?_
    refine lv_imul hx hb dX1_walk_88 ?_
    refine lv_iadd hx hb dX1_walk_89 ?_
    refine topI (show (((va_up w 1 (upd (w 1) (j + 1) (px (v 0) (v 1) (j + 1)))) 2 j) + ((v 1 j) * (noT (ix (hd (v 0) (j + 1)))))) = py (v 0) (v 1) (j + 1) from wk_y (hj.2 j (Nat.le_refl j)).2) ?_
    refine M0.st_w2 hF hX hS (j + 1) (by omega) (nI_1 j) dX1_walk_90 (fun H locs hX hS => ?_)
    refine lv_iinc (v := (nI (j + 1))) (lv' := [(1, .int (nI (j + 1))), (0, .ref (q 0))]) hx hb dX1_walk_91 hl (k := 1) rfl (nI_1 _) (by decide) rfl (fun ls hl => ?_)
    refine lv_goto (tgt := 16) hx hb dX1_walk_94 (by decide) ?_
    exact ih (j + 1) (va_up (va_up w 1 (upd (w 1) (j + 1) (px (v 0) (v 1) (j + 1)))) 2 (upd ((va_up w 1 (upd (w 1) (j + 1) (px (v 0) (v 1) (j + 1)))) 2) (j + 1) (py (v 0) (v 1) (j + 1)))) ls H locs (by omega) ⟨⟨by omega, wk_up hj.2⟩, hX, hS, by exact lv_sub hl [1, 0] rfl⟩
set_option maxHeartbeats 4000000 in
set_option maxRecDepth 100000 in
theorem mX1_sing (hok : Ok N st v) (by1 : Int32) : Met l yX1_sing (wm yX1_sing cX1_sing 3 none) ({ frames := 2, cells := 0, slots := 0, locals := 43 } : Room) (va_Pc [.ref (q 0), .int by1] (fun U => M0 D cyI cyZ q th (nI N) st md v w U U.heap)) (va_Qv (fun (u : Nat → Nat → Int32) => Sg N by1 v u) (fun u U => (fun (u : Nat → Nat → Int32) => (M0 D cyI cyZ q th (nI N) st md v u : State → Heap → Prop)) u U U.heap) (own 8 q)) 0 0 (own 8 q) := by
  refine mt (by decide) (Nat.le_of_ble_eq_true rfl) ?_
  intro p ev s m below meth c ls hF hr hlocks hnm hX hl
  have hF : CallFix p m c cX1_sing 3 s _ wA RX1 := hF
  obtain ⟨hx, hb, hml, hown, hts⟩ := id hF
  have hX : M0 D cyI cyZ q th (nI N) st md v w s s.heap := hX
  have hl : lv_has ls 3 [(0, .ref (q 0)), (1, .int by1)] := hl
  have hS : va_S (own 8 q) s.heap s.heap [] := va_S.rf
  have hN := hok.1
  refine lv_aload_n hx hb dX1_sing_0 rfl (lv_at hl 0 rfl) ?_
  refine M0.get hF hX 8 (by decide) rfl rfl kf_RX1_26 dX1_sing_1 ?_
  refine lv_iconst (v := 0) hx hb dX1_sing_4 (by decide) ?_
  refine lv_bipush (v := 12) hx hb dX1_sing_5 (by decide) ?_
  refine M0.st_w0 hF hX hS 0 (by omega) rfl dX1_sing_7 (fun H locs hX hS => ?_)
  refine lv_iconst (v := 0) hx hb dX1_sing_8 (by decide) ?_
  refine lv_istore_n (lv' := [(2, .int 0), (0, .ref (q 0)), (1, .int by1)]) hx hb dX1_sing_9 rfl hl (by decide) rfl (fun ls hl => ?_)
  refine lpH2 (σ := Nat) (τ := Nat → Nat → Int32) (fun j w ls H locs => (j ≤ N ∧ ∀ k, k ≤ j → w 0 k = nt (v 0) by1 k) ∧ M0 D cyI cyZ q th (nI N) st md v w s H ∧ va_S (own 8 q) s.heap H locs ∧ lv_has ls 3 [(0, .ref (q 0)), (1, .int by1), (2, .int (nI j))]) (fun j w => N - j) (fun j w ls H locs hI ih => ?_) (0) (va_up w 0 (upd (w 0) 0 12)) ⟨⟨Nat.zero_le _, sg_0⟩, hX, hS, lv_sub hl [1, 2, 0] rfl⟩
  obtain ⟨hj, hX, hS, hl⟩ := hI
  refine lv_iload_n hx hb dX1_sing_10 rfl (lv_at hl 2 rfl) ?_
  refine lv_aload_n hx hb dX1_sing_11 rfl (lv_at hl 0 rfl) ?_
  refine M0.get hF hX 1 (by decide) rfl rfl kf_RX1_38 dX1_sing_12 ?_
  refine lv_icmp_ge (tgt := 79) hx hb dX1_sing_15 (by decide) (fun c15 => ?_) (fun c15 => ?_)
  · have c15n : N ≤ j := (nI_leI (a := N) (b := j) (by omega) (by omega)).mp c15
    obtain rfl : j = N := by omega
    exact W.vret hx hb hr (fun t ht hW => ⟨⟨w, rfl, hj.2, wEnd M0.mv hX ht hW⟩, hS.F ht⟩) hS.2.2 dX1_sing_79
  · have c15n : ¬ N ≤ j := fun h9 => c15 ((nI_leI (a := N) (b := j) (by omega) (by omega)).mpr h9)
    refine lv_aload_n hx hb dX1_sing_18 rfl (lv_at hl 0 rfl) ?_
    refine M0.get hF hX 8 (by decide) rfl rfl kf_RX1_26 dX1_sing_19 ?_
    refine lv_iload_n hx hb dX1_sing_22 rfl (lv_at hl 2 rfl) ?_
    refine lv_iconst (v := 1) hx hb dX1_sing_23 (by decide) ?_
    refine lv_iadd hx hb dX1_sing_24 ?_
    refine lv_aload_n hx hb dX1_sing_25 rfl (lv_at hl 0 rfl) ?_
    refine M0.get hF hX 8 (by decide) rfl rfl kf_RX1_26 dX1_sing_26 ?_
    refine lv_iload_n hx hb dX1_sing_29 rfl (lv_at hl 2 rfl) ?_
    refine aldI hF hX.2.1 hX.1 5 0 rfl rfl j (by omega) (by decide) rfl dX1_sing_30 ?_
    refine lv_aload_n hx hb dX1_sing_31 rfl (lv_at hl 0 rfl) ?_
    refine M0.get hF hX 8 (by decide) rfl rfl kf_RX1_26 dX1_sing_32 ?_
    refine lv_iload_n hx hb dX1_sing_35 rfl (lv_at hl 2 rfl) ?_
    refine aldI hF hX.2.1 hX.1 5 0 rfl rfl j (by omega) (by decide) rfl dX1_sing_36 ?_
    refine lv_iload_n hx hb dX1_sing_37 rfl (lv_at hl 1 rfl) ?_
    refine lv_aload_n hx hb dX1_sing_38 rfl (lv_at hl 0 rfl) ?_
    refine M0.get hF hX 3 (by decide) rfl rfl kf_RX1_13 dX1_sing_39 ?_
    refine lv_iload_n hx hb dX1_sing_42 rfl (lv_at hl 2 rfl) ?_
    refine aldI hF hX.2.1 hX.1 1 0 rfl rfl j (by omega) (by decide) rfl dX1_sing_43 ?_
    refine lv_imul hx hb dX1_sing_44 ?_
    refine cSi (As := [.int (w 0 j), .int (by1 * (v 0 j))]) (rest := [.int (w 0 j), .int ((nI j) + 1), .ref (q 5)]) hF (mX1_folds (w 0 j) (by1 * (v 0 j))) Mv.const trivial jyX1_folds kl_RX1_64 ⟨rfl, rfl⟩ ⟨Nat.le_of_ble_eq_true rfl, Nat.le_of_ble_eq_true rfl⟩ rfl hl.1 rfl (Nat.le_of_ble_eq_true rfl) ⟨Nat.zero_le _, Nat.zero_le _⟩ dX1_sing_45 (fun r hr9 => ?_)
    subst hr9
    refine lv_if_eq (tgt := 63) hx hb dX1_sing_48 (by decide) (fun c48 => ?_) (fun c48 => ?_)
    · have c48b := b2i_f c48
      refine lv_iload_n hx hb dX1_sing_63 rfl (lv_at hl 1 rfl) ?_
      refine lv_aload_n hx hb dX1_sing_64 rfl (lv_at hl 0 rfl) ?_
      refine M0.get hF hX 3 (by decide) rfl rfl kf_RX1_13 dX1_sing_65 ?_
      refine lv_iload_n hx hb dX1_sing_68 rfl (lv_at hl 2 rfl) ?_
      refine aldI hF hX.2.1 hX.1 1 0 rfl rfl j (by omega) (by decide) rfl dX1_sing_69 ?_
      refine lv_imul hx hb dX1_sing_70 ?_
      refine lv_iadd hx hb dX1_sing_71 ?_
      refine topI (show ((w 0 j) + (by1 * (v 0 j))) = nt (v 0) by1 (j + 1) from sing_f (hj.2 j (Nat.le_refl j)) c48b) ?_
      refine M0.st_w0 hF hX hS (j + 1) (by omega) (nI_1 j) dX1_sing_72 (fun H locs hX hS => ?_)
      refine lv_iinc (v := (nI (j + 1))) (lv' := [(2, .int (nI (j + 1))), (0, .ref (q 0)), (1, .int by1)]) hx hb dX1_sing_73 hl (k := 2) rfl (nI_1 _) (by decide) rfl (fun ls hl => ?_)
      refine lv_goto (tgt := 10) hx hb dX1_sing_76 (by decide) ?_
      exact ih (j + 1) (va_up w 0 (upd (w 0) (j + 1) (nt (v 0) by1 (j + 1)))) ls H locs (by omega) ⟨⟨by omega, sg_up hj.2⟩, hX, hS, by exact lv_sub hl [1, 2, 0] rfl⟩
    · have c48b := b2i_t c48
      refine lv_iload_n hx hb dX1_sing_51 rfl (lv_at hl 1 rfl) ?_
      refine lv_ineg hx hb dX1_sing_52 ?_
      refine lv_aload_n hx hb dX1_sing_53 rfl (lv_at hl 0 rfl) ?_
      refine M0.get hF hX 3 (by decide) rfl rfl kf_RX1_13 dX1_sing_54 ?_
      refine lv_iload_n hx hb dX1_sing_57 rfl (lv_at hl 2 rfl) ?_
      refine aldI hF hX.2.1 hX.1 1 0 rfl rfl j (by omega) (by decide) rfl dX1_sing_58 ?_
      refine lv_imul hx hb dX1_sing_59 ?_
      refine lv_goto (tgt := 71) hx hb dX1_sing_60 (by decide) ?_
      refine lv_iadd hx hb dX1_sing_71 ?_
      refine topI (show ((w 0 j) + ((-by1) * (v 0 j))) = nt (v 0) by1 (j + 1) from sing_t (hj.2 j (Nat.le_refl j)) c48b) ?_
      refine M0.st_w0 hF hX hS (j + 1) (by omega) (nI_1 j) dX1_sing_72 (fun H locs hX hS => ?_)
      refine lv_iinc (v := (nI (j + 1))) (lv' := [(2, .int (nI (j + 1))), (0, .ref (q 0)), (1, .int by1)]) hx hb dX1_sing_73 hl (k := 2) rfl (nI_1 _) (by decide) rfl (fun ls hl => ?_)
      refine lv_goto (tgt := 10) hx hb dX1_sing_76 (by decide) ?_
      exact ih (j + 1) (va_up w 0 (upd (w 0) (j + 1) (nt (v 0) by1 (j + 1)))) ls H locs (by omega) ⟨⟨by omega, sg_up hj.2⟩, hX, hS, by exact lv_sub hl [1, 2, 0] rfl⟩
set_option maxHeartbeats 4000000 in
set_option maxRecDepth 100000 in
theorem mX1_home (hok : Ok N st v) : Met l yX1_home (wm yX1_home cX1_home 1 (some .int)) ({ frames := 2, cells := 0, slots := 0, locals := 44 } : Room) (va_Pc [.ref (q 0)] (fun U => (fun U H => M0 D cyI cyZ q th (nI N) st md v w U H ∧ (SM1 t1 (own 8 q)) U H : State → Heap → Prop) U U.heap)) (va_Qi (fun (r : Int32) (u : Nat → Nat → Int32) => r = mx (ab (px (v 0) (v 1) N)) (ab (py (v 0) (v 1) N))) (fun u U => (fun (u : Nat → Nat → Int32) => (M0 D cyI cyZ q th (nI N) st md v u : State → Heap → Prop)) u U U.heap) (own 8 q)) 0 0 (own 8 q) := by
  refine mt (by decide) (Nat.le_of_ble_eq_true rfl) ?_
  intro p ev s m below meth c ls hF hr hlocks hnm hX hl
  have hF : CallFix p m c cX1_home 1 s _ wA RX1 := hF
  obtain ⟨hx, hb, hml, hown, hts⟩ := id hF
  have hZ0 : (SM1 t1 (own 8 q)) s s.heap := hX.2
  have hX : M0 D cyI cyZ q th (nI N) st md v w s s.heap := hX.1
  have hl : lv_has ls 1 [(0, .ref (q 0))] := hl
  have hS : va_S (own 8 q) s.heap s.heap [] := va_S.rf
  have hN := hok.1
  refine lv_aload_n hx hb dX1_home_0 rfl (lv_at hl 0 rfl) ?_
  refine wVv (mc := 0) (ms := 0) (As := []) (rest := []) hF (mX1_walk hok) (Mv.and M0.mv SM1.mv) (fun _ => M0.mv) ⟨hX, SM1.kept hZ0 hS.2.1⟩ (M0.rc hX) jyX1_walk kl_RX1_52 ⟨rfl, rfl⟩ ⟨Nat.le_of_ble_eq_true rfl, Nat.le_of_ble_eq_true rfl⟩ rfl hl.1 rfl (Nat.le_of_ble_eq_true rfl) ⟨Nat.zero_le _, Nat.zero_le _⟩ hS (fun _ _ h => h) (fun _ h => h) dX1_home_1 (fun w1 H locs hp hX hz hk hS => ?_)
  have hwk := hp
  refine lv_aload_n hx hb dX1_home_4 rfl (lv_at hl 0 rfl) ?_
  refine M0.get hF hX 9 (by decide) rfl rfl kf_RX1_29 dX1_home_5 ?_
  refine lv_aload_n hx hb dX1_home_8 rfl (lv_at hl 0 rfl) ?_
  refine M0.get hF hX 1 (by decide) rfl rfl kf_RX1_38 dX1_home_9 ?_
  refine aldI hF hX.2.1 hX.1 6 0 rfl rfl N (by omega) (by decide) rfl dX1_home_12 ?_
  refine topI (show (w1 1 N) = px (v 0) (v 1) N from (hwk N (Nat.le_refl N)).1) ?_
  refine va_mabs hx hb (hml.trans hl.1.symm) hown (hts _ kl_RX1_55) (hts _ ks_LM_abs_name) (hts _ kn_Math) (hts _ kd_LM_abs_name) (Nat.le_of_ble_eq_true rfl) (Nat.le_of_ble_eq_true rfl) (Nat.zero_le _) (Nat.zero_le _) dX1_home_13 ?_
  refine lv_aload_n hx hb dX1_home_16 rfl (lv_at hl 0 rfl) ?_
  refine M0.get hF hX 10 (by decide) rfl rfl kf_RX1_32 dX1_home_17 ?_
  refine lv_aload_n hx hb dX1_home_20 rfl (lv_at hl 0 rfl) ?_
  refine M0.get hF hX 1 (by decide) rfl rfl kf_RX1_38 dX1_home_21 ?_
  refine aldI hF hX.2.1 hX.1 7 0 rfl rfl N (by omega) (by decide) rfl dX1_home_24 ?_
  refine topI (show (w1 2 N) = py (v 0) (v 1) N from (hwk N (Nat.le_refl N)).2) ?_
  refine va_mabs hx hb (hml.trans hl.1.symm) hown (hts _ kl_RX1_55) (hts _ ks_LM_abs_name) (hts _ kn_Math) (hts _ kd_LM_abs_name) (Nat.le_of_ble_eq_true rfl) (Nat.le_of_ble_eq_true rfl) (Nat.zero_le _) (Nat.zero_le _) dX1_home_25 ?_
  refine va_mmax hx hb (hml.trans hl.1.symm) hown (hts _ kl_RX1_60) (hts _ ks_LM_max_name) (hts _ kn_Math) (hts _ kd_LM_max_name) (Nat.le_of_ble_eq_true rfl) (Nat.le_of_ble_eq_true rfl) (Nat.zero_le _) (Nat.zero_le _) dX1_home_28 ?_
  exact W.iret hx hb hr (fun t ht hW => ⟨⟨_, w1, rfl, rfl, wEnd M0.mv hX ht hW⟩, hS.F ht⟩) hS.2.2 dX1_home_31
set_option maxHeartbeats 4000000 in
set_option maxRecDepth 100000 in
theorem mX1_back (hok : Ok N st v) : Met l yX1_back (wm yX1_back cX1_back 5 (some .int)) ({ frames := 2, cells := 0, slots := 0, locals := 44 } : Room) (va_Pc [.ref (q 0)] (fun U => (fun U H => M0 D cyI cyZ q th (nI N) st md v w U H ∧ (SM1 t1 (own 8 q)) U H : State → Heap → Prop) U U.heap)) (va_Qi (fun (r : Int32) (u : Nat → Nat → Int32) => r = rtn v N) (fun u U => (fun (u : Nat → Nat → Int32) => (M0 D cyI cyZ q th (nI N) st md v u : State → Heap → Prop)) u U U.heap) (own 8 q)) 0 0 (own 8 q) := by
  refine mt (by decide) (Nat.le_of_ble_eq_true rfl) ?_
  intro p ev s m below meth c ls hF hr hlocks hnm hX hl
  have hF : CallFix p m c cX1_back 5 s _ wA RX1 := hF
  obtain ⟨hx, hb, hml, hown, hts⟩ := id hF
  have hZ0 : (SM1 t1 (own 8 q)) s s.heap := hX.2
  have hX : M0 D cyI cyZ q th (nI N) st md v w s s.heap := hX.1
  have hl : lv_has ls 5 [(0, .ref (q 0))] := hl
  have hS : va_S (own 8 q) s.heap s.heap [] := va_S.rf
  have hN := hok.1
  refine lv_aload_n hx hb dX1_back_0 rfl (lv_at hl 0 rfl) ?_
  refine wVv (mc := 0) (ms := 0) (As := []) (rest := []) hF (mX1_walk hok) (Mv.and M0.mv SM1.mv) (fun _ => M0.mv) ⟨hX, SM1.kept hZ0 hS.2.1⟩ (M0.rc hX) jyX1_walk kl_RX1_52 ⟨rfl, rfl⟩ ⟨Nat.le_of_ble_eq_true rfl, Nat.le_of_ble_eq_true rfl⟩ rfl hl.1 rfl (Nat.le_of_ble_eq_true rfl) ⟨Nat.zero_le _, Nat.zero_le _⟩ hS (fun _ _ h => h) (fun _ h => h) dX1_back_1 (fun w1 H locs hp hX hz hk hS => ?_)
  have hwk := hp
  refine lv_iconst (v := 0) hx hb dX1_back_4 (by decide) ?_
  refine lv_istore_n (lv' := [(1, .int 0), (0, .ref (q 0))]) hx hb dX1_back_5 rfl hl (by decide) rfl (fun ls hl => ?_)
  refine lv_iconst (v := 1) hx hb dX1_back_6 (by decide) ?_
  refine lv_istore_n (lv' := [(2, .int 1), (1, .int 0), (0, .ref (q 0))]) hx hb dX1_back_7 rfl hl (by decide) rfl (fun ls hl => ?_)
  refine lpW (σ := Nat) (fun j ls => (j ≤ N) ∧ lv_has ls 5 [(0, .ref (q 0)), (1, .int (ctB (rtP v) j)), (2, .int (nI (j + 1)))]) (fun j => N - j) (fun j ls hI ihO => ?_) (0) ⟨by omega, lv_sub hl [2, 1, 0] rfl⟩
  obtain ⟨hjO, hl⟩ := hI
  refine lv_iload_n hx hb dX1_back_8 rfl (lv_at hl 2 rfl) ?_
  refine lv_aload_n hx hb dX1_back_9 rfl (lv_at hl 0 rfl) ?_
  refine M0.get hF hX 1 (by decide) rfl rfl kf_RX1_38 dX1_back_10 ?_
  refine lv_icmp_gt (tgt := 93) hx hb dX1_back_13 (by decide) (fun c13 => ?_) (fun c13 => ?_)
  · have c13n : N < (j + 1) := (nI_ltI (a := N) (b := (j + 1)) (by omega) (by omega)).mp c13
    obtain rfl : j = N := by omega
    refine lv_iload_n hx hb dX1_back_93 rfl (lv_at hl 1 rfl) ?_
    exact W.iret hx hb hr (fun t ht hW => ⟨⟨_, w1, rfl, rfl, wEnd M0.mv hX ht hW⟩, hS.F ht⟩) hS.2.2 dX1_back_94
  · have c13n : ¬ N < (j + 1) := fun h9 => c13 ((nI_ltI (a := N) (b := (j + 1)) (by omega) (by omega)).mpr h9)
    refine lv_iconst (v := 0) hx hb dX1_back_16 (by decide) ?_
    refine lv_istore_n (lv' := [(3, .int 0), (0, .ref (q 0)), (1, .int (ctB (rtP v) j)), (2, .int (nI (j + 1)))]) hx hb dX1_back_17 rfl hl (by decide) rfl (fun ls hl => ?_)
    refine lv_iconst (v := 0) hx hb dX1_back_18 (by decide) ?_
    refine lv_istore (lv' := [(4, .int 0), (3, .int 0), (0, .ref (q 0)), (1, .int (ctB (rtP v) j)), (2, .int (nI (j + 1)))]) hx hb dX1_back_19 hl (by decide) rfl (fun ls hl => ?_)
    refine lpW (σ := Nat) (fun n ls => (n ≤ j + 1) ∧ lv_has ls 5 [(0, .ref (q 0)), (1, .int (ctB (rtP v) j)), (2, .int (nI (j + 1))), (3, .int (b2i (exB (rtE v j) n))), (4, .int (nI n))]) (fun n => j + 1 - n) (fun n ls hI ih => ?_) (0) ⟨by omega, lv_sub hl [2, 3, 4, 1, 0] rfl⟩
    obtain ⟨hj, hl⟩ := hI
    have hn := hj
    refine lv_iload hx hb dX1_back_21 (lv_at hl 4 rfl) ?_
    refine lv_iload_n hx hb dX1_back_23 rfl (lv_at hl 2 rfl) ?_
    refine lv_icmp_ge (tgt := 75) hx hb dX1_back_24 (by decide) (fun c24 => ?_) (fun c24 => ?_)
    · have c24n : (j + 1) ≤ n := (nI_leI (a := (j + 1)) (b := n) (by omega) (by omega)).mp c24
      obtain rfl : n = j + 1 := by omega
      refine lv_iload_n hx hb dX1_back_75 rfl (lv_at hl 1 rfl) ?_
      refine lv_iload_n hx hb dX1_back_76 rfl (lv_at hl 3 rfl) ?_
      refine lv_if_eq (tgt := 84) hx hb dX1_back_77 (by decide) (fun c77 => ?_) (fun c77 => ?_)
      · have c77b := b2i_f c77
        refine lv_iconst (v := 0) hx hb dX1_back_84 (by decide) ?_
        refine lv_iadd hx hb dX1_back_85 ?_
        refine topI (show ((ctB (rtP v) j) + 0) = ctB (rtP v) (j + 1) from ctB_f' c77b) ?_
        refine lv_istore_n (lv' := [(1, .int (ctB (rtP v) (j + 1))), (0, .ref (q 0)), (2, .int (nI (j + 1))), (3, .int (b2i (exB (rtE v j) (j + 1)))), (4, .int (nI (j + 1)))]) hx hb dX1_back_86 rfl hl (by decide) rfl (fun ls hl => ?_)
        refine lv_iinc (v := (nI (j + 1 + 1))) (lv' := [(2, .int (nI (j + 1 + 1))), (1, .int (ctB (rtP v) (j + 1))), (0, .ref (q 0)), (3, .int (b2i (exB (rtE v j) (j + 1)))), (4, .int (nI (j + 1)))]) hx hb dX1_back_87 hl (k := 2) rfl (nI_1 _) (by decide) rfl (fun ls hl => ?_)
        refine lv_goto (tgt := 8) hx hb dX1_back_90 (by decide) ?_
        exact ihO (j + 1) ls (by omega) ⟨by omega, by exact lv_sub hl [2, 1, 0] rfl⟩
      · have c77b := b2i_t c77
        refine lv_iconst (v := 1) hx hb dX1_back_80 (by decide) ?_
        refine lv_goto (tgt := 85) hx hb dX1_back_81 (by decide) ?_
        refine lv_iadd hx hb dX1_back_85 ?_
        refine topI (show ((ctB (rtP v) j) + 1) = ctB (rtP v) (j + 1) from ctB_t' c77b) ?_
        refine lv_istore_n (lv' := [(1, .int (ctB (rtP v) (j + 1))), (0, .ref (q 0)), (2, .int (nI (j + 1))), (3, .int (b2i (exB (rtE v j) (j + 1)))), (4, .int (nI (j + 1)))]) hx hb dX1_back_86 rfl hl (by decide) rfl (fun ls hl => ?_)
        refine lv_iinc (v := (nI (j + 1 + 1))) (lv' := [(2, .int (nI (j + 1 + 1))), (1, .int (ctB (rtP v) (j + 1))), (0, .ref (q 0)), (3, .int (b2i (exB (rtE v j) (j + 1)))), (4, .int (nI (j + 1)))]) hx hb dX1_back_87 hl (k := 2) rfl (nI_1 _) (by decide) rfl (fun ls hl => ?_)
        refine lv_goto (tgt := 8) hx hb dX1_back_90 (by decide) ?_
        exact ihO (j + 1) ls (by omega) ⟨by omega, by exact lv_sub hl [2, 1, 0] rfl⟩
    · have c24n : ¬ (j + 1) ≤ n := fun h9 => c24 ((nI_leI (a := (j + 1)) (b := n) (by omega) (by omega)).mpr h9)
      refine lv_iload_n hx hb dX1_back_27 rfl (lv_at hl 3 rfl) ?_
      refine lv_if_ne (tgt := 63) hx hb dX1_back_28 (by decide) (fun c28 => ?_) (fun c28 => ?_)
      · have c28b := b2i_t c28
        refine lv_iconst (v := 1) hx hb dX1_back_63 (by decide) ?_
        refine lv_goto (tgt := 68) hx hb dX1_back_64 (by decide) ?_
        refine topI (show 1 = b2i (exB (rtE v j) (n + 1)) from b2i_set_o c28b) ?_
        refine lv_istore_n (lv' := [(3, .int (b2i (exB (rtE v j) (n + 1)))), (0, .ref (q 0)), (1, .int (ctB (rtP v) j)), (2, .int (nI (j + 1))), (4, .int (nI n))]) hx hb dX1_back_68 rfl hl (by decide) rfl (fun ls hl => ?_)
        refine lv_iinc (v := (nI (n + 1))) (lv' := [(4, .int (nI (n + 1))), (3, .int (b2i (exB (rtE v j) (n + 1)))), (0, .ref (q 0)), (1, .int (ctB (rtP v) j)), (2, .int (nI (j + 1)))]) hx hb dX1_back_69 hl (k := 4) rfl (nI_1 _) (by decide) rfl (fun ls hl => ?_)
        refine lv_goto (tgt := 21) hx hb dX1_back_72 (by decide) ?_
        exact ih (n + 1) ls (by omega) ⟨by omega, by exact lv_sub hl [2, 3, 4, 1, 0] rfl⟩
      · have c28b := b2i_f c28
        refine lv_aload_n hx hb dX1_back_31 rfl (lv_at hl 0 rfl) ?_
        refine M0.get hF hX 9 (by decide) rfl rfl kf_RX1_29 dX1_back_32 ?_
        refine lv_iload hx hb dX1_back_35 (lv_at hl 4 rfl) ?_
        refine aldI hF hX.2.1 hX.1 6 0 rfl rfl n (by omega) (by decide) rfl dX1_back_37 ?_
        refine lv_aload_n hx hb dX1_back_38 rfl (lv_at hl 0 rfl) ?_
        refine M0.get hF hX 9 (by decide) rfl rfl kf_RX1_29 dX1_back_39 ?_
        refine lv_iload_n hx hb dX1_back_42 rfl (lv_at hl 2 rfl) ?_
        refine aldI hF hX.2.1 hX.1 6 0 rfl rfl (j + 1) (by omega) (by decide) rfl dX1_back_43 ?_
        refine lv_icmp_ne (tgt := 67) hx hb dX1_back_44 (by decide) (fun c44 => ?_) (fun c44 => ?_)
        · refine lv_iconst (v := 0) hx hb dX1_back_67 (by decide) ?_
          refine topI (show 0 = b2i (exB (rtE v j) (n + 1)) from b2i_set_f c28b (rtE_x (hwk n (by omega)).1 (hwk (j + 1) (by omega)).1 c44)) ?_
          refine lv_istore_n (lv' := [(3, .int (b2i (exB (rtE v j) (n + 1)))), (0, .ref (q 0)), (1, .int (ctB (rtP v) j)), (2, .int (nI (j + 1))), (4, .int (nI n))]) hx hb dX1_back_68 rfl hl (by decide) rfl (fun ls hl => ?_)
          refine lv_iinc (v := (nI (n + 1))) (lv' := [(4, .int (nI (n + 1))), (3, .int (b2i (exB (rtE v j) (n + 1)))), (0, .ref (q 0)), (1, .int (ctB (rtP v) j)), (2, .int (nI (j + 1)))]) hx hb dX1_back_69 hl (k := 4) rfl (nI_1 _) (by decide) rfl (fun ls hl => ?_)
          refine lv_goto (tgt := 21) hx hb dX1_back_72 (by decide) ?_
          exact ih (n + 1) ls (by omega) ⟨by omega, by exact lv_sub hl [2, 3, 4, 1, 0] rfl⟩
        · refine lv_aload_n hx hb dX1_back_47 rfl (lv_at hl 0 rfl) ?_
          refine M0.get hF hX 10 (by decide) rfl rfl kf_RX1_32 dX1_back_48 ?_
          refine lv_iload hx hb dX1_back_51 (lv_at hl 4 rfl) ?_
          refine aldI hF hX.2.1 hX.1 7 0 rfl rfl n (by omega) (by decide) rfl dX1_back_53 ?_
          refine lv_aload_n hx hb dX1_back_54 rfl (lv_at hl 0 rfl) ?_
          refine M0.get hF hX 10 (by decide) rfl rfl kf_RX1_32 dX1_back_55 ?_
          refine lv_iload_n hx hb dX1_back_58 rfl (lv_at hl 2 rfl) ?_
          refine aldI hF hX.2.1 hX.1 7 0 rfl rfl (j + 1) (by omega) (by decide) rfl dX1_back_59 ?_
          refine lv_icmp_ne (tgt := 67) hx hb dX1_back_60 (by decide) (fun c60 => ?_) (fun c60 => ?_)
          · refine lv_iconst (v := 0) hx hb dX1_back_67 (by decide) ?_
            refine topI (show 0 = b2i (exB (rtE v j) (n + 1)) from b2i_set_f c28b (rtE_y (hwk n (by omega)).2 (hwk (j + 1) (by omega)).2 c60)) ?_
            refine lv_istore_n (lv' := [(3, .int (b2i (exB (rtE v j) (n + 1)))), (0, .ref (q 0)), (1, .int (ctB (rtP v) j)), (2, .int (nI (j + 1))), (4, .int (nI n))]) hx hb dX1_back_68 rfl hl (by decide) rfl (fun ls hl => ?_)
            refine lv_iinc (v := (nI (n + 1))) (lv' := [(4, .int (nI (n + 1))), (3, .int (b2i (exB (rtE v j) (n + 1)))), (0, .ref (q 0)), (1, .int (ctB (rtP v) j)), (2, .int (nI (j + 1)))]) hx hb dX1_back_69 hl (k := 4) rfl (nI_1 _) (by decide) rfl (fun ls hl => ?_)
            refine lv_goto (tgt := 21) hx hb dX1_back_72 (by decide) ?_
            exact ih (n + 1) ls (by omega) ⟨by omega, by exact lv_sub hl [2, 3, 4, 1, 0] rfl⟩
          · refine lv_iconst (v := 1) hx hb dX1_back_63 (by decide) ?_
            refine lv_goto (tgt := 68) hx hb dX1_back_64 (by decide) ?_
            refine topI (show 1 = b2i (exB (rtE v j) (n + 1)) from b2i_set_t (rtE_t (hwk n (by omega)).1 (hwk n (by omega)).2 (hwk (j + 1) (by omega)).1 (hwk (j + 1) (by omega)).2 c44 c60)) ?_
            refine lv_istore_n (lv' := [(3, .int (b2i (exB (rtE v j) (n + 1)))), (0, .ref (q 0)), (1, .int (ctB (rtP v) j)), (2, .int (nI (j + 1))), (4, .int (nI n))]) hx hb dX1_back_68 rfl hl (by decide) rfl (fun ls hl => ?_)
            refine lv_iinc (v := (nI (n + 1))) (lv' := [(4, .int (nI (n + 1))), (3, .int (b2i (exB (rtE v j) (n + 1)))), (0, .ref (q 0)), (1, .int (ctB (rtP v) j)), (2, .int (nI (j + 1)))]) hx hb dX1_back_69 hl (k := 4) rfl (nI_1 _) (by decide) rfl (fun ls hl => ?_)
            refine lv_goto (tgt := 21) hx hb dX1_back_72 (by decide) ?_
            exact ih (n + 1) ls (by omega) ⟨by omega, by exact lv_sub hl [2, 3, 4, 1, 0] rfl⟩
set_option maxHeartbeats 4000000 in
set_option maxRecDepth 100000 in
theorem mX1_endOf_x (hok : Ok N st v) : Met l yX1_endOf (wm yX1_endOf cX1_endOf 2 (some .int)) ({ frames := 2, cells := 0, slots := 0, locals := 44 } : Room) (va_Pc [.ref (q 0), .ref (q 6)] (fun U => (fun U H => M0 D cyI cyZ q th (nI N) st md v w U H ∧ (SM1 t1 (own 8 q)) U H : State → Heap → Prop) U U.heap)) (va_Qi (fun (r : Int32) (u : Nat → Nat → Int32) => r = px (v 0) (v 1) N) (fun u U => (fun (u : Nat → Nat → Int32) => (M0 D cyI cyZ q th (nI N) st md v u : State → Heap → Prop)) u U U.heap) (own 8 q)) 0 0 (own 8 q) := by
  refine mt (by decide) (Nat.le_of_ble_eq_true rfl) ?_
  intro p ev s m below meth c ls hF hr hlocks hnm hX hl
  have hF : CallFix p m c cX1_endOf 2 s _ wA RX1 := hF
  obtain ⟨hx, hb, hml, hown, hts⟩ := id hF
  have hZ0 : (SM1 t1 (own 8 q)) s s.heap := hX.2
  have hX : M0 D cyI cyZ q th (nI N) st md v w s s.heap := hX.1
  have hl : lv_has ls 2 [(0, .ref (q 0)), (1, .ref (q 6))] := hl
  have hS : va_S (own 8 q) s.heap s.heap [] := va_S.rf
  have hN := hok.1
  refine lv_aload_n hx hb dX1_endOf_0 rfl (lv_at hl 0 rfl) ?_
  refine wVv (mc := 0) (ms := 0) (As := []) (rest := []) hF (mX1_walk hok) (Mv.and M0.mv SM1.mv) (fun _ => M0.mv) ⟨hX, SM1.kept hZ0 hS.2.1⟩ (M0.rc hX) jyX1_walk kl_RX1_52 ⟨rfl, rfl⟩ ⟨Nat.le_of_ble_eq_true rfl, Nat.le_of_ble_eq_true rfl⟩ rfl hl.1 rfl (Nat.le_of_ble_eq_true rfl) ⟨Nat.zero_le _, Nat.zero_le _⟩ hS (fun _ _ h => h) (fun _ h => h) dX1_endOf_1 (fun w1 H locs hp hX hz hk hS => ?_)
  have hwk := hp
  refine lv_aload_n hx hb dX1_endOf_4 rfl (lv_at hl 1 rfl) ?_
  refine lv_aload_n hx hb dX1_endOf_5 rfl (lv_at hl 0 rfl) ?_
  refine M0.get hF hX 1 (by decide) rfl rfl kf_RX1_38 dX1_endOf_6 ?_
  refine aldI hF hX.2.1 hX.1 6 0 rfl rfl N (by omega) (by decide) rfl dX1_endOf_9 ?_
  refine topI (show (w1 1 N) = px (v 0) (v 1) N from (hwk N (Nat.le_refl N)).1) ?_
  exact W.iret hx hb hr (fun t ht hW => ⟨⟨_, w1, rfl, rfl, wEnd M0.mv hX ht hW⟩, hS.F ht⟩) hS.2.2 dX1_endOf_10
set_option maxHeartbeats 4000000 in
set_option maxRecDepth 100000 in
theorem mX1_endOf_y (hok : Ok N st v) : Met l yX1_endOf (wm yX1_endOf cX1_endOf 2 (some .int)) ({ frames := 2, cells := 0, slots := 0, locals := 44 } : Room) (va_Pc [.ref (q 0), .ref (q 7)] (fun U => (fun U H => M0 D cyI cyZ q th (nI N) st md v w U H ∧ (SM1 t1 (own 8 q)) U H : State → Heap → Prop) U U.heap)) (va_Qi (fun (r : Int32) (u : Nat → Nat → Int32) => r = py (v 0) (v 1) N) (fun u U => (fun (u : Nat → Nat → Int32) => (M0 D cyI cyZ q th (nI N) st md v u : State → Heap → Prop)) u U U.heap) (own 8 q)) 0 0 (own 8 q) := by
  refine mt (by decide) (Nat.le_of_ble_eq_true rfl) ?_
  intro p ev s m below meth c ls hF hr hlocks hnm hX hl
  have hF : CallFix p m c cX1_endOf 2 s _ wA RX1 := hF
  obtain ⟨hx, hb, hml, hown, hts⟩ := id hF
  have hZ0 : (SM1 t1 (own 8 q)) s s.heap := hX.2
  have hX : M0 D cyI cyZ q th (nI N) st md v w s s.heap := hX.1
  have hl : lv_has ls 2 [(0, .ref (q 0)), (1, .ref (q 7))] := hl
  have hS : va_S (own 8 q) s.heap s.heap [] := va_S.rf
  have hN := hok.1
  refine lv_aload_n hx hb dX1_endOf_0 rfl (lv_at hl 0 rfl) ?_
  refine wVv (mc := 0) (ms := 0) (As := []) (rest := []) hF (mX1_walk hok) (Mv.and M0.mv SM1.mv) (fun _ => M0.mv) ⟨hX, SM1.kept hZ0 hS.2.1⟩ (M0.rc hX) jyX1_walk kl_RX1_52 ⟨rfl, rfl⟩ ⟨Nat.le_of_ble_eq_true rfl, Nat.le_of_ble_eq_true rfl⟩ rfl hl.1 rfl (Nat.le_of_ble_eq_true rfl) ⟨Nat.zero_le _, Nat.zero_le _⟩ hS (fun _ _ h => h) (fun _ h => h) dX1_endOf_1 (fun w1 H locs hp hX hz hk hS => ?_)
  have hwk := hp
  refine lv_aload_n hx hb dX1_endOf_4 rfl (lv_at hl 1 rfl) ?_
  refine lv_aload_n hx hb dX1_endOf_5 rfl (lv_at hl 0 rfl) ?_
  refine M0.get hF hX 1 (by decide) rfl rfl kf_RX1_38 dX1_endOf_6 ?_
  refine aldI hF hX.2.1 hX.1 7 0 rfl rfl N (by omega) (by decide) rfl dX1_endOf_9 ?_
  refine topI (show (w1 2 N) = py (v 0) (v 1) N from (hwk N (Nat.le_refl N)).2) ?_
  exact W.iret hx hb hr (fun t ht hW => ⟨⟨_, w1, rfl, rfl, wEnd M0.mv hX ht hW⟩, hS.F ht⟩) hS.2.2 dX1_endOf_10
set_option maxHeartbeats 4000000 in
set_option maxRecDepth 100000 in
theorem mX1_isFoldedNow (hok : Ok N st v) (i : Nat) (hi : i < N) : Met l yX1_isFoldedNow (wm yX1_isFoldedNow cX1_isFoldedNow 2 (some .boolean)) ({ frames := 3, cells := 0, slots := 0, locals := 65 } : Room) (va_Pc [.ref (q 0), .int (nI i)] (fun U => M0 D cyI cyZ q th (nI N) st md v w U U.heap)) (va_Qi (fun (r : Int32) (u : Nat → Nat → Int32) => r = b2i (fold1 v st i)) (fun u U => (fun (u : Nat → Nat → Int32) => (M0 D cyI cyZ q th (nI N) st md v u : State → Heap → Prop)) u U U.heap) (own 8 q)) 0 0 (own 8 q) := by
  refine mt (by decide) (Nat.le_of_ble_eq_true rfl) ?_
  intro p ev s m below meth c ls hF hr hlocks hnm hX hl
  have hF : CallFix p m c cX1_isFoldedNow 2 s _ wA RX1 := hF
  obtain ⟨hx, hb, hml, hown, hts⟩ := id hF
  have hX : M0 D cyI cyZ q th (nI N) st md v w s s.heap := hX
  have hl : lv_has ls 2 [(0, .ref (q 0)), (1, .int (nI i))] := hl
  have hS : va_S (own 8 q) s.heap s.heap [] := va_S.rf
  have hN := hok.1
  refine lv_aload_n hx hb dX1_isFoldedNow_0 rfl (lv_at hl 0 rfl) ?_
  refine lv_aload_n hx hb dX1_isFoldedNow_1 rfl (lv_at hl 0 rfl) ?_
  refine M0.get hF hX 2 (by decide) rfl rfl kf_RX1_7 dX1_isFoldedNow_2 ?_
  refine wVv (mc := 0) (ms := 0) (As := [.int st]) (rest := []) hF (mX1_sing hok st) M0.mv (fun _ => M0.mv) hX (M0.rc hX) jyX1_sing kl_RX1_68 ⟨rfl, rfl⟩ ⟨Nat.le_of_ble_eq_true rfl, Nat.le_of_ble_eq_true rfl⟩ rfl hl.1 rfl (Nat.le_of_ble_eq_true rfl) ⟨Nat.zero_le _, Nat.zero_le _⟩ hS (fun _ _ h => h) (fun _ h => h) dX1_isFoldedNow_5 (fun w1 H locs hp hX hz hk hS => ?_)
  have hsg := hp
  refine lv_aload_n hx hb dX1_isFoldedNow_8 rfl (lv_at hl 0 rfl) ?_
  refine M0.get hF hX 8 (by decide) rfl rfl kf_RX1_26 dX1_isFoldedNow_9 ?_
  refine lv_iload_n hx hb dX1_isFoldedNow_12 rfl (lv_at hl 1 rfl) ?_
  refine aldI hF hX.2.1 hX.1 5 0 rfl rfl i (by omega) (by decide) rfl dX1_isFoldedNow_13 ?_
  refine lv_aload_n hx hb dX1_isFoldedNow_14 rfl (lv_at hl 0 rfl) ?_
  refine M0.get hF hX 2 (by decide) rfl rfl kf_RX1_7 dX1_isFoldedNow_15 ?_
  refine lv_aload_n hx hb dX1_isFoldedNow_18 rfl (lv_at hl 0 rfl) ?_
  refine M0.get hF hX 3 (by decide) rfl rfl kf_RX1_13 dX1_isFoldedNow_19 ?_
  refine lv_iload_n hx hb dX1_isFoldedNow_22 rfl (lv_at hl 1 rfl) ?_
  refine aldI hF hX.2.1 hX.1 1 0 rfl rfl i (by omega) (by decide) rfl dX1_isFoldedNow_23 ?_
  refine lv_imul hx hb dX1_isFoldedNow_24 ?_
  refine cSi (As := [.int (w1 0 i), .int (st * (v 0 i))]) (rest := []) hF (mX1_folds (w1 0 i) (st * (v 0 i))) Mv.const trivial jyX1_folds kl_RX1_64 ⟨rfl, rfl⟩ ⟨Nat.le_of_ble_eq_true rfl, Nat.le_of_ble_eq_true rfl⟩ rfl hl.1 rfl (Nat.le_of_ble_eq_true rfl) ⟨Nat.zero_le _, Nat.zero_le _⟩ dX1_isFoldedNow_25 (fun r hr9 => ?_)
  subst hr9
  refine topI (show (b2i (lv9 ((w1 0 i) + (st * (v 0 i))))) = b2i (fold1 v st i) from fold_c (hsg i (by omega))) ?_
  exact W.zret hx hb hr b2i_nar (fun t ht hW => ⟨⟨_, w1, rfl, rfl, wEnd M0.mv hX ht hW⟩, hS.F ht⟩) hS.2.2 dX1_isFoldedNow_28
set_option maxHeartbeats 4000000 in
set_option maxRecDepth 100000 in
theorem mX1_noteNow (hok : Ok N st v) (i : Nat) (hi : i < N) : Met l yX1_noteNow (wm yX1_noteNow cX1_noteNow 2 (some .int)) ({ frames := 3, cells := 0, slots := 0, locals := 65 } : Room) (va_Pc [.ref (q 0), .int (nI i)] (fun U => M0 D cyI cyZ q th (nI N) st md v w U U.heap)) (va_Qi (fun (r : Int32) (u : Nat → Nat → Int32) => r = nt (v 0) st (i + 1)) (fun u U => (fun (u : Nat → Nat → Int32) => (M0 D cyI cyZ q th (nI N) st md v u : State → Heap → Prop)) u U U.heap) (own 8 q)) 0 0 (own 8 q) := by
  refine mt (by decide) (Nat.le_of_ble_eq_true rfl) ?_
  intro p ev s m below meth c ls hF hr hlocks hnm hX hl
  have hF : CallFix p m c cX1_noteNow 2 s _ wA RX1 := hF
  obtain ⟨hx, hb, hml, hown, hts⟩ := id hF
  have hX : M0 D cyI cyZ q th (nI N) st md v w s s.heap := hX
  have hl : lv_has ls 2 [(0, .ref (q 0)), (1, .int (nI i))] := hl
  have hS : va_S (own 8 q) s.heap s.heap [] := va_S.rf
  have hN := hok.1
  refine lv_aload_n hx hb dX1_noteNow_0 rfl (lv_at hl 0 rfl) ?_
  refine lv_aload_n hx hb dX1_noteNow_1 rfl (lv_at hl 0 rfl) ?_
  refine M0.get hF hX 2 (by decide) rfl rfl kf_RX1_7 dX1_noteNow_2 ?_
  refine wVv (mc := 0) (ms := 0) (As := [.int st]) (rest := []) hF (mX1_sing hok st) M0.mv (fun _ => M0.mv) hX (M0.rc hX) jyX1_sing kl_RX1_68 ⟨rfl, rfl⟩ ⟨Nat.le_of_ble_eq_true rfl, Nat.le_of_ble_eq_true rfl⟩ rfl hl.1 rfl (Nat.le_of_ble_eq_true rfl) ⟨Nat.zero_le _, Nat.zero_le _⟩ hS (fun _ _ h => h) (fun _ h => h) dX1_noteNow_5 (fun w1 H locs hp hX hz hk hS => ?_)
  have hsg := hp
  refine lv_aload_n hx hb dX1_noteNow_8 rfl (lv_at hl 0 rfl) ?_
  refine M0.get hF hX 8 (by decide) rfl rfl kf_RX1_26 dX1_noteNow_9 ?_
  refine lv_iload_n hx hb dX1_noteNow_12 rfl (lv_at hl 1 rfl) ?_
  refine lv_iconst (v := 1) hx hb dX1_noteNow_13 (by decide) ?_
  refine lv_iadd hx hb dX1_noteNow_14 ?_
  refine aldI hF hX.2.1 hX.1 5 0 rfl rfl (i + 1) (by omega) (by decide) (nI_1 i) dX1_noteNow_15 ?_
  exact W.iret hx hb hr (fun t ht hW => ⟨⟨_, w1, rfl, hsg (i + 1) (by omega), wEnd M0.mv hX ht hW⟩, hS.F ht⟩) hS.2.2 dX1_noteNow_16
set_option maxHeartbeats 4000000 in
set_option maxRecDepth 100000 in
theorem mX1_foldedNow (hok : Ok N st v) : Met l yX1_foldedNow (wm yX1_foldedNow cX1_foldedNow 3 (some .int)) ({ frames := 4, cells := 0, slots := 0, locals := 86 } : Room) (va_Pc [.ref (q 0)] (fun U => M0 D cyI cyZ q th (nI N) st md v w U U.heap)) (va_Qi (fun (r : Int32) (u : Nat → Nat → Int32) => r = ctB (fold1 v st) N) (fun u U => (fun (u : Nat → Nat → Int32) => (M0 D cyI cyZ q th (nI N) st md v u : State → Heap → Prop)) u U U.heap) (own 8 q)) 0 0 (own 8 q) := by
  refine mt (by decide) (Nat.le_of_ble_eq_true rfl) ?_
  intro p ev s m below meth c ls hF hr hlocks hnm hX hl
  have hF : CallFix p m c cX1_foldedNow 3 s _ wA RX1 := hF
  obtain ⟨hx, hb, hml, hown, hts⟩ := id hF
  have hX : M0 D cyI cyZ q th (nI N) st md v w s s.heap := hX
  have hl : lv_has ls 3 [(0, .ref (q 0))] := hl
  have hS : va_S (own 8 q) s.heap s.heap [] := va_S.rf
  have hN := hok.1
  refine lv_iconst (v := 0) hx hb dX1_foldedNow_0 (by decide) ?_
  refine lv_istore_n (lv' := [(1, .int 0), (0, .ref (q 0))]) hx hb dX1_foldedNow_1 rfl hl (by decide) rfl (fun ls hl => ?_)
  refine lv_iconst (v := 0) hx hb dX1_foldedNow_2 (by decide) ?_
  refine lv_istore_n (lv' := [(2, .int 0), (1, .int 0), (0, .ref (q 0))]) hx hb dX1_foldedNow_3 rfl hl (by decide) rfl (fun ls hl => ?_)
  refine lpH2 (σ := Nat) (τ := Nat → Nat → Int32) (fun j w ls H locs => (j ≤ N) ∧ M0 D cyI cyZ q th (nI N) st md v w s H ∧ va_S (own 8 q) s.heap H locs ∧ lv_has ls 3 [(0, .ref (q 0)), (1, .int (ctB (fold1 v st) j)), (2, .int (nI j))]) (fun j w => N - j) (fun j w ls H locs hI ih => ?_) (0) w ⟨Nat.zero_le _, hX, hS, lv_sub hl [2, 1, 0] rfl⟩
  obtain ⟨hj, hX, hS, hl⟩ := hI
  refine lv_iload_n hx hb dX1_foldedNow_4 rfl (lv_at hl 2 rfl) ?_
  refine lv_aload_n hx hb dX1_foldedNow_5 rfl (lv_at hl 0 rfl) ?_
  refine M0.get hF hX 1 (by decide) rfl rfl kf_RX1_38 dX1_foldedNow_6 ?_
  refine lv_icmp_ge (tgt := 34) hx hb dX1_foldedNow_9 (by decide) (fun c9 => ?_) (fun c9 => ?_)
  · have c9n : N ≤ j := (nI_leI (a := N) (b := j) (by omega) (by omega)).mp c9
    obtain rfl : j = N := by omega
    refine lv_iload_n hx hb dX1_foldedNow_34 rfl (lv_at hl 1 rfl) ?_
    exact W.iret hx hb hr (fun t ht hW => ⟨⟨_, w, rfl, rfl, wEnd M0.mv hX ht hW⟩, hS.F ht⟩) hS.2.2 dX1_foldedNow_35
  · have c9n : ¬ N ≤ j := fun h9 => c9 ((nI_leI (a := N) (b := j) (by omega) (by omega)).mpr h9)
    refine lv_iload_n hx hb dX1_foldedNow_12 rfl (lv_at hl 1 rfl) ?_
    refine lv_aload_n hx hb dX1_foldedNow_13 rfl (lv_at hl 0 rfl) ?_
    refine lv_iload_n hx hb dX1_foldedNow_14 rfl (lv_at hl 2 rfl) ?_
    refine wVi (mc := 0) (ms := 0) (As := [.int (nI j)]) (rest := [.int (ctB (fold1 v st) j)]) hF (mX1_isFoldedNow hok j (by omega)) M0.mv (fun _ => M0.mv) hX (M0.rc hX) jyX1_isFoldedNow kl_RX1_72 ⟨rfl, rfl⟩ ⟨Nat.le_of_ble_eq_true rfl, Nat.le_of_ble_eq_true rfl⟩ rfl hl.1 rfl (Nat.le_of_ble_eq_true rfl) ⟨Nat.zero_le _, Nat.zero_le _⟩ hS (fun _ _ h => h) (fun _ h => h) dX1_foldedNow_15 (fun r9 w1 H locs hp hX hz hk hS => ?_)
    have hr9 := hp
    subst hr9
    refine lv_if_eq (tgt := 25) hx hb dX1_foldedNow_18 (by decide) (fun c18 => ?_) (fun c18 => ?_)
    · have c18b := b2i_f c18
      refine lv_iconst (v := 0) hx hb dX1_foldedNow_25 (by decide) ?_
      refine lv_iadd hx hb dX1_foldedNow_26 ?_
      refine topI (show ((ctB (fold1 v st) j) + 0) = ctB (fold1 v st) (j + 1) from ctB_f' c18b) ?_
      refine lv_istore_n (lv' := [(1, .int (ctB (fold1 v st) (j + 1))), (0, .ref (q 0)), (2, .int (nI j))]) hx hb dX1_foldedNow_27 rfl hl (by decide) rfl (fun ls hl => ?_)
      refine lv_iinc (v := (nI (j + 1))) (lv' := [(2, .int (nI (j + 1))), (1, .int (ctB (fold1 v st) (j + 1))), (0, .ref (q 0))]) hx hb dX1_foldedNow_28 hl (k := 2) rfl (nI_1 _) (by decide) rfl (fun ls hl => ?_)
      refine lv_goto (tgt := 4) hx hb dX1_foldedNow_31 (by decide) ?_
      exact ih (j + 1) w1 ls H locs (by omega) ⟨by omega, hX, hS, by exact lv_sub hl [2, 1, 0] rfl⟩
    · have c18b := b2i_t c18
      refine lv_iconst (v := 1) hx hb dX1_foldedNow_21 (by decide) ?_
      refine lv_goto (tgt := 26) hx hb dX1_foldedNow_22 (by decide) ?_
      refine lv_iadd hx hb dX1_foldedNow_26 ?_
      refine topI (show ((ctB (fold1 v st) j) + 1) = ctB (fold1 v st) (j + 1) from ctB_t' c18b) ?_
      refine lv_istore_n (lv' := [(1, .int (ctB (fold1 v st) (j + 1))), (0, .ref (q 0)), (2, .int (nI j))]) hx hb dX1_foldedNow_27 rfl hl (by decide) rfl (fun ls hl => ?_)
      refine lv_iinc (v := (nI (j + 1))) (lv' := [(2, .int (nI (j + 1))), (1, .int (ctB (fold1 v st) (j + 1))), (0, .ref (q 0))]) hx hb dX1_foldedNow_28 hl (k := 2) rfl (nI_1 _) (by decide) rfl (fun ls hl => ?_)
      refine lv_goto (tgt := 4) hx hb dX1_foldedNow_31 (by decide) ?_
      exact ih (j + 1) w1 ls H locs (by omega) ⟨by omega, hX, hS, by exact lv_sub hl [2, 1, 0] rfl⟩
end P20
