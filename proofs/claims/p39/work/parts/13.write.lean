section P13
variable {l : Launch} {D : va_G} {cyI cyZ : ClassId} {q : Nat → Nat} {N K : Nat} {n st th md : Int32} {v w : Nat → Nat → Int32} {mk : Nat → Bool}
variable {t1 t2 : Nat}
set_option maxHeartbeats 4000000 in
set_option maxRecDepth 100000 in
theorem mJ9_floorMod_7cf53 (x y : Int32) (hy : ¬ y = 0) : Met l yJ9_floorMod_7cf53 (wm yJ9_floorMod_7cf53 cJ9_floorMod_7cf53 3 (some .int)) ({ frames := 0, cells := 0, slots := 0, locals := 0 } : Room) (va_Pc [.int x, .int y] (fun U => (fun _ _ => True : State → Heap → Prop) U U.heap)) (vp_Si (fun r => r = fmd x y)) 0 0 (fun _ => False) := by
  refine mtF (by decide +kernel) (Nat.le_of_ble_eq_true rfl) ?_
  intro p ev s m below meth c ls hF hr hlocks hnm hX hl
  have hF : CallFix p m c cJ9_floorMod_7cf53 3 s _ wA RJ9 := hF
  obtain ⟨hx, hb, hml, hown, hts⟩ := id hF
  have hl : lv_has ls 3 [(0, .int x), (1, .int y)] := hl
  refine lv_iload_n hx hb dJ9_floorMod_7cf53_0 rfl (lv_at hl 0 rfl) ?_
  refine lv_iload_n hx hb dJ9_floorMod_7cf53_1 rfl (lv_at hl 1 rfl) ?_
  refine lv_irem hx hb dJ9_floorMod_7cf53_2 hy ?_
  refine lv_istore_n (lv' := [(2, .int (x - x / y * y)), (0, .int x), (1, .int y)]) hx hb dJ9_floorMod_7cf53_3 rfl hl (by decide) rfl (fun ls hl => ?_)
  refine lv_iload_n hx hb dJ9_floorMod_7cf53_4 rfl (lv_at hl 1 rfl) ?_
  refine lv_iload_n hx hb dJ9_floorMod_7cf53_5 rfl (lv_at hl 2 rfl) ?_
  refine lv_ixor hx hb dJ9_floorMod_7cf53_6 ?_
  refine lv_if_ge (tgt := 18) hx hb dJ9_floorMod_7cf53_7 (by decide) (fun c7 => ?_) (fun c7 => ?_)
  · refine lv_iload_n hx hb dJ9_floorMod_7cf53_18 rfl (lv_at hl 0 rfl) ?_
    exact W.iret hx hb hr (fun t ht hW => ⟨_, rfl, (fmd_1 c7), ht⟩) (fun q hq => absurd hq List.not_mem_nil) dJ9_floorMod_7cf53_19
  · refine lv_iload_n hx hb dJ9_floorMod_7cf53_10 rfl (lv_at hl 0 rfl) ?_
    refine lv_if_eq (tgt := 18) hx hb dJ9_floorMod_7cf53_11 (by decide) (fun c11 => ?_) (fun c11 => ?_)
    · refine lv_iload_n hx hb dJ9_floorMod_7cf53_18 rfl (lv_at hl 0 rfl) ?_
      exact W.iret hx hb hr (fun t ht hW => ⟨_, rfl, (fmd_2 c11), ht⟩) (fun q hq => absurd hq List.not_mem_nil) dJ9_floorMod_7cf53_19
    · refine lv_iload_n hx hb dJ9_floorMod_7cf53_14 rfl (lv_at hl 0 rfl) ?_
      refine lv_iload_n hx hb dJ9_floorMod_7cf53_15 rfl (lv_at hl 2 rfl) ?_
      refine lv_iadd hx hb dJ9_floorMod_7cf53_16 ?_
      exact W.iret hx hb hr (fun t ht hW => ⟨_, rfl, (fmd_3 c7 c11), ht⟩) (fun q hq => absurd hq List.not_mem_nil) dJ9_floorMod_7cf53_17
set_option maxHeartbeats 4000000 in
set_option maxRecDepth 100000 in
theorem mX0_follow (i : Nat) (hok : Ok N st v) (hde : Der i st v w) (hi : i ≤ N) : Met l yX0_follow (wm yX0_follow cX0_follow 4 none) ({ frames := 2, cells := 0, slots := 0, locals := 42 } : Room) (va_Pc [.ref (q 0), .int (nI i)] (fun U => (fun U H => C0 D cyI cyZ q (nI N) st v mk w U H ∧ (ST t1 t2 (own 10 q)) U H : State → Heap → Prop) U U.heap)) (va_Qv (fun (u : Nat → Nat → Int32) => Der N st v u) (fun u U => (fun (u : Nat → Nat → Int32) => (C0 D cyI cyZ q (nI N) st v mk u : State → Heap → Prop)) u U U.heap) (own 10 q)) 0 0 (own 10 q) := by
  refine mt (by decide) (Nat.le_of_ble_eq_true rfl) ?_
  intro p ev s m below meth c ls hF hr hlocks hnm hX hl
  have hF : CallFix p m c cX0_follow 4 s _ wA RX0 := hF
  obtain ⟨hx, hb, hml, hown, hts⟩ := id hF
  have hZ0 : (ST t1 t2 (own 10 q)) s s.heap := hX.2
  have hX : C0 D cyI cyZ q (nI N) st v mk w s s.heap := hX.1
  have hl : lv_has ls 4 [(0, .ref (q 0)), (1, .int (nI i))] := hl
  have hS : va_S (own 10 q) s.heap s.heap [] := va_S.rf
  have hN := hok.1
  refine lv_iload_n hx hb dX0_follow_0 rfl (lv_at hl 1 rfl) ?_
  refine lv_istore_n (lv' := [(2, .int (nI i)), (0, .ref (q 0)), (1, .int (nI i))]) hx hb dX0_follow_1 rfl hl (by decide) rfl (fun ls hl => ?_)
  refine lpH2 (σ := Nat) (τ := Nat → Nat → Int32) (fun j w ls H locs => (i ≤ j ∧ j ≤ N ∧ Der j st v w) ∧ C0 D cyI cyZ q (nI N) st v mk w s H ∧ va_S (own 10 q) s.heap H locs ∧ lv_has ls 4 [(0, .ref (q 0)), (1, .int (nI i)), (2, .int (nI j))]) (fun j w => N - j) (fun j w ls H locs hI ih => ?_) (i) w ⟨⟨Nat.le_refl i, hi, hde⟩, hX, hS, lv_sub hl [1, 2, 0] rfl⟩
  obtain ⟨hj, hX, hS, hl⟩ := hI
  refine lv_iload_n hx hb dX0_follow_2 rfl (lv_at hl 2 rfl) ?_
  refine lv_aload_n hx hb dX0_follow_3 rfl (lv_at hl 0 rfl) ?_
  refine C0.get hF hX 5 (by decide) rfl rfl kf_RX0_59 dX0_follow_4 ?_
  refine lv_icmp_ge (tgt := 114) hx hb dX0_follow_7 (by decide) (fun c7 => ?_) (fun c7 => ?_)
  · have c7n : N ≤ j := (nI_leI (a := N) (b := j) (by omega) (by omega)).mp c7
    obtain rfl : j = N := by omega
    exact W.vret hx hb hr (fun t ht hW => ⟨⟨w, rfl, hj.2.2, wEnd C0.mv hX ht hW⟩, hS.F ht⟩) hS.2.2 dX0_follow_114
  · have c7n : ¬ N ≤ j := fun h9 => c7 ((nI_leI (a := N) (b := j) (by omega) (by omega)).mpr h9)
    refine lv_aload_n hx hb dX0_follow_10 rfl (lv_at hl 0 rfl) ?_
    refine lv_iload_n hx hb dX0_follow_11 rfl (lv_at hl 2 rfl) ?_
    refine cVi (As := [.int (nI j)]) (rest := []) hF (mX0_headingAhead j hj.2.2 (by omega) (by omega)) C0.mv hX (C0.rc hX) jyX0_headingAhead kl_RX0_215 ⟨rfl, rfl⟩ ⟨Nat.le_of_ble_eq_true rfl, Nat.le_of_ble_eq_true rfl⟩ rfl hl.1 rfl (Nat.le_of_ble_eq_true rfl) ⟨Nat.zero_le _, Nat.zero_le _⟩ dX0_follow_12 (fun r hr9 => ?_)
    subst hr9
    refine lv_aload_n hx hb dX0_follow_15 rfl (lv_at hl 0 rfl) ?_
    refine C0.get hF hX 0 (by decide) rfl rfl kf_RX0_9 dX0_follow_16 ?_
    refine lv_iload_n hx hb dX0_follow_19 rfl (lv_at hl 2 rfl) ?_
    refine aldI hF hX.2.1 hX.1 1 0 rfl rfl j (by omega) (by decide) rfl dX0_follow_20 ?_
    refine lv_iadd hx hb dX0_follow_21 ?_
    refine lv_bipush (v := 8) hx hb dX0_follow_22 (by decide) ?_
    refine cSi (As := [.int ((hd (v 0) j) + (v 0 j)), .int 8]) (rest := []) hF (mJ9_floorMod_7cf53 ((hd (v 0) j) + (v 0 j)) 8 (by decide)) Mv.const trivial jyJ9_floorMod_7cf53 kl_RX0_218 ⟨rfl, rfl⟩ ⟨Nat.le_of_ble_eq_true rfl, Nat.le_of_ble_eq_true rfl⟩ rfl hl.1 rfl (Nat.le_of_ble_eq_true rfl) ⟨Nat.zero_le _, Nat.zero_le _⟩ dX0_follow_24 (fun r hr9 => ?_)
    subst hr9
    refine topI (show (fmd ((hd (v 0) j) + (v 0 j)) 8) = hd (v 0) (j + 1) from rfl) ?_
    refine lv_istore_n (lv' := [(3, .int (hd (v 0) (j + 1))), (0, .ref (q 0)), (1, .int (nI i)), (2, .int (nI j))]) hx hb dX0_follow_27 rfl hl (by decide) rfl (fun ls hl => ?_)
    refine lv_aload_n hx hb dX0_follow_28 rfl (lv_at hl 1 rfl) ?_
    refine C0.get hF hX 7 (by decide) rfl rfl kf_RX0_26 dX0_follow_29 ?_
    refine lv_iload_n hx hb dX0_follow_32 rfl (lv_at hl 3 rfl) ?_
    refine lv_iload_n hx hb dX0_follow_33 rfl (lv_at hl 0 rfl) ?_
    refine C0.st_w0 hF hX hS j (by omega) rfl dX0_follow_34 (fun H locs hX hS => ?_)
    refine lv_aload_n hx hb dX0_follow_35 rfl (lv_at hl 1 rfl) ?_
    refine C0.get hF hX 8 (by decide) rfl rfl kf_RX0_29 dX0_follow_36 ?_
    refine lv_iload_n hx hb dX0_follow_39 rfl (lv_at hl 3 rfl) ?_
    refine lv_aload_n hx hb dX0_follow_40 rfl (lv_at hl 1 rfl) ?_
    refine lv_iload_n hx hb dX0_follow_41 rfl (lv_at hl 3 rfl) ?_
    refine cVi (As := [.int (nI j)]) (rest := [.int (nI j), .ref (q 7)]) hF (mX0_xAhead j (der_up hj.2.2 (Nat.le_refl j) 0 _) (by omega) (by omega)) C0.mv hX (C0.rc hX) jyX0_xAhead kl_RX0_88 ⟨rfl, rfl⟩ ⟨Nat.le_of_ble_eq_true rfl, Nat.le_of_ble_eq_true rfl⟩ rfl hl.1 rfl (Nat.le_of_ble_eq_true rfl) ⟨Nat.zero_le _, Nat.zero_le _⟩ dX0_follow_42 (fun r hr9 => ?_)
    subst hr9
    refine lv_aload_n hx hb dX0_follow_45 rfl (lv_at hl 1 rfl) ?_
    refine C0.get hF hX 1 (by decide) rfl rfl kf_RX0_13 dX0_follow_46 ?_
    refine lv_iload_n hx hb dX0_follow_49 rfl (lv_at hl 3 rfl) ?_
    refine aldI hF hX.2.1 hX.1 2 0 rfl rfl j (by omega) (by decide) rfl dX0_follow_50 ?_
    refine va_gets hx hb hZ0.1 hS hown (hts _ kf_RX0_221) (fun _ h9 => h9) dX0_follow_51 ?_
    refine lv_iload_n hx hb dX0_follow_54 rfl (lv_at hl 0 rfl) ?_
    refine aldT hF hZ0.2.1 hS (ix (hd (v 0) (j + 1))) (hd_ix8 hok (j + 1)) (by decide) (hd_ix hok (j + 1)) rfl dX0_follow_55 ?_
    refine lv_imul hx hb dX0_follow_56 ?_
    refine lv_iadd hx hb dX0_follow_57 ?_
    refine topI (show ((px (v 0) (v 1) j) + ((v 1 j) * (eaT (ix (hd (v 0) (j + 1)))))) = px (v 0) (v 1) (j + 1) from rfl) ?_
    refine C0.st_w1 hF hX hS j (by omega) rfl dX0_follow_58 (fun H locs hX hS => ?_)
    refine lv_aload_n hx hb dX0_follow_59 rfl (lv_at hl 1 rfl) ?_
    refine C0.get hF hX 9 (by decide) rfl rfl kf_RX0_32 dX0_follow_60 ?_
    refine lv_iload_n hx hb dX0_follow_63 rfl (lv_at hl 3 rfl) ?_
    refine lv_aload_n hx hb dX0_follow_64 rfl (lv_at hl 1 rfl) ?_
    refine lv_iload_n hx hb dX0_follow_65 rfl (lv_at hl 3 rfl) ?_
    refine cVi (As := [.int (nI j)]) (rest := [.int (nI j), .ref (q 8)]) hF (mX0_yAhead j (der_up (der_up hj.2.2 (Nat.le_refl j) 0 _) (Nat.le_refl j) 1 _) (by omega) (by omega)) C0.mv hX (C0.rc hX) jyX0_yAhead kl_RX0_92 ⟨rfl, rfl⟩ ⟨Nat.le_of_ble_eq_true rfl, Nat.le_of_ble_eq_true rfl⟩ rfl hl.1 rfl (Nat.le_of_ble_eq_true rfl) ⟨Nat.zero_le _, Nat.zero_le _⟩ dX0_follow_66 (fun r hr9 => ?_)
    subst hr9
    refine lv_aload_n hx hb dX0_follow_69 rfl (lv_at hl 1 rfl) ?_
    refine C0.get hF hX 1 (by decide) rfl rfl kf_RX0_13 dX0_follow_70 ?_
    refine lv_iload_n hx hb dX0_follow_73 rfl (lv_at hl 3 rfl) ?_
    refine aldI hF hX.2.1 hX.1 2 0 rfl rfl j (by omega) (by decide) rfl dX0_follow_74 ?_
    refine va_gets hx hb hZ0.2.2.1 hS hown (hts _ kf_RX0_224) (fun _ h9 => h9) dX0_follow_75 ?_
    refine lv_iload_n hx hb dX0_follow_78 rfl (lv_at hl 0 rfl) ?_
    refine aldT hF hZ0.2.2.2 hS (ix (hd (v 0) (j + 1))) (hd_ix8 hok (j + 1)) (by decide) (hd_ix hok (j + 1)) rfl dX0_follow_79 ?_
    refine lv_imul hx hb dX0_follow_80 ?_
    refine lv_iadd hx hb dX0_follow_81 ?_
    refine topI (show ((py (v 0) (v 1) j) + ((v 1 j) * (noT (ix (hd (v 0) (j + 1)))))) = py (v 0) (v 1) (j + 1) from rfl) ?_
    refine C0.st_w2 hF hX hS j (by omega) rfl dX0_follow_82 (fun H locs hX hS => ?_)
    refine lv_aload_n hx hb dX0_follow_83 rfl (lv_at hl 1 rfl) ?_
    refine C0.get hF hX 10 (by decide) rfl rfl kf_RX0_35 dX0_follow_84 ?_
    refine lv_iload_n hx hb dX0_follow_87 rfl (lv_at hl 3 rfl) ?_
    refine lv_aload_n hx hb dX0_follow_88 rfl (lv_at hl 1 rfl) ?_
    refine lv_iload_n hx hb dX0_follow_89 rfl (lv_at hl 3 rfl) ?_
    refine cVi (As := [.int (nI j)]) (rest := [.int (nI j), .ref (q 9)]) hF (mX0_noteAhead j (der_up (der_up (der_up hj.2.2 (Nat.le_refl j) 0 _) (Nat.le_refl j) 1 _) (Nat.le_refl j) 2 _) (by omega) (by omega)) C0.mv hX (C0.rc hX) jyX0_noteAhead kl_RX0_114 ⟨rfl, rfl⟩ ⟨Nat.le_of_ble_eq_true rfl, Nat.le_of_ble_eq_true rfl⟩ rfl hl.1 rfl (Nat.le_of_ble_eq_true rfl) ⟨Nat.zero_le _, Nat.zero_le _⟩ dX0_follow_90 (fun r hr9 => ?_)
    subst hr9
    refine lv_aload_n hx hb dX0_follow_93 rfl (lv_at hl 1 rfl) ?_
    refine C0.get hF hX 0 (by decide) rfl rfl kf_RX0_9 dX0_follow_94 ?_
    refine lv_iload_n hx hb dX0_follow_97 rfl (lv_at hl 3 rfl) ?_
    refine aldI hF hX.2.1 hX.1 1 0 rfl rfl j (by omega) (by decide) rfl dX0_follow_98 ?_
    refine lv_aload_n hx hb dX0_follow_99 rfl (lv_at hl 1 rfl) ?_
    refine C0.get hF hX 6 (by decide) rfl rfl kf_RX0_38 dX0_follow_100 ?_
    refine lv_imul hx hb dX0_follow_103 ?_
    refine cSi (As := [.int (nt (v 0) st j), .int ((v 0 j) * st)]) (rest := [.int (nI j), .ref (q 9)]) hF (mX0_noteBehind (nt (v 0) st j) ((v 0 j) * st)) Mv.const trivial jyX0_noteBehind kl_RX0_227 ⟨rfl, rfl⟩ ⟨Nat.le_of_ble_eq_true rfl, Nat.le_of_ble_eq_true rfl⟩ rfl hl.1 rfl (Nat.le_of_ble_eq_true rfl) ⟨Nat.zero_le _, Nat.zero_le _⟩ dX0_follow_104 (fun r hr9 => ?_)
    subst hr9
    refine topI (show (nb (nt (v 0) st j) ((v 0 j) * st)) = nt (v 0) st (j + 1) from rfl) ?_
    refine C0.st_w3 hF hX hS j (by omega) rfl dX0_follow_107 (fun H locs hX hS => ?_)
    refine lv_iinc (v := (nI (j + 1))) (lv' := [(2, .int (nI (j + 1))), (3, .int (hd (v 0) (j + 1))), (0, .ref (q 0)), (1, .int (nI i))]) hx hb dX0_follow_108 hl (k := 3) rfl (nI_1 _) (by decide) rfl (fun ls hl => ?_)
    refine lv_goto (tgt := 2) hx hb dX0_follow_111 (by decide) ?_
    exact ih (j + 1) (va_up (va_up (va_up (va_up w 0 (upd (w 0) j (hd (v 0) (j + 1)))) 1 (upd ((va_up w 0 (upd (w 0) j (hd (v 0) (j + 1)))) 1) j (px (v 0) (v 1) (j + 1)))) 2 (upd ((va_up (va_up w 0 (upd (w 0) j (hd (v 0) (j + 1)))) 1 (upd ((va_up w 0 (upd (w 0) j (hd (v 0) (j + 1)))) 1) j (px (v 0) (v 1) (j + 1)))) 2) j (py (v 0) (v 1) (j + 1)))) 3 (upd ((va_up (va_up (va_up w 0 (upd (w 0) j (hd (v 0) (j + 1)))) 1 (upd ((va_up w 0 (upd (w 0) j (hd (v 0) (j + 1)))) 1) j (px (v 0) (v 1) (j + 1)))) 2 (upd ((va_up (va_up w 0 (upd (w 0) j (hd (v 0) (j + 1)))) 1 (upd ((va_up w 0 (upd (w 0) j (hd (v 0) (j + 1)))) 1) j (px (v 0) (v 1) (j + 1)))) 2) j (py (v 0) (v 1) (j + 1)))) 3) j (nt (v 0) st (j + 1)))) ls H locs (by omega) ⟨⟨by omega, by omega, der_next hj.2.2⟩, hX, hS, by exact lv_sub hl [2, 3, 0] rfl⟩
set_option maxHeartbeats 4000000 in
set_option maxRecDepth 100000 in
theorem mX0_dropMarks (hN : N ≤ 16) : Met l yX0_dropMarks (wm yX0_dropMarks cX0_dropMarks 2 none) ({ frames := 0, cells := 0, slots := 0, locals := 0 } : Room) (va_Pc [.ref (q 0)] (fun U => C0 D cyI cyZ q (nI N) st v mk w U U.heap)) (va_Qv (fun (u : Nat → Bool) => ∀ k, k < N → u k = false) (fun u U => (fun (u : Nat → Bool) => (C0 D cyI cyZ q (nI N) st v u w : State → Heap → Prop)) u U U.heap) (own 10 q)) 0 0 (own 10 q) := by
  refine mt (by decide) (Nat.le_of_ble_eq_true rfl) ?_
  intro p ev s m below meth c ls hF hr hlocks hnm hX hl
  have hF : CallFix p m c cX0_dropMarks 2 s _ wA RX0 := hF
  obtain ⟨hx, hb, hml, hown, hts⟩ := id hF
  have hX : C0 D cyI cyZ q (nI N) st v mk w s s.heap := hX
  have hl : lv_has ls 2 [(0, .ref (q 0))] := hl
  have hS : va_S (own 10 q) s.heap s.heap [] := va_S.rf
  refine lv_iconst (v := 0) hx hb dX0_dropMarks_0 (by decide) ?_
  refine lv_istore_n (lv' := [(1, .int 0), (0, .ref (q 0))]) hx hb dX0_dropMarks_1 rfl hl (by decide) rfl (fun ls hl => ?_)
  refine lpH2 (σ := Nat) (τ := Nat → Bool) (fun j mk ls H locs => (j ≤ N ∧ ∀ k, k < j → mk k = false) ∧ C0 D cyI cyZ q (nI N) st v mk w s H ∧ va_S (own 10 q) s.heap H locs ∧ lv_has ls 2 [(0, .ref (q 0)), (1, .int (nI j))]) (fun j mk => N - j) (fun j mk ls H locs hI ih => ?_) (0) mk ⟨⟨by omega, fun k h => absurd h (Nat.not_lt_zero _)⟩, hX, hS, lv_sub hl [1, 0] rfl⟩
  obtain ⟨hj, hX, hS, hl⟩ := hI
  refine lv_iload_n hx hb dX0_dropMarks_2 rfl (lv_at hl 1 rfl) ?_
  refine lv_aload_n hx hb dX0_dropMarks_3 rfl (lv_at hl 0 rfl) ?_
  refine C0.get hF hX 5 (by decide) rfl rfl kf_RX0_59 dX0_dropMarks_4 ?_
  refine lv_icmp_ge (tgt := 23) hx hb dX0_dropMarks_7 (by decide) (fun c7 => ?_) (fun c7 => ?_)
  · have c7n : N ≤ j := (nI_leI (a := N) (b := j) (by omega) (by omega)).mp c7
    obtain rfl : j = N := by omega
    exact W.vret hx hb hr (fun t ht hW => ⟨⟨mk, rfl, hj.2, wEnd C0.mv hX ht hW⟩, hS.F ht⟩) hS.2.2 dX0_dropMarks_23
  · have c7n : ¬ N ≤ j := fun h9 => c7 ((nI_leI (a := N) (b := j) (by omega) (by omega)).mpr h9)
    refine lv_aload_n hx hb dX0_dropMarks_10 rfl (lv_at hl 0 rfl) ?_
    refine C0.get hF hX 3 (by decide) rfl rfl kf_RX0_19 dX0_dropMarks_11 ?_
    refine lv_iload_n hx hb dX0_dropMarks_14 rfl (lv_at hl 1 rfl) ?_
    refine lv_iconst (v := 0) hx hb dX0_dropMarks_15 (by decide) ?_
    refine C0.st_mk_false hF hX hS j (by omega) rfl rfl dX0_dropMarks_16 (fun H locs hX hS => ?_)
    refine lv_iinc (v := (nI (j + 1))) (lv' := [(1, .int (nI (j + 1))), (0, .ref (q 0))]) hx hb dX0_dropMarks_17 hl (k := 1) rfl (nI_1 _) (by decide) rfl (fun ls hl => ?_)
    refine lv_goto (tgt := 2) hx hb dX0_dropMarks_20 (by decide) ?_
    exact ih (j + 1) (va_up mk j false) ls H locs (by omega) ⟨⟨by omega, mk_f hj.2⟩, hX, hS, by exact lv_sub hl [1, 0] rfl⟩
set_option maxHeartbeats 4000000 in
set_option maxRecDepth 100000 in
theorem mX0_addLeg (hok : Ok N st v) (hde : Der N st v w) (e j : Nat) (ln : Int32) (he : e < 7) (hl1 : ¬ ln < 1) (hl9 : ln ≤ 9) (hj10 : j < 10) (hN16 : N < 16) : Met l yX0_addLeg (wm yX0_addLeg cX0_addLeg 5 (some .int)) ({ frames := 3, cells := 0, slots := 0, locals := 65 } : Room) (va_Pc [.ref (q 0), .int (nI e - 3), .int ln, .int (nI j)] (fun U => (fun U H => C0 D cyI cyZ q (nI N) st v mk w U H ∧ (ST t1 t2 (own 10 q)) U H : State → Heap → Prop) U U.heap)) (va_Qi (fun (r : Int32) (u : Nat → Nat → Int32) => r = nI N ∧ Der (N + 1) st (addV v N (nI e - 3) ln (nI j)) u) (fun u U => (fun (u : Nat → Nat → Int32) => (C0 D cyI cyZ q (nI (N + 1)) st (addV v N (nI e - 3) ln (nI j)) (va_up mk N false) u : State → Heap → Prop)) u U U.heap) (own 10 q)) 0 0 (own 10 q) := by
  refine mt (by decide) (Nat.le_of_ble_eq_true rfl) ?_
  intro p ev s m below meth c ls hF hr hlocks hnm hX hl
  have hF : CallFix p m c cX0_addLeg 5 s _ wA RX0 := hF
  obtain ⟨hx, hb, hml, hown, hts⟩ := id hF
  have hZ0 : (ST t1 t2 (own 10 q)) s s.heap := hX.2
  have hX : C0 D cyI cyZ q (nI N) st v mk w s s.heap := hX.1
  have hl : lv_has ls 5 [(0, .ref (q 0)), (1, .int (nI e - 3)), (2, .int ln), (3, .int (nI j))] := hl
  have hS : va_S (own 10 q) s.heap s.heap [] := va_S.rf
  have hN := hok.1
  refine lv_iload_n hx hb dX0_addLeg_0 rfl (lv_at hl 1 rfl) ?_
  refine cSv (As := [.int (nI e - 3)]) (rest := []) hF (mX0_checkTurn e he) Mv.const trivial jyX0_checkTurn kl_RX0_42 ⟨rfl, rfl⟩ ⟨Nat.le_of_ble_eq_true rfl, Nat.le_of_ble_eq_true rfl⟩ rfl hl.1 rfl (Nat.le_of_ble_eq_true rfl) ⟨Nat.zero_le _, Nat.zero_le _⟩ dX0_addLeg_1 ?_
  refine lv_iload_n hx hb dX0_addLeg_4 rfl (lv_at hl 2 rfl) ?_
  refine lv_iconst (v := 1) hx hb dX0_addLeg_5 (by decide) ?_
  refine lv_icmp_lt (tgt := 15) hx hb dX0_addLeg_6 (by decide) (fun c6 => ?_) (fun c6 => ?_)
  · exact absurd c6 hl1
  · refine lv_iload_n hx hb dX0_addLeg_9 rfl (lv_at hl 2 rfl) ?_
    refine lv_bipush (v := 9) hx hb dX0_addLeg_10 (by decide) ?_
    refine lv_icmp_le (tgt := 25) hx hb dX0_addLeg_12 (by decide) (fun c12 => ?_) (fun c12 => ?_)
    · refine lv_iload_n hx hb dX0_addLeg_25 rfl (lv_at hl 3 rfl) ?_
      refine cSi (As := [.int (nI j)]) (rest := []) hF (mX0_isLandmark (nI j)) Mv.const trivial jyX0_isLandmark kl_RX0_53 ⟨rfl, rfl⟩ ⟨Nat.le_of_ble_eq_true rfl, Nat.le_of_ble_eq_true rfl⟩ rfl hl.1 rfl (Nat.le_of_ble_eq_true rfl) ⟨Nat.zero_le _, Nat.zero_le _⟩ dX0_addLeg_26 (fun r hr9 => ?_)
      subst hr9
      refine lv_if_ne (tgt := 42) hx hb dX0_addLeg_29 (by decide) (fun c29 => ?_) (fun c29 => ?_)
      · have c29b := b2i_t c29
        refine lv_aload_n hx hb dX0_addLeg_42 rfl (lv_at hl 0 rfl) ?_
        refine C0.get hF hX 5 (by decide) rfl rfl kf_RX0_59 dX0_addLeg_43 ?_
        refine lv_bipush (v := 16) hx hb dX0_addLeg_46 (by decide) ?_
        refine lv_icmp_lt (tgt := 61) hx hb dX0_addLeg_48 (by decide) (fun c48 => ?_) (fun c48 => ?_)
        · have c48n : N < 16 := (nI_ltI (a := N) (b := 16) (by omega) (by omega)).mp c48
          refine lv_aload_n hx hb dX0_addLeg_61 rfl (lv_at hl 0 rfl) ?_
          refine C0.get hF hX 5 (by decide) rfl rfl kf_RX0_59 dX0_addLeg_62 ?_
          refine lv_istore (lv' := [(4, .int (nI N)), (0, .ref (q 0)), (1, .int (nI e - 3)), (2, .int ln), (3, .int (nI j))]) hx hb dX0_addLeg_65 hl (by decide) rfl (fun ls hl => ?_)
          refine lv_aload_n hx hb dX0_addLeg_67 rfl (lv_at hl 1 rfl) ?_
          refine C0.get hF hX 0 (by decide) rfl rfl kf_RX0_9 dX0_addLeg_68 ?_
          refine lv_iload hx hb dX0_addLeg_71 (lv_at hl 0 rfl) ?_
          refine lv_iload_n hx hb dX0_addLeg_73 rfl (lv_at hl 2 rfl) ?_
          refine C0.st_v0 hF hX hS N (by omega) rfl dX0_addLeg_74 (fun H locs hX hS => ?_)
          refine lv_aload_n hx hb dX0_addLeg_75 rfl (lv_at hl 1 rfl) ?_
          refine C0.get hF hX 1 (by decide) rfl rfl kf_RX0_13 dX0_addLeg_76 ?_
          refine lv_iload hx hb dX0_addLeg_79 (lv_at hl 0 rfl) ?_
          refine lv_iload_n hx hb dX0_addLeg_81 rfl (lv_at hl 3 rfl) ?_
          refine C0.st_v1 hF hX hS N (by omega) rfl dX0_addLeg_82 (fun H locs hX hS => ?_)
          refine lv_aload_n hx hb dX0_addLeg_83 rfl (lv_at hl 1 rfl) ?_
          refine C0.get hF hX 2 (by decide) rfl rfl kf_RX0_16 dX0_addLeg_84 ?_
          refine lv_iload hx hb dX0_addLeg_87 (lv_at hl 0 rfl) ?_
          refine lv_iload_n hx hb dX0_addLeg_89 rfl (lv_at hl 4 rfl) ?_
          refine C0.st_v2 hF hX hS N (by omega) rfl dX0_addLeg_90 (fun H locs hX hS => ?_)
          refine lv_aload_n hx hb dX0_addLeg_91 rfl (lv_at hl 1 rfl) ?_
          refine C0.get hF hX 3 (by decide) rfl rfl kf_RX0_19 dX0_addLeg_92 ?_
          refine lv_iload hx hb dX0_addLeg_95 (lv_at hl 0 rfl) ?_
          refine lv_iconst (v := 0) hx hb dX0_addLeg_97 (by decide) ?_
          refine C0.st_mk_false hF hX hS N (by omega) rfl rfl dX0_addLeg_98 (fun H locs hX hS => ?_)
          refine lv_aload_n hx hb dX0_addLeg_99 rfl (lv_at hl 1 rfl) ?_
          refine lv_iload hx hb dX0_addLeg_100 (lv_at hl 0 rfl) ?_
          refine lv_iconst (v := 1) hx hb dX0_addLeg_102 (by decide) ?_
          refine lv_iadd hx hb dX0_addLeg_103 ?_
          refine topI (show ((nI N) + 1) = nI (N + 1) from nI_1 N) ?_
          refine C0.put_n hF hX hS kf_RX0_59 dX0_addLeg_104 (fun H locs hX hS => ?_)
          refine lv_aload_n hx hb dX0_addLeg_107 rfl (lv_at hl 1 rfl) ?_
          refine lv_iload hx hb dX0_addLeg_108 (lv_at hl 0 rfl) ?_
          refine wVv (As := [.int (nI N)]) (rest := []) hF (mX0_follow N (addV_ok hok hN16 he hj10) (addV_der hde) (by omega)) (Mv.and C0.mv ST.mv) (fun _ => C0.mv) ⟨hX, ST.kept hZ0 hS.2.1⟩ (C0.rc hX) jyX0_follow kl_RX0_67 ⟨rfl, rfl⟩ ⟨Nat.le_of_ble_eq_true rfl, Nat.le_of_ble_eq_true rfl⟩ rfl hl.1 rfl (Nat.le_of_ble_eq_true rfl) ⟨Nat.zero_le _, Nat.zero_le _⟩ hS (fun _ _ h => h) (fun _ h => h) dX0_addLeg_110 (fun u H locs hp hX hz hk hS => ?_)
          obtain ⟨w1, hu9⟩ : ∃ z, z = u := ⟨_, rfl⟩
          rw [← hu9] at hX hp
          have hde1 := hp
          clear hu9
          refine lv_iload hx hb dX0_addLeg_113 (lv_at hl 0 rfl) ?_
          exact W.iret hx hb hr (fun t ht hW => ⟨⟨_, w1, rfl, ⟨rfl, hde1⟩, wEnd C0.mv hX ht hW⟩, hS.F ht⟩) hS.2.2 dX0_addLeg_115
        · have c48n : ¬ N < 16 := fun h9 => c48 ((nI_ltI (a := N) (b := 16) (by omega) (by omega)).mpr h9)
          exact absurd hN16 c48n
      · have c29b := b2i_f c29
        exact absurd (in10_nI hj10) (by rw [c29b]; decide)
    · exact absurd hl9 c12
set_option maxHeartbeats 4000000 in
set_option maxRecDepth 100000 in
theorem mX0_strikeLeg (M : Nat) (hM : M < 16) : Met l yX0_strikeLeg (wm yX0_strikeLeg cX0_strikeLeg 1 (some .int)) ({ frames := 0, cells := 0, slots := 0, locals := 0 } : Room) (va_Pc [.ref (q 0)] (fun U => C0 D cyI cyZ q (nI (M + 1)) st v mk w U U.heap)) (va_Qi (fun (r : Int32) (u : Unit) => r = v 2 M) (fun u U => (fun (u : Unit) => (C0 D cyI cyZ q (nI M) st v mk w : State → Heap → Prop)) u U U.heap) (own 10 q)) 0 0 (own 10 q) := by
  refine mt (by decide) (Nat.le_of_ble_eq_true rfl) ?_
  intro p ev s m below meth c ls hF hr hlocks hnm hX hl
  have hF : CallFix p m c cX0_strikeLeg 1 s _ wA RX0 := hF
  obtain ⟨hx, hb, hml, hown, hts⟩ := id hF
  have hX : C0 D cyI cyZ q (nI (M + 1)) st v mk w s s.heap := hX
  have hl : lv_has ls 1 [(0, .ref (q 0))] := hl
  have hS : va_S (own 10 q) s.heap s.heap [] := va_S.rf
  refine lv_aload_n hx hb dX0_strikeLeg_0 rfl (lv_at hl 0 rfl) ?_
  refine C0.get hF hX 5 (by decide) rfl rfl kf_RX0_59 dX0_strikeLeg_1 ?_
  refine lv_if_gt (tgt := 17) hx hb dX0_strikeLeg_4 (by decide) (fun c4 => ?_) (fun c4 => ?_)
  · have c4n : 0 < (M + 1) := (nI_ltI (a := 0) (b := (M + 1)) (by omega) (by omega)).mp c4
    refine lv_aload_n hx hb dX0_strikeLeg_17 rfl (lv_at hl 0 rfl) ?_
    refine lv_aload_n hx hb dX0_strikeLeg_18 rfl (lv_at hl 0 rfl) ?_
    refine C0.get hF hX 5 (by decide) rfl rfl kf_RX0_59 dX0_strikeLeg_19 ?_
    refine lv_iconst (v := 1) hx hb dX0_strikeLeg_22 (by decide) ?_
    refine lv_isub hx hb dX0_strikeLeg_23 ?_
    refine topI (show ((nI (M + 1)) - 1) = nI M from nI_pred M) ?_
    refine C0.put_n hF hX hS kf_RX0_59 dX0_strikeLeg_24 (fun H locs hX hS => ?_)
    refine lv_aload_n hx hb dX0_strikeLeg_27 rfl (lv_at hl 0 rfl) ?_
    refine C0.get hF hX 2 (by decide) rfl rfl kf_RX0_16 dX0_strikeLeg_28 ?_
    refine lv_aload_n hx hb dX0_strikeLeg_31 rfl (lv_at hl 0 rfl) ?_
    refine C0.get hF hX 5 (by decide) rfl rfl kf_RX0_59 dX0_strikeLeg_32 ?_
    refine aldI hF hX.2.1 hX.1 3 0 rfl rfl M (by omega) (by decide) rfl dX0_strikeLeg_35 ?_
    exact W.iret hx hb hr (fun t ht hW => ⟨⟨_, (), rfl, rfl, wEnd C0.mv hX ht hW⟩, hS.F ht⟩) hS.2.2 dX0_strikeLeg_36
  · have c4n : ¬ 0 < (M + 1) := fun h9 => c4 ((nI_ltI (a := 0) (b := (M + 1)) (by omega) (by omega)).mpr h9)
    exact absurd c4n (by omega)
set_option maxHeartbeats 4000000 in
set_option maxRecDepth 100000 in
theorem mX0_bend (hok : Ok N st v) (hde : Der N st v w) (i e : Nat) (hi : i < N) (he : e < 7) : Met l yX0_bend (wm yX0_bend cX0_bend 4 (some .int)) ({ frames := 3, cells := 0, slots := 0, locals := 65 } : Room) (va_Pc [.ref (q 0), .int (nI i), .int (nI e - 3)] (fun U => (fun U H => C0 D cyI cyZ q (nI N) st v mk w U H ∧ (ST t1 t2 (own 10 q)) U H : State → Heap → Prop) U U.heap)) (va_Qi (fun (r : Int32) (u : (Nat → Bool) × (Nat → Nat → Int32)) => r = v 0 i ∧ (∀ k, k < N → u.1 k = false) ∧ Der N st (va_up v 0 (upd (v 0) i (nI e - 3))) u.2) (fun u U => (fun (u : (Nat → Bool) × (Nat → Nat → Int32)) => (C0 D cyI cyZ q (nI N) st (va_up v 0 (upd (v 0) i (nI e - 3))) u.1 u.2 : State → Heap → Prop)) u U U.heap) (own 10 q)) 0 0 (own 10 q) := by
  refine mt (by decide) (Nat.le_of_ble_eq_true rfl) ?_
  intro p ev s m below meth c ls hF hr hlocks hnm hX hl
  have hF : CallFix p m c cX0_bend 4 s _ wA RX0 := hF
  obtain ⟨hx, hb, hml, hown, hts⟩ := id hF
  have hZ0 : (ST t1 t2 (own 10 q)) s s.heap := hX.2
  have hX : C0 D cyI cyZ q (nI N) st v mk w s s.heap := hX.1
  have hl : lv_has ls 4 [(0, .ref (q 0)), (1, .int (nI i)), (2, .int (nI e - 3))] := hl
  have hS : va_S (own 10 q) s.heap s.heap [] := va_S.rf
  have hN := hok.1
  refine lv_aload_n hx hb dX0_bend_0 rfl (lv_at hl 0 rfl) ?_
  refine lv_iload_n hx hb dX0_bend_1 rfl (lv_at hl 1 rfl) ?_
  refine cVv (As := [.int (nI i)]) (rest := []) hF (mX0_checkLeg i (by omega) (by omega)) C0.mv hX (C0.rc hX) jyX0_checkLeg kl_RX0_72 ⟨rfl, rfl⟩ ⟨Nat.le_of_ble_eq_true rfl, Nat.le_of_ble_eq_true rfl⟩ rfl hl.1 rfl (Nat.le_of_ble_eq_true rfl) ⟨Nat.zero_le _, Nat.zero_le _⟩ dX0_bend_2 ?_
  refine lv_iload_n hx hb dX0_bend_5 rfl (lv_at hl 2 rfl) ?_
  refine cSv (As := [.int (nI e - 3)]) (rest := []) hF (mX0_checkTurn e he) Mv.const trivial jyX0_checkTurn kl_RX0_42 ⟨rfl, rfl⟩ ⟨Nat.le_of_ble_eq_true rfl, Nat.le_of_ble_eq_true rfl⟩ rfl hl.1 rfl (Nat.le_of_ble_eq_true rfl) ⟨Nat.zero_le _, Nat.zero_le _⟩ dX0_bend_6 ?_
  refine lv_aload_n hx hb dX0_bend_9 rfl (lv_at hl 0 rfl) ?_
  refine C0.get hF hX 0 (by decide) rfl rfl kf_RX0_9 dX0_bend_10 ?_
  refine lv_iload_n hx hb dX0_bend_13 rfl (lv_at hl 1 rfl) ?_
  refine aldI hF hX.2.1 hX.1 1 0 rfl rfl i (by omega) (by decide) rfl dX0_bend_14 ?_
  refine lv_istore_n (lv' := [(3, .int (v 0 i)), (0, .ref (q 0)), (1, .int (nI i)), (2, .int (nI e - 3))]) hx hb dX0_bend_15 rfl hl (by decide) rfl (fun ls hl => ?_)
  refine lv_aload_n hx hb dX0_bend_16 rfl (lv_at hl 1 rfl) ?_
  refine C0.get hF hX 0 (by decide) rfl rfl kf_RX0_9 dX0_bend_17 ?_
  refine lv_iload_n hx hb dX0_bend_20 rfl (lv_at hl 2 rfl) ?_
  refine lv_iload_n hx hb dX0_bend_21 rfl (lv_at hl 3 rfl) ?_
  refine C0.st_v0 hF hX hS i (by omega) rfl dX0_bend_22 (fun H locs hX hS => ?_)
  refine lv_aload_n hx hb dX0_bend_23 rfl (lv_at hl 1 rfl) ?_
  refine lv_iload_n hx hb dX0_bend_24 rfl (lv_at hl 2 rfl) ?_
  refine wVv (As := [.int (nI i)]) (rest := []) hF (mX0_follow i (bend_ok hok he) (bend_der (der_le hde (by omega))) (by omega)) (Mv.and C0.mv ST.mv) (fun _ => C0.mv) ⟨hX, ST.kept hZ0 hS.2.1⟩ (C0.rc hX) jyX0_follow kl_RX0_67 ⟨rfl, rfl⟩ ⟨Nat.le_of_ble_eq_true rfl, Nat.le_of_ble_eq_true rfl⟩ rfl hl.1 rfl (Nat.le_of_ble_eq_true rfl) ⟨Nat.zero_le _, Nat.zero_le _⟩ hS (fun _ _ h => h) (fun _ h => h) dX0_bend_25 (fun u H locs hp hX hz hk hS => ?_)
  obtain ⟨w1, hu9⟩ : ∃ z, z = u := ⟨_, rfl⟩
  rw [← hu9] at hX hp
  have hde1 := hp
  clear hu9
  refine lv_aload_n hx hb dX0_bend_28 rfl (lv_at hl 1 rfl) ?_
  refine wVv (As := []) (rest := []) hF (mX0_dropMarks (by omega)) C0.mv (fun _ => C0.mv) hX (C0.rc hX) jyX0_dropMarks kl_RX0_75 ⟨rfl, rfl⟩ ⟨Nat.le_of_ble_eq_true rfl, Nat.le_of_ble_eq_true rfl⟩ rfl hl.1 rfl (Nat.le_of_ble_eq_true rfl) ⟨Nat.zero_le _, Nat.zero_le _⟩ hS (fun _ _ h => h) (fun _ h => h) dX0_bend_29 (fun u H locs hp hX hz hk hS => ?_)
  obtain ⟨mk1, hu9⟩ : ∃ z, z = u := ⟨_, rfl⟩
  rw [← hu9] at hX hp
  have hmk1 := hp
  clear hu9
  refine lv_iload_n hx hb dX0_bend_32 rfl (lv_at hl 0 rfl) ?_
  exact W.iret hx hb hr (fun t ht hW => ⟨⟨_, (mk1, w1), rfl, ⟨rfl, hmk1, hde1⟩, wEnd C0.mv hX ht hW⟩, hS.F ht⟩) hS.2.2 dX0_bend_33
set_option maxHeartbeats 4000000 in
set_option maxRecDepth 100000 in
theorem mX0_setWord (hN : N ≤ 16) (j x : Nat) (hj10 : j < 10) (hx10 : x < 10) : Met l yX0_setWord (wm yX0_setWord cX0_setWord 4 (some .int)) ({ frames := 2, cells := 0, slots := 0, locals := 40 } : Room) (va_Pc [.ref (q 0), .int (nI j), .int (nI x)] (fun U => C0 D cyI cyZ q (nI N) st v mk w U U.heap)) (va_Qi (fun (r : Int32) (u : Nat → Bool) => r = v 3 j ∧ (∀ k, k < N → u k = false)) (fun u U => (fun (u : Nat → Bool) => (C0 D cyI cyZ q (nI N) st (va_up v 3 (upd (v 3) j (nI x))) u w : State → Heap → Prop)) u U U.heap) (own 10 q)) 0 0 (own 10 q) := by
  refine mt (by decide) (Nat.le_of_ble_eq_true rfl) ?_
  intro p ev s m below meth c ls hF hr hlocks hnm hX hl
  have hF : CallFix p m c cX0_setWord 4 s _ wA RX0 := hF
  obtain ⟨hx, hb, hml, hown, hts⟩ := id hF
  have hX : C0 D cyI cyZ q (nI N) st v mk w s s.heap := hX
  have hl : lv_has ls 4 [(0, .ref (q 0)), (1, .int (nI j)), (2, .int (nI x))] := hl
  have hS : va_S (own 10 q) s.heap s.heap [] := va_S.rf
  refine lv_iload_n hx hb dX0_setWord_0 rfl (lv_at hl 1 rfl) ?_
  refine cSv (As := [.int (nI j)]) (rest := []) hF (mX0_checkLandmark j (by omega)) Mv.const trivial jyX0_checkLandmark kl_RX0_78 ⟨rfl, rfl⟩ ⟨Nat.le_of_ble_eq_true rfl, Nat.le_of_ble_eq_true rfl⟩ rfl hl.1 rfl (Nat.le_of_ble_eq_true rfl) ⟨Nat.zero_le _, Nat.zero_le _⟩ dX0_setWord_1 ?_
  refine lv_iload_n hx hb dX0_setWord_4 rfl (lv_at hl 2 rfl) ?_
  refine cSi (As := [.int (nI x)]) (rest := []) hF (mX0_isWord (nI x)) Mv.const trivial jyX0_isWord kl_RX0_81 ⟨rfl, rfl⟩ ⟨Nat.le_of_ble_eq_true rfl, Nat.le_of_ble_eq_true rfl⟩ rfl hl.1 rfl (Nat.le_of_ble_eq_true rfl) ⟨Nat.zero_le _, Nat.zero_le _⟩ dX0_setWord_5 (fun r hr9 => ?_)
  subst hr9
  refine lv_if_ne (tgt := 21) hx hb dX0_setWord_8 (by decide) (fun c8 => ?_) (fun c8 => ?_)
  · have c8b := b2i_t c8
    refine lv_aload_n hx hb dX0_setWord_21 rfl (lv_at hl 0 rfl) ?_
    refine C0.get hF hX 4 (by decide) rfl rfl kf_RX0_23 dX0_setWord_22 ?_
    refine lv_iload_n hx hb dX0_setWord_25 rfl (lv_at hl 1 rfl) ?_
    refine aldI hF hX.2.1 hX.1 5 0 rfl rfl j (by omega) (by decide) rfl dX0_setWord_26 ?_
    refine lv_istore_n (lv' := [(3, .int (v 3 j)), (0, .ref (q 0)), (1, .int (nI j)), (2, .int (nI x))]) hx hb dX0_setWord_27 rfl hl (by decide) rfl (fun ls hl => ?_)
    refine lv_aload_n hx hb dX0_setWord_28 rfl (lv_at hl 1 rfl) ?_
    refine C0.get hF hX 4 (by decide) rfl rfl kf_RX0_23 dX0_setWord_29 ?_
    refine lv_iload_n hx hb dX0_setWord_32 rfl (lv_at hl 2 rfl) ?_
    refine lv_iload_n hx hb dX0_setWord_33 rfl (lv_at hl 3 rfl) ?_
    refine C0.st_v3 hF hX hS j (by omega) rfl dX0_setWord_34 (fun H locs hX hS => ?_)
    refine lv_aload_n hx hb dX0_setWord_35 rfl (lv_at hl 1 rfl) ?_
    refine wVv (As := []) (rest := []) hF (mX0_dropMarks (by omega)) C0.mv (fun _ => C0.mv) hX (C0.rc hX) jyX0_dropMarks kl_RX0_75 ⟨rfl, rfl⟩ ⟨Nat.le_of_ble_eq_true rfl, Nat.le_of_ble_eq_true rfl⟩ rfl hl.1 rfl (Nat.le_of_ble_eq_true rfl) ⟨Nat.zero_le _, Nat.zero_le _⟩ hS (fun _ _ h => h) (fun _ h => h) dX0_setWord_36 (fun u H locs hp hX hz hk hS => ?_)
    obtain ⟨mk1, hu9⟩ : ∃ z, z = u := ⟨_, rfl⟩
    rw [← hu9] at hX hp
    have hmk1 := hp
    clear hu9
    refine lv_iload_n hx hb dX0_setWord_39 rfl (lv_at hl 0 rfl) ?_
    exact W.iret hx hb hr (fun t ht hW => ⟨⟨_, mk1, rfl, ⟨rfl, hmk1⟩, wEnd C0.mv hX ht hW⟩, hS.F ht⟩) hS.2.2 dX0_setWord_40
  · have c8b := b2i_f c8
    exact absurd (in10_nI hx10) (by rw [c8b]; decide)
set_option maxHeartbeats 4000000 in
set_option maxRecDepth 100000 in
theorem mX0_setStep (hok : Ok N st v) (x : Nat) (hx4 : x < 4) : Met l yX0_setStep (wm yX0_setStep cX0_setStep 3 (some .int)) ({ frames := 3, cells := 0, slots := 0, locals := 65 } : Room) (va_Pc [.ref (q 0), .int (nI (x + 1))] (fun U => (fun U H => C0 D cyI cyZ q (nI N) st v mk w U H ∧ (ST t1 t2 (own 10 q)) U H : State → Heap → Prop) U U.heap)) (va_Qi (fun (r : Int32) (u : (Nat → Bool) × (Nat → Nat → Int32)) => r = st ∧ (∀ k, k < N → u.1 k = false) ∧ Der N (nI (x + 1)) v u.2) (fun u U => (fun (u : (Nat → Bool) × (Nat → Nat → Int32)) => (C0 D cyI cyZ q (nI N) (nI (x + 1)) v u.1 u.2 : State → Heap → Prop)) u U U.heap) (own 10 q)) 0 0 (own 10 q) := by
  refine mt (by decide) (Nat.le_of_ble_eq_true rfl) ?_
  intro p ev s m below meth c ls hF hr hlocks hnm hX hl
  have hF : CallFix p m c cX0_setStep 3 s _ wA RX0 := hF
  obtain ⟨hx, hb, hml, hown, hts⟩ := id hF
  have hZ0 : (ST t1 t2 (own 10 q)) s s.heap := hX.2
  have hX : C0 D cyI cyZ q (nI N) st v mk w s s.heap := hX.1
  have hl : lv_has ls 3 [(0, .ref (q 0)), (1, .int (nI (x + 1)))] := hl
  have hS : va_S (own 10 q) s.heap s.heap [] := va_S.rf
  have hN := hok.1
  refine lv_iload_n hx hb dX0_setStep_0 rfl (lv_at hl 1 rfl) ?_
  refine lv_iconst (v := 1) hx hb dX0_setStep_1 (by decide) ?_
  refine lv_icmp_lt (tgt := 10) hx hb dX0_setStep_2 (by decide) (fun c2 => ?_) (fun c2 => ?_)
  · have c2n : (x + 1) < 1 := (nI_ltI (a := (x + 1)) (b := 1) (by omega) (by omega)).mp c2
    exact absurd c2n (by omega)
  · have c2n : ¬ (x + 1) < 1 := fun h9 => c2 ((nI_ltI (a := (x + 1)) (b := 1) (by omega) (by omega)).mpr h9)
    refine lv_iload_n hx hb dX0_setStep_5 rfl (lv_at hl 1 rfl) ?_
    refine lv_iconst (v := 4) hx hb dX0_setStep_6 (by decide) ?_
    refine lv_icmp_le (tgt := 20) hx hb dX0_setStep_7 (by decide) (fun c7 => ?_) (fun c7 => ?_)
    · have c7n : (x + 1) ≤ 4 := (nI_leI (a := (x + 1)) (b := 4) (by omega) (by omega)).mp c7
      refine lv_aload_n hx hb dX0_setStep_20 rfl (lv_at hl 0 rfl) ?_
      refine C0.get hF hX 6 (by decide) rfl rfl kf_RX0_38 dX0_setStep_21 ?_
      refine lv_istore_n (lv' := [(2, .int st), (0, .ref (q 0)), (1, .int (nI (x + 1)))]) hx hb dX0_setStep_24 rfl hl (by decide) rfl (fun ls hl => ?_)
      refine lv_aload_n hx hb dX0_setStep_25 rfl (lv_at hl 1 rfl) ?_
      refine lv_iload_n hx hb dX0_setStep_26 rfl (lv_at hl 2 rfl) ?_
      refine C0.put_st hF hX hS kf_RX0_38 dX0_setStep_27 (fun H locs hX hS => ?_)
      refine lv_aload_n hx hb dX0_setStep_30 rfl (lv_at hl 1 rfl) ?_
      refine lv_iconst (v := (nI 0)) hx hb dX0_setStep_31 (by decide) ?_
      refine wVv (As := [.int (nI 0)]) (rest := []) hF (mX0_follow 0 (show Ok N (nI (x + 1)) v from ⟨hok.1, ⟨x, hx4, rfl⟩, hok.2.2⟩) der_0 (by omega)) (Mv.and C0.mv ST.mv) (fun _ => C0.mv) ⟨hX, ST.kept hZ0 hS.2.1⟩ (C0.rc hX) jyX0_follow kl_RX0_67 ⟨rfl, rfl⟩ ⟨Nat.le_of_ble_eq_true rfl, Nat.le_of_ble_eq_true rfl⟩ rfl hl.1 rfl (Nat.le_of_ble_eq_true rfl) ⟨Nat.zero_le _, Nat.zero_le _⟩ hS (fun _ _ h => h) (fun _ h => h) dX0_setStep_32 (fun u H locs hp hX hz hk hS => ?_)
      obtain ⟨w1, hu9⟩ : ∃ z, z = u := ⟨_, rfl⟩
      rw [← hu9] at hX hp
      have hde1 := hp
      clear hu9
      refine lv_aload_n hx hb dX0_setStep_35 rfl (lv_at hl 1 rfl) ?_
      refine wVv (As := []) (rest := []) hF (mX0_dropMarks (by omega)) C0.mv (fun _ => C0.mv) hX (C0.rc hX) jyX0_dropMarks kl_RX0_75 ⟨rfl, rfl⟩ ⟨Nat.le_of_ble_eq_true rfl, Nat.le_of_ble_eq_true rfl⟩ rfl hl.1 rfl (Nat.le_of_ble_eq_true rfl) ⟨Nat.zero_le _, Nat.zero_le _⟩ hS (fun _ _ h => h) (fun _ h => h) dX0_setStep_36 (fun u H locs hp hX hz hk hS => ?_)
      obtain ⟨mk1, hu9⟩ : ∃ z, z = u := ⟨_, rfl⟩
      rw [← hu9] at hX hp
      have hmk1 := hp
      clear hu9
      refine lv_iload_n hx hb dX0_setStep_39 rfl (lv_at hl 0 rfl) ?_
      exact W.iret hx hb hr (fun t ht hW => ⟨⟨_, (mk1, w1), rfl, ⟨rfl, hmk1, hde1⟩, wEnd C0.mv hX ht hW⟩, hS.F ht⟩) hS.2.2 dX0_setStep_40
    · have c7n : ¬ (x + 1) ≤ 4 := fun h9 => c7 ((nI_leI (a := (x + 1)) (b := 4) (by omega) (by omega)).mpr h9)
      exact absurd c7n (by omega)
set_option maxHeartbeats 4000000 in
set_option maxRecDepth 100000 in
theorem mX0_mend (hok : Ok N st v) (hde : Der N st v w) (i : Nat) (hi : i < N) (ha : amb v st mk i = true) : Met l yX0_mend (wm yX0_mend cX0_mend 2 (some .int)) ({ frames := 5, cells := 0, slots := 0, locals := 110 } : Room) (va_Pc [.ref (q 0), .int (nI i)] (fun U => C0 D cyI cyZ q (nI N) st v mk w U U.heap)) (va_Qi (fun (r : Int32) (u : Unit) => r = rrn v st i) (fun u U => (fun (u : Unit) => (C0 D cyI cyZ q (nI N) st v (va_up mk i true) w : State → Heap → Prop)) u U U.heap) (own 10 q)) 0 0 (own 10 q) := by
  refine mt (by decide) (Nat.le_of_ble_eq_true rfl) ?_
  intro p ev s m below meth c ls hF hr hlocks hnm hX hl
  have hF : CallFix p m c cX0_mend 2 s _ wA RX0 := hF
  obtain ⟨hx, hb, hml, hown, hts⟩ := id hF
  have hX : C0 D cyI cyZ q (nI N) st v mk w s s.heap := hX
  have hl : lv_has ls 2 [(0, .ref (q 0)), (1, .int (nI i))] := hl
  have hS : va_S (own 10 q) s.heap s.heap [] := va_S.rf
  have hN := hok.1
  refine lv_aload_n hx hb dX0_mend_0 rfl (lv_at hl 0 rfl) ?_
  refine lv_iload_n hx hb dX0_mend_1 rfl (lv_at hl 1 rfl) ?_
  refine cVv (As := [.int (nI i)]) (rest := []) hF (mX0_checkLeg i (by omega) (by omega)) C0.mv hX (C0.rc hX) jyX0_checkLeg kl_RX0_72 ⟨rfl, rfl⟩ ⟨Nat.le_of_ble_eq_true rfl, Nat.le_of_ble_eq_true rfl⟩ rfl hl.1 rfl (Nat.le_of_ble_eq_true rfl) ⟨Nat.zero_le _, Nat.zero_le _⟩ dX0_mend_2 ?_
  refine lv_aload_n hx hb dX0_mend_5 rfl (lv_at hl 0 rfl) ?_
  refine lv_iload_n hx hb dX0_mend_6 rfl (lv_at hl 1 rfl) ?_
  refine cVi (As := [.int (nI i)]) (rest := []) hF (mX0_isAmbiguous hok hde i (by omega)) C0.mv hX (C0.rc hX) jyX0_isAmbiguous kl_RX0_139 ⟨rfl, rfl⟩ ⟨Nat.le_of_ble_eq_true rfl, Nat.le_of_ble_eq_true rfl⟩ rfl hl.1 rfl (Nat.le_of_ble_eq_true rfl) ⟨Nat.zero_le _, Nat.zero_le _⟩ dX0_mend_7 (fun r hr9 => ?_)
  subst hr9
  refine lv_if_ne (tgt := 23) hx hb dX0_mend_10 (by decide) (fun c10 => ?_) (fun c10 => ?_)
  · have c10b := b2i_t c10
    refine lv_aload_n hx hb dX0_mend_23 rfl (lv_at hl 0 rfl) ?_
    refine C0.get hF hX 3 (by decide) rfl rfl kf_RX0_19 dX0_mend_24 ?_
    refine lv_iload_n hx hb dX0_mend_27 rfl (lv_at hl 1 rfl) ?_
    refine lv_iconst (v := 1) hx hb dX0_mend_28 (by decide) ?_
    refine C0.st_mk_true hF hX hS i (by omega) rfl rfl dX0_mend_29 (fun H locs hX hS => ?_)
    refine lv_aload_n hx hb dX0_mend_30 rfl (lv_at hl 0 rfl) ?_
    refine lv_iload_n hx hb dX0_mend_31 rfl (lv_at hl 1 rfl) ?_
    refine cVi (As := [.int (nI i)]) (rest := []) hF (mX0_rightReading hok hde i (by omega)) C0.mv hX (C0.rc hX) jyX0_rightReading kl_RX0_144 ⟨rfl, rfl⟩ ⟨Nat.le_of_ble_eq_true rfl, Nat.le_of_ble_eq_true rfl⟩ rfl hl.1 rfl (Nat.le_of_ble_eq_true rfl) ⟨Nat.zero_le _, Nat.zero_le _⟩ dX0_mend_32 (fun r hr9 => ?_)
    subst hr9
    exact W.iret hx hb hr (fun t ht hW => ⟨⟨_, (), rfl, rfl, wEnd C0.mv hX ht hW⟩, hS.F ht⟩) hS.2.2 dX0_mend_35
  · have c10b := b2i_f c10
    exact absurd ha (by rw [c10b]; decide)
end P13
