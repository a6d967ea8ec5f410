section P14
variable {l : Launch} {D : va_G} {cyI cyZ : ClassId} {q : Nat → Nat} {N K : Nat} {n st th md : Int32} {v w : Nat → Nat → Int32} {mk : Nat → Bool}
set_option maxHeartbeats 4000000 in
set_option maxRecDepth 100000 in
theorem mX0_mendTo (hok : Ok N st v) (hde : Der N st v w) (w1 : Int32) (hw1 : ¬ w1 < 1) (hw2 : w1 ≤ 1000000) : Met l yX0_mendTo (wm yX0_mendTo cX0_mendTo 4 (some .int)) ({ frames := 6, cells := 0, slots := 0, locals := 133 } : Room) (va_Pc [.ref (q 0), .int w1] (fun U => C0 D cyI cyZ q (nI N) st v mk w U U.heap)) (va_Qi (fun (r : Int32) (u : Nat → Bool) => r = nI (mdF v st N (Int32.toInt64 w1) N 0 mk).1 ∧ u = (mdF v st N (Int32.toInt64 w1) N 0 mk).2) (fun u U => (fun (u : Nat → Bool) => (C0 D cyI cyZ q (nI N) st v u w : State → Heap → Prop)) u U U.heap) (own 10 q)) 0 0 (own 10 q) := by
  refine mt (by decide) (Nat.le_of_ble_eq_true rfl) ?_
  intro p ev s m below meth c ls hF hr hlocks hnm hX hl
  have hF : CallFix p m c cX0_mendTo 4 s _ wA RX0 := hF
  obtain ⟨hx, hb, hml, hown, hts⟩ := id hF
  have hX : C0 D cyI cyZ q (nI N) st v mk w s s.heap := hX
  have hl : lv_has ls 4 [(0, .ref (q 0)), (1, .int w1)] := hl
  have hS : va_S (own 10 q) s.heap s.heap [] := va_S.rf
  have hN := hok.1
  refine lv_iload_n hx hb dX0_mendTo_0 rfl (lv_at hl 1 rfl) ?_
  refine lv_iconst (v := 1) hx hb dX0_mendTo_1 (by decide) ?_
  refine lv_icmp_lt (tgt := 11) hx hb dX0_mendTo_2 (by decide) (fun c2 => ?_) (fun c2 => ?_)
  · exact absurd c2 hw1
  · refine lv_iload_n hx hb dX0_mendTo_5 rfl (lv_at hl 1 rfl) ?_
    refine lv_ldc hx hb hown (hts _ kk_RX0_147) dX0_mendTo_6 ?_
    refine lv_icmp_le (tgt := 21) hx hb dX0_mendTo_8 (by decide) (fun c8 => ?_) (fun c8 => ?_)
    · refine lv_iconst (v := 0) hx hb dX0_mendTo_21 (by decide) ?_
      refine lv_istore_n (lv' := [(2, .int 0), (0, .ref (q 0)), (1, .int w1)]) hx hb dX0_mendTo_22 rfl hl (by decide) rfl (fun ls hl => ?_)
      refine lpH2 (σ := Nat) (τ := Nat → Bool) (fun j m2 ls H locs => (j ≤ N ∧ mdF v st N (Int32.toInt64 w1) (N - j) j m2 = (mdF v st N (Int32.toInt64 w1) N 0 mk)) ∧ C0 D cyI cyZ q (nI N) st v m2 w s H ∧ va_S (own 10 q) s.heap H locs ∧ lv_has ls 4 [(0, .ref (q 0)), (1, .int w1), (2, .int (nI j))]) (fun j m2 => N - j) (fun j m2 ls H locs hI ih => ?_) (0) mk ⟨⟨Nat.zero_le _, rfl⟩, hX, hS, lv_sub hl [1, 2, 0] rfl⟩
      obtain ⟨hj, hX, hS, hl⟩ := hI
      refine lv_iload_n hx hb dX0_mendTo_23 rfl (lv_at hl 2 rfl) ?_
      refine lv_aload_n hx hb dX0_mendTo_24 rfl (lv_at hl 0 rfl) ?_
      refine C0.get hF hX 5 (by decide) rfl rfl kf_RX0_59 dX0_mendTo_25 ?_
      refine lv_icmp_ge (tgt := 65) hx hb dX0_mendTo_28 (by decide) (fun c28 => ?_) (fun c28 => ?_)
      · have c28n : N ≤ j := (nI_leI (a := N) (b := j) (by omega) (by omega)).mp c28
        have hE := (mdF_0 c28n).symm.trans hj.2
        refine lv_iload_n hx hb dX0_mendTo_65 rfl (lv_at hl 2 rfl) ?_
        exact W.iret hx hb hr (fun t ht hW => ⟨⟨_, m2, rfl, ⟨by rw [← hE], by rw [← hE]⟩, wEnd C0.mv hX ht hW⟩, hS.F ht⟩) hS.2.2 dX0_mendTo_66
      · have c28n : ¬ N ≤ j := fun h9 => c28 ((nI_leI (a := N) (b := j) (by omega) (by omega)).mpr h9)
        refine lv_aload_n hx hb dX0_mendTo_31 rfl (lv_at hl 0 rfl) ?_
        refine cVl (As := []) (rest := []) hF (mX0_ways hok hde) C0.mv hX (C0.rc hX) jyX0_ways kl_RX0_150 ⟨rfl, rfl⟩ ⟨Nat.le_of_ble_eq_true rfl, Nat.le_of_ble_eq_true rfl⟩ rfl hl.1 rfl (Nat.le_of_ble_eq_true rfl) ⟨Nat.zero_le _, Nat.zero_le _⟩ dX0_mendTo_32 (fun r hr9 => ?_)
        subst hr9
        refine lv_iload_n hx hb dX0_mendTo_35 rfl (lv_at hl 1 rfl) ?_
        refine lv_i2l hx hb dX0_mendTo_36 rfl ?_
        refine W.lcmp hx hb dX0_mendTo_37 ?_
        refine lv_if_le (tgt := 65) hx hb dX0_mendTo_38 (by decide) (fun c38 => ?_) (fun c38 => ?_)
        · have hE := (mdF_stop (fun h => absurd ((lg_cmp_le _ _).mp c38) (Int64.not_le.mpr h))).symm.trans hj.2
          refine lv_iload_n hx hb dX0_mendTo_65 rfl (lv_at hl 2 rfl) ?_
          exact W.iret hx hb hr (fun t ht hW => ⟨⟨_, m2, rfl, ⟨by rw [← hE], by rw [← hE]⟩, wEnd C0.mv hX ht hW⟩, hS.F ht⟩) hS.2.2 dX0_mendTo_66
        · refine lv_aload_n hx hb dX0_mendTo_41 rfl (lv_at hl 0 rfl) ?_
          refine cVi (As := []) (rest := []) hF (mX0_mostAmbiguous hok hde) C0.mv hX (C0.rc hX) jyX0_mostAmbiguous kl_RX0_154 ⟨rfl, rfl⟩ ⟨Nat.le_of_ble_eq_true rfl, Nat.le_of_ble_eq_true rfl⟩ rfl hl.1 rfl (Nat.le_of_ble_eq_true rfl) ⟨Nat.zero_le _, Nat.zero_le _⟩ dX0_mendTo_42 (fun r hr9 => ?_)
          subst hr9
          refine lv_istore_n (lv' := [(3, .int (optI (mst v st m2 N))), (0, .ref (q 0)), (1, .int w1), (2, .int (nI j))]) hx hb dX0_mendTo_45 rfl hl (by decide) rfl (fun ls hl => ?_)
          refine lv_iload_n hx hb dX0_mendTo_46 rfl (lv_at hl 0 rfl) ?_
          refine lv_if_ge (tgt := 52) hx hb dX0_mendTo_47 (by decide) (fun c47 => ?_) (fun c47 => ?_)
          · obtain ⟨b, hmb, hbN⟩ := optI_some c47
            refine lv_aload_n hx hb dX0_mendTo_52 rfl (lv_at hl 1 rfl) ?_
            refine C0.get hF hX 3 (by decide) rfl rfl kf_RX0_19 dX0_mendTo_53 ?_
            refine lv_iload_n hx hb dX0_mendTo_56 rfl (lv_at hl 0 rfl) ?_
            refine lv_iconst (v := 1) hx hb dX0_mendTo_57 (by decide) ?_
            refine C0.st_mk_true hF hX hS b (by omega) (by rw [hmb]; rfl) rfl dX0_mendTo_58 (fun H locs hX hS => ?_)
            refine lv_iinc (v := (nI (j + 1))) (lv' := [(2, .int (nI (j + 1))), (3, .int (optI (mst v st m2 N))), (0, .ref (q 0)), (1, .int w1)]) hx hb dX0_mendTo_59 hl (k := 3) rfl (nI_1 _) (by decide) rfl (fun ls hl => ?_)
            refine lv_goto (tgt := 23) hx hb dX0_mendTo_62 (by decide) ?_
            exact ih (j + 1) (va_up m2 b true) ls H locs (by omega) ⟨⟨by omega, (mdF_go (f := N - j) (by omega) ((lg_cmp_gt _ _).mp (Int32.not_le.mp c38)) hmb).symm.trans hj.2⟩, hX, hS, by exact lv_sub hl [2, 3, 0] rfl⟩
          · have hE := (mdF_none (optI_none hN c47)).symm.trans hj.2
            refine lv_iload_n hx hb dX0_mendTo_50 rfl (lv_at hl 3 rfl) ?_
            exact W.iret hx hb hr (fun t ht hW => ⟨⟨_, m2, rfl, ⟨by rw [← hE], by rw [← hE]⟩, wEnd C0.mv hX ht hW⟩, hS.F ht⟩) hS.2.2 dX0_mendTo_51
    · exact absurd hw2 c8
set_option maxHeartbeats 4000000 in
set_option maxRecDepth 100000 in
theorem mX0_digestOfLeg (hok : Ok N st v) (hde : Der N st v w) (d : Int64) (i : Nat) (hi : i < N) : Met l yX0_digestOfLeg (wm yX0_digestOfLeg cX0_digestOfLeg 6 (some .long)) ({ frames := 4, cells := 0, slots := 0, locals := 90 } : Room) (va_Pc [.ref (q 0), .long d, .int (nI i)] (fun U => C0 D cyI cyZ q (nI N) st v mk w U U.heap)) (vp_Sl (fun r => r = dgLeg v st mk d i)) 0 0 (fun _ => False) := by
  refine mt (by decide) (Nat.le_of_ble_eq_true rfl) ?_
  intro p ev s m below meth c ls hF hr hlocks hnm hX hl
  have hF : CallFix p m c cX0_digestOfLeg 6 s _ wA RX0 := hF
  obtain ⟨hx, hb, hml, hown, hts⟩ := id hF
  have hX : C0 D cyI cyZ q (nI N) st v mk w s s.heap := hX
  have hl : lv_has ls 6 [(0, .ref (q 0)), (1, .long d), (3, .int (nI i))] := hl
  have hN := hok.1
  refine lv_lload_n hx hb dX0_digestOfLeg_0 rfl (lv_at hl 1 rfl) ?_
  refine lv_lstore (lv' := [(4, .long d), (0, .ref (q 0)), (1, .long d), (3, .int (nI i))]) hx hb dX0_digestOfLeg_1 hl (by decide) rfl (fun ls hl => ?_)
  refine lv_lload hx hb dX0_digestOfLeg_3 (lv_at hl 0 rfl) ?_
  refine lv_aload_n hx hb dX0_digestOfLeg_5 rfl (lv_at hl 1 rfl) ?_
  refine lv_iload_n hx hb dX0_digestOfLeg_6 rfl (lv_at hl 3 rfl) ?_
  refine cVi (As := [.int (nI i)]) (rest := [.long d]) hF (mX0_turnOf hok hde i (by omega)) C0.mv hX (C0.rc hX) jyX0_turnOf kl_RX0_239 ⟨rfl, rfl⟩ ⟨Nat.le_of_ble_eq_true rfl, Nat.le_of_ble_eq_true rfl⟩ rfl hl.1 rfl (Nat.le_of_ble_eq_true rfl) ⟨Nat.zero_le _, Nat.zero_le _⟩ dX0_digestOfLeg_7 (fun r hr9 => ?_)
  subst hr9
  refine lv_i2l hx hb dX0_digestOfLeg_10 rfl ?_
  refine cSl (As := [.long d, .long (Int32.toInt64 (v 0 i))]) (rest := []) hF (mX0_digested d (Int32.toInt64 (v 0 i))) Mv.const trivial jyX0_digested kl_RX0_171 ⟨rfl, rfl⟩ ⟨Nat.le_of_ble_eq_true rfl, Nat.le_of_ble_eq_true rfl⟩ rfl hl.1 rfl (Nat.le_of_ble_eq_true rfl) ⟨Nat.zero_le _, Nat.zero_le _⟩ dX0_digestOfLeg_11 (fun r hr9 => ?_)
  subst hr9
  refine lv_lstore (lv' := [(4, .long (dg d (Int32.toInt64 (v 0 i)))), (0, .ref (q 0)), (1, .long d), (3, .int (nI i))]) hx hb dX0_digestOfLeg_14 hl (by decide) rfl (fun ls hl => ?_)
  refine lv_lload hx hb dX0_digestOfLeg_16 (lv_at hl 0 rfl) ?_
  refine lv_aload_n hx hb dX0_digestOfLeg_18 rfl (lv_at hl 1 rfl) ?_
  refine lv_iload_n hx hb dX0_digestOfLeg_19 rfl (lv_at hl 3 rfl) ?_
  refine cVi (As := [.int (nI i)]) (rest := [.long (dg d (Int32.toInt64 (v 0 i)))]) hF (mX0_headingOf hok hde i (by omega)) C0.mv hX (C0.rc hX) jyX0_headingOf kl_RX0_242 ⟨rfl, rfl⟩ ⟨Nat.le_of_ble_eq_true rfl, Nat.le_of_ble_eq_true rfl⟩ rfl hl.1 rfl (Nat.le_of_ble_eq_true rfl) ⟨Nat.zero_le _, Nat.zero_le _⟩ dX0_digestOfLeg_20 (fun r hr9 => ?_)
  subst hr9
  refine lv_i2l hx hb dX0_digestOfLeg_23 rfl ?_
  refine cSl (As := [.long (dg d (Int32.toInt64 (v 0 i))), .long (Int32.toInt64 (hd (v 0) (i + 1)))]) (rest := []) hF (mX0_digested (dg d (Int32.toInt64 (v 0 i))) (Int32.toInt64 (hd (v 0) (i + 1)))) Mv.const trivial jyX0_digested kl_RX0_171 ⟨rfl, rfl⟩ ⟨Nat.le_of_ble_eq_true rfl, Nat.le_of_ble_eq_true rfl⟩ rfl hl.1 rfl (Nat.le_of_ble_eq_true rfl) ⟨Nat.zero_le _, Nat.zero_le _⟩ dX0_digestOfLeg_24 (fun r hr9 => ?_)
  subst hr9
  refine lv_lstore (lv' := [(4, .long (dg (dg d (Int32.toInt64 (v 0 i))) (Int32.toInt64 (hd (v 0) (i + 1))))), (0, .ref (q 0)), (1, .long d), (3, .int (nI i))]) hx hb dX0_digestOfLeg_27 hl (by decide) rfl (fun ls hl => ?_)
  refine lv_lload hx hb dX0_digestOfLeg_29 (lv_at hl 0 rfl) ?_
  refine lv_aload_n hx hb dX0_digestOfLeg_31 rfl (lv_at hl 1 rfl) ?_
  refine lv_iload_n hx hb dX0_digestOfLeg_32 rfl (lv_at hl 3 rfl) ?_
  refine cVi (As := [.int (nI i)]) (rest := [.long (dg (dg d (Int32.toInt64 (v 0 i))) (Int32.toInt64 (hd (v 0) (i + 1))))]) hF (mX0_landmarkOf hok hde i (by omega)) C0.mv hX (C0.rc hX) jyX0_landmarkOf kl_RX0_245 ⟨rfl, rfl⟩ ⟨Nat.le_of_ble_eq_true rfl, Nat.le_of_ble_eq_true rfl⟩ rfl hl.1 rfl (Nat.le_of_ble_eq_true rfl) ⟨Nat.zero_le _, Nat.zero_le _⟩ dX0_digestOfLeg_33 (fun r hr9 => ?_)
  subst hr9
  refine lv_i2l hx hb dX0_digestOfLeg_36 rfl ?_
  refine cSl (As := [.long (dg (dg d (Int32.toInt64 (v 0 i))) (Int32.toInt64 (hd (v 0) (i + 1)))), .long (Int32.toInt64 (v 2 i))]) (rest := []) hF (mX0_digested (dg (dg d (Int32.toInt64 (v 0 i))) (Int32.toInt64 (hd (v 0) (i + 1)))) (Int32.toInt64 (v 2 i))) Mv.const trivial jyX0_digested kl_RX0_171 ⟨rfl, rfl⟩ ⟨Nat.le_of_ble_eq_true rfl, Nat.le_of_ble_eq_true rfl⟩ rfl hl.1 rfl (Nat.le_of_ble_eq_true rfl) ⟨Nat.zero_le _, Nat.zero_le _⟩ dX0_digestOfLeg_37 (fun r hr9 => ?_)
  subst hr9
  refine lv_lstore (lv' := [(4, .long (dg (dg (dg d (Int32.toInt64 (v 0 i))) (Int32.toInt64 (hd (v 0) (i + 1)))) (Int32.toInt64 (v 2 i)))), (0, .ref (q 0)), (1, .long d), (3, .int (nI i))]) hx hb dX0_digestOfLeg_40 hl (by decide) rfl (fun ls hl => ?_)
  refine lv_lload hx hb dX0_digestOfLeg_42 (lv_at hl 0 rfl) ?_
  refine lv_aload_n hx hb dX0_digestOfLeg_44 rfl (lv_at hl 1 rfl) ?_
  refine lv_iload_n hx hb dX0_digestOfLeg_45 rfl (lv_at hl 3 rfl) ?_
  refine cVi (As := [.int (nI i)]) (rest := [.long (dg (dg (dg d (Int32.toInt64 (v 0 i))) (Int32.toInt64 (hd (v 0) (i + 1)))) (Int32.toInt64 (v 2 i)))]) hF (mX0_noteOf hok hde i (by omega)) C0.mv hX (C0.rc hX) jyX0_noteOf kl_RX0_248 ⟨rfl, rfl⟩ ⟨Nat.le_of_ble_eq_true rfl, Nat.le_of_ble_eq_true rfl⟩ rfl hl.1 rfl (Nat.le_of_ble_eq_true rfl) ⟨Nat.zero_le _, Nat.zero_le _⟩ dX0_digestOfLeg_46 (fun r hr9 => ?_)
  subst hr9
  refine lv_i2l hx hb dX0_digestOfLeg_49 rfl ?_
  refine cSl (As := [.long (dg (dg (dg d (Int32.toInt64 (v 0 i))) (Int32.toInt64 (hd (v 0) (i + 1)))) (Int32.toInt64 (v 2 i))), .long (Int32.toInt64 (nt (v 0) st (i + 1)))]) (rest := []) hF (mX0_digested (dg (dg (dg d (Int32.toInt64 (v 0 i))) (Int32.toInt64 (hd (v 0) (i + 1)))) (Int32.toInt64 (v 2 i))) (Int32.toInt64 (nt (v 0) st (i + 1)))) Mv.const trivial jyX0_digested kl_RX0_171 ⟨rfl, rfl⟩ ⟨Nat.le_of_ble_eq_true rfl, Nat.le_of_ble_eq_true rfl⟩ rfl hl.1 rfl (Nat.le_of_ble_eq_true rfl) ⟨Nat.zero_le _, Nat.zero_le _⟩ dX0_digestOfLeg_50 (fun r hr9 => ?_)
  subst hr9
  refine lv_lstore (lv' := [(4, .long (dg (dg (dg (dg d (Int32.toInt64 (v 0 i))) (Int32.toInt64 (hd (v 0) (i + 1)))) (Int32.toInt64 (v 2 i))) (Int32.toInt64 (nt (v 0) st (i + 1))))), (0, .ref (q 0)), (1, .long d), (3, .int (nI i))]) hx hb dX0_digestOfLeg_53 hl (by decide) rfl (fun ls hl => ?_)
  refine lv_lload hx hb dX0_digestOfLeg_55 (lv_at hl 0 rfl) ?_
  refine lv_aload_n hx hb dX0_digestOfLeg_57 rfl (lv_at hl 1 rfl) ?_
  refine lv_iload_n hx hb dX0_digestOfLeg_58 rfl (lv_at hl 3 rfl) ?_
  refine cVi (As := [.int (nI i)]) (rest := [.long (dg (dg (dg (dg d (Int32.toInt64 (v 0 i))) (Int32.toInt64 (hd (v 0) (i + 1)))) (Int32.toInt64 (v 2 i))) (Int32.toInt64 (nt (v 0) st (i + 1))))]) hF (mX0_wordIn hok hde i (by omega)) C0.mv hX (C0.rc hX) jyX0_wordIn kl_RX0_251 ⟨rfl, rfl⟩ ⟨Nat.le_of_ble_eq_true rfl, Nat.le_of_ble_eq_true rfl⟩ rfl hl.1 rfl (Nat.le_of_ble_eq_true rfl) ⟨Nat.zero_le _, Nat.zero_le _⟩ dX0_digestOfLeg_59 (fun r hr9 => ?_)
  subst hr9
  refine lv_i2l hx hb dX0_digestOfLeg_62 rfl ?_
  refine cSl (As := [.long (dg (dg (dg (dg d (Int32.toInt64 (v 0 i))) (Int32.toInt64 (hd (v 0) (i + 1)))) (Int32.toInt64 (v 2 i))) (Int32.toInt64 (nt (v 0) st (i + 1)))), .long (Int32.toInt64 (wd v i))]) (rest := []) hF (mX0_digested (dg (dg (dg (dg d (Int32.toInt64 (v 0 i))) (Int32.toInt64 (hd (v 0) (i + 1)))) (Int32.toInt64 (v 2 i))) (Int32.toInt64 (nt (v 0) st (i + 1)))) (Int32.toInt64 (wd v i))) Mv.const trivial jyX0_digested kl_RX0_171 ⟨rfl, rfl⟩ ⟨Nat.le_of_ble_eq_true rfl, Nat.le_of_ble_eq_true rfl⟩ rfl hl.1 rfl (Nat.le_of_ble_eq_true rfl) ⟨Nat.zero_le _, Nat.zero_le _⟩ dX0_digestOfLeg_63 (fun r hr9 => ?_)
  subst hr9
  refine lv_lstore (lv' := [(4, .long (dg (dg (dg (dg (dg d (Int32.toInt64 (v 0 i))) (Int32.toInt64 (hd (v 0) (i + 1)))) (Int32.toInt64 (v 2 i))) (Int32.toInt64 (nt (v 0) st (i + 1)))) (Int32.toInt64 (wd v i)))), (0, .ref (q 0)), (1, .long d), (3, .int (nI i))]) hx hb dX0_digestOfLeg_66 hl (by decide) rfl (fun ls hl => ?_)
  refine lv_lload hx hb dX0_digestOfLeg_68 (lv_at hl 0 rfl) ?_
  refine lv_aload_n hx hb dX0_digestOfLeg_70 rfl (lv_at hl 1 rfl) ?_
  refine lv_iload_n hx hb dX0_digestOfLeg_71 rfl (lv_at hl 3 rfl) ?_
  refine cVi (As := [.int (nI i)]) (rest := [.long (dg (dg (dg (dg (dg d (Int32.toInt64 (v 0 i))) (Int32.toInt64 (hd (v 0) (i + 1)))) (Int32.toInt64 (v 2 i))) (Int32.toInt64 (nt (v 0) st (i + 1)))) (Int32.toInt64 (wd v i)))]) hF (mX0_readings hok hde i (by omega)) C0.mv hX (C0.rc hX) jyX0_readings kl_RX0_136 ⟨rfl, rfl⟩ ⟨Nat.le_of_ble_eq_true rfl, Nat.le_of_ble_eq_true rfl⟩ rfl hl.1 rfl (Nat.le_of_ble_eq_true rfl) ⟨Nat.zero_le _, Nat.zero_le _⟩ dX0_digestOfLeg_72 (fun r hr9 => ?_)
  subst hr9
  refine lv_i2l hx hb dX0_digestOfLeg_75 rfl ?_
  refine cSl (As := [.long (dg (dg (dg (dg (dg d (Int32.toInt64 (v 0 i))) (Int32.toInt64 (hd (v 0) (i + 1)))) (Int32.toInt64 (v 2 i))) (Int32.toInt64 (nt (v 0) st (i + 1)))) (Int32.toInt64 (wd v i))), .long (Int32.toInt64 (rdn v st i))]) (rest := []) hF (mX0_digested (dg (dg (dg (dg (dg d (Int32.toInt64 (v 0 i))) (Int32.toInt64 (hd (v 0) (i + 1)))) (Int32.toInt64 (v 2 i))) (Int32.toInt64 (nt (v 0) st (i + 1)))) (Int32.toInt64 (wd v i))) (Int32.toInt64 (rdn v st i))) Mv.const trivial jyX0_digested kl_RX0_171 ⟨rfl, rfl⟩ ⟨Nat.le_of_ble_eq_true rfl, Nat.le_of_ble_eq_true rfl⟩ rfl hl.1 rfl (Nat.le_of_ble_eq_true rfl) ⟨Nat.zero_le _, Nat.zero_le _⟩ dX0_digestOfLeg_76 (fun r hr9 => ?_)
  subst hr9
  refine lv_lstore (lv' := [(4, .long (dg (dg (dg (dg (dg (dg d (Int32.toInt64 (v 0 i))) (Int32.toInt64 (hd (v 0) (i + 1)))) (Int32.toInt64 (v 2 i))) (Int32.toInt64 (nt (v 0) st (i + 1)))) (Int32.toInt64 (wd v i))) (Int32.toInt64 (rdn v st i)))), (0, .ref (q 0)), (1, .long d), (3, .int (nI i))]) hx hb dX0_digestOfLeg_79 hl (by decide) rfl (fun ls hl => ?_)
  refine lv_lload hx hb dX0_digestOfLeg_81 (lv_at hl 0 rfl) ?_
  refine lv_aload_n hx hb dX0_digestOfLeg_83 rfl (lv_at hl 1 rfl) ?_
  refine lv_iload_n hx hb dX0_digestOfLeg_84 rfl (lv_at hl 3 rfl) ?_
  refine cVi (As := [.int (nI i)]) (rest := [.long (dg (dg (dg (dg (dg (dg d (Int32.toInt64 (v 0 i))) (Int32.toInt64 (hd (v 0) (i + 1)))) (Int32.toInt64 (v 2 i))) (Int32.toInt64 (nt (v 0) st (i + 1)))) (Int32.toInt64 (wd v i))) (Int32.toInt64 (rdn v st i)))]) hF (mX0_rightReading hok hde i (by omega)) C0.mv hX (C0.rc hX) jyX0_rightReading kl_RX0_144 ⟨rfl, rfl⟩ ⟨Nat.le_of_ble_eq_true rfl, Nat.le_of_ble_eq_true rfl⟩ rfl hl.1 rfl (Nat.le_of_ble_eq_true rfl) ⟨Nat.zero_le _, Nat.zero_le _⟩ dX0_digestOfLeg_85 (fun r hr9 => ?_)
  subst hr9
  refine lv_i2l hx hb dX0_digestOfLeg_88 rfl ?_
  refine cSl (As := [.long (dg (dg (dg (dg (dg (dg d (Int32.toInt64 (v 0 i))) (Int32.toInt64 (hd (v 0) (i + 1)))) (Int32.toInt64 (v 2 i))) (Int32.toInt64 (nt (v 0) st (i + 1)))) (Int32.toInt64 (wd v i))) (Int32.toInt64 (rdn v st i))), .long (Int32.toInt64 (rrn v st i))]) (rest := []) hF (mX0_digested (dg (dg (dg (dg (dg (dg d (Int32.toInt64 (v 0 i))) (Int32.toInt64 (hd (v 0) (i + 1)))) (Int32.toInt64 (v 2 i))) (Int32.toInt64 (nt (v 0) st (i + 1)))) (Int32.toInt64 (wd v i))) (Int32.toInt64 (rdn v st i))) (Int32.toInt64 (rrn v st i))) Mv.const trivial jyX0_digested kl_RX0_171 ⟨rfl, rfl⟩ ⟨Nat.le_of_ble_eq_true rfl, Nat.le_of_ble_eq_true rfl⟩ rfl hl.1 rfl (Nat.le_of_ble_eq_true rfl) ⟨Nat.zero_le _, Nat.zero_le _⟩ dX0_digestOfLeg_89 (fun r hr9 => ?_)
  subst hr9
  refine lv_lstore (lv' := [(4, .long (dg (dg (dg (dg (dg (dg (dg d (Int32.toInt64 (v 0 i))) (Int32.toInt64 (hd (v 0) (i + 1)))) (Int32.toInt64 (v 2 i))) (Int32.toInt64 (nt (v 0) st (i + 1)))) (Int32.toInt64 (wd v i))) (Int32.toInt64 (rdn v st i))) (Int32.toInt64 (rrn v st i)))), (0, .ref (q 0)), (1, .long d), (3, .int (nI i))]) hx hb dX0_digestOfLeg_92 hl (by decide) rfl (fun ls hl => ?_)
  refine lv_lload hx hb dX0_digestOfLeg_94 (lv_at hl 0 rfl) ?_
  refine lv_aload_n hx hb dX0_digestOfLeg_96 rfl (lv_at hl 1 rfl) ?_
  refine lv_iload_n hx hb dX0_digestOfLeg_97 rfl (lv_at hl 3 rfl) ?_
  refine cVi (As := [.int (nI i)]) (rest := [.long (dg (dg (dg (dg (dg (dg (dg d (Int32.toInt64 (v 0 i))) (Int32.toInt64 (hd (v 0) (i + 1)))) (Int32.toInt64 (v 2 i))) (Int32.toInt64 (nt (v 0) st (i + 1)))) (Int32.toInt64 (wd v i))) (Int32.toInt64 (rdn v st i))) (Int32.toInt64 (rrn v st i)))]) hF (mX0_isMended hok hde i (by omega)) C0.mv hX (C0.rc hX) jyX0_isMended kl_RX0_254 ⟨rfl, rfl⟩ ⟨Nat.le_of_ble_eq_true rfl, Nat.le_of_ble_eq_true rfl⟩ rfl hl.1 rfl (Nat.le_of_ble_eq_true rfl) ⟨Nat.zero_le _, Nat.zero_le _⟩ dX0_digestOfLeg_98 (fun r hr9 => ?_)
  subst hr9
  refine lv_if_eq (tgt := 108) hx hb dX0_digestOfLeg_101 (by decide) (fun c101 => ?_) (fun c101 => ?_)
  · have c101b := b2i_f c101
    refine lv_lconst (v := 0) hx hb dX0_digestOfLeg_108 (by decide) ?_
    refine cSl (As := [.long (dg (dg (dg (dg (dg (dg (dg d (Int32.toInt64 (v 0 i))) (Int32.toInt64 (hd (v 0) (i + 1)))) (Int32.toInt64 (v 2 i))) (Int32.toInt64 (nt (v 0) st (i + 1)))) (Int32.toInt64 (wd v i))) (Int32.toInt64 (rdn v st i))) (Int32.toInt64 (rrn v st i))), .long 0]) (rest := []) hF (mX0_digested (dg (dg (dg (dg (dg (dg (dg d (Int32.toInt64 (v 0 i))) (Int32.toInt64 (hd (v 0) (i + 1)))) (Int32.toInt64 (v 2 i))) (Int32.toInt64 (nt (v 0) st (i + 1)))) (Int32.toInt64 (wd v i))) (Int32.toInt64 (rdn v st i))) (Int32.toInt64 (rrn v st i))) 0) Mv.const trivial jyX0_digested kl_RX0_171 ⟨rfl, rfl⟩ ⟨Nat.le_of_ble_eq_true rfl, Nat.le_of_ble_eq_true rfl⟩ rfl hl.1 rfl (Nat.le_of_ble_eq_true rfl) ⟨Nat.zero_le _, Nat.zero_le _⟩ dX0_digestOfLeg_109 (fun r hr9 => ?_)
    subst hr9
    refine lv_lstore (lv' := [(4, .long (dg (dg (dg (dg (dg (dg (dg (dg d (Int32.toInt64 (v 0 i))) (Int32.toInt64 (hd (v 0) (i + 1)))) (Int32.toInt64 (v 2 i))) (Int32.toInt64 (nt (v 0) st (i + 1)))) (Int32.toInt64 (wd v i))) (Int32.toInt64 (rdn v st i))) (Int32.toInt64 (rrn v st i))) 0)), (0, .ref (q 0)), (1, .long d), (3, .int (nI i))]) hx hb dX0_digestOfLeg_112 hl (by decide) rfl (fun ls hl => ?_)
    refine lv_lload hx hb dX0_digestOfLeg_114 (lv_at hl 0 rfl) ?_
    exact W.lret hx hb hr (fun t ht hW => ⟨_, rfl, (by unfold dgLeg; rw [c101b]; rfl), ht⟩) (fun q hq => absurd hq List.not_mem_nil) dX0_digestOfLeg_116
  · have c101b := b2i_t c101
    refine lv_lconst (v := 1) hx hb dX0_digestOfLeg_104 (by decide) ?_
    refine lv_goto (tgt := 109) hx hb dX0_digestOfLeg_105 (by decide) ?_
    refine cSl (As := [.long (dg (dg (dg (dg (dg (dg (dg d (Int32.toInt64 (v 0 i))) (Int32.toInt64 (hd (v 0) (i + 1)))) (Int32.toInt64 (v 2 i))) (Int32.toInt64 (nt (v 0) st (i + 1)))) (Int32.toInt64 (wd v i))) (Int32.toInt64 (rdn v st i))) (Int32.toInt64 (rrn v st i))), .long 1]) (rest := []) hF (mX0_digested (dg (dg (dg (dg (dg (dg (dg d (Int32.toInt64 (v 0 i))) (Int32.toInt64 (hd (v 0) (i + 1)))) (Int32.toInt64 (v 2 i))) (Int32.toInt64 (nt (v 0) st (i + 1)))) (Int32.toInt64 (wd v i))) (Int32.toInt64 (rdn v st i))) (Int32.toInt64 (rrn v st i))) 1) Mv.const trivial jyX0_digested kl_RX0_171 ⟨rfl, rfl⟩ ⟨Nat.le_of_ble_eq_true rfl, Nat.le_of_ble_eq_true rfl⟩ rfl hl.1 rfl (Nat.le_of_ble_eq_true rfl) ⟨Nat.zero_le _, Nat.zero_le _⟩ dX0_digestOfLeg_109 (fun r hr9 => ?_)
    subst hr9
    refine lv_lstore (lv' := [(4, .long (dg (dg (dg (dg (dg (dg (dg (dg d (Int32.toInt64 (v 0 i))) (Int32.toInt64 (hd (v 0) (i + 1)))) (Int32.toInt64 (v 2 i))) (Int32.toInt64 (nt (v 0) st (i + 1)))) (Int32.toInt64 (wd v i))) (Int32.toInt64 (rdn v st i))) (Int32.toInt64 (rrn v st i))) 1)), (0, .ref (q 0)), (1, .long d), (3, .int (nI i))]) hx hb dX0_digestOfLeg_112 hl (by decide) rfl (fun ls hl => ?_)
    refine lv_lload hx hb dX0_digestOfLeg_114 (lv_at hl 0 rfl) ?_
    exact W.lret hx hb hr (fun t ht hW => ⟨_, rfl, (by unfold dgLeg; rw [c101b]; rfl), ht⟩) (fun q hq => absurd hq List.not_mem_nil) dX0_digestOfLeg_116
set_option maxHeartbeats 4000000 in
set_option maxRecDepth 100000 in
theorem mX0_digest (hok : Ok N st v) (hde : Der N st v w) : Met l yX0_digest (wm yX0_digest cX0_digest 4 (some .long)) ({ frames := 6, cells := 0, slots := 0, locals := 133 } : Room) (va_Pc [.ref (q 0)] (fun U => C0 D cyI cyZ q (nI N) st v mk w U U.heap)) (vp_Sl (fun r => r = dgst v st mk N)) 0 0 (fun _ => False) := by
  refine mt (by decide) (Nat.le_of_ble_eq_true rfl) ?_
  intro p ev s m below meth c ls hF hr hlocks hnm hX hl
  have hF : CallFix p m c cX0_digest 4 s _ wA RX0 := hF
  obtain ⟨hx, hb, hml, hown, hts⟩ := id hF
  have hX : C0 D cyI cyZ q (nI N) st v mk w s s.heap := hX
  have hl : lv_has ls 4 [(0, .ref (q 0))] := hl
  have hN := hok.1
  refine lv_ldc2 hx hb hown (hts _ kk_RX0_166) dX0_digest_0 ?_
  refine lv_lstore_n (lv' := [(1, .long 1051), (0, .ref (q 0))]) hx hb dX0_digest_3 rfl hl (by decide) rfl (fun ls hl => ?_)
  refine lv_lload_n hx hb dX0_digest_4 rfl (lv_at hl 0 rfl) ?_
  refine lv_aload_n hx hb dX0_digest_5 rfl (lv_at hl 1 rfl) ?_
  refine cVi (As := []) (rest := [.long 1051]) hF (mX0_legs ) C0.mv hX (C0.rc hX) jyX0_legs kl_RX0_168 ⟨rfl, rfl⟩ ⟨Nat.le_of_ble_eq_true rfl, Nat.le_of_ble_eq_true rfl⟩ rfl hl.1 rfl (Nat.le_of_ble_eq_true rfl) ⟨Nat.zero_le _, Nat.zero_le _⟩ dX0_digest_6 (fun r hr9 => ?_)
  subst hr9
  refine lv_i2l hx hb dX0_digest_9 rfl ?_
  refine cSl (As := [.long 1051, .long (Int32.toInt64 (nI N))]) (rest := []) hF (mX0_digested 1051 (Int32.toInt64 (nI N))) Mv.const trivial jyX0_digested kl_RX0_171 ⟨rfl, rfl⟩ ⟨Nat.le_of_ble_eq_true rfl, Nat.le_of_ble_eq_true rfl⟩ rfl hl.1 rfl (Nat.le_of_ble_eq_true rfl) ⟨Nat.zero_le _, Nat.zero_le _⟩ dX0_digest_10 (fun r hr9 => ?_)
  subst hr9
  refine lv_lstore_n (lv' := [(1, .long (dg 1051 (Int32.toInt64 (nI N)))), (0, .ref (q 0))]) hx hb dX0_digest_13 rfl hl (by decide) rfl (fun ls hl => ?_)
  refine lv_lload_n hx hb dX0_digest_14 rfl (lv_at hl 0 rfl) ?_
  refine lv_aload_n hx hb dX0_digest_15 rfl (lv_at hl 1 rfl) ?_
  refine cVi (As := []) (rest := [.long (dg 1051 (Int32.toInt64 (nI N)))]) hF (mX0_step ) C0.mv hX (C0.rc hX) jyX0_step kl_RX0_174 ⟨rfl, rfl⟩ ⟨Nat.le_of_ble_eq_true rfl, Nat.le_of_ble_eq_true rfl⟩ rfl hl.1 rfl (Nat.le_of_ble_eq_true rfl) ⟨Nat.zero_le _, Nat.zero_le _⟩ dX0_digest_16 (fun r hr9 => ?_)
  rw [hr9]
  refine lv_i2l hx hb dX0_digest_19 rfl ?_
  refine cSl (As := [.long (dg 1051 (Int32.toInt64 (nI N))), .long (Int32.toInt64 st)]) (rest := []) hF (mX0_digested (dg 1051 (Int32.toInt64 (nI N))) (Int32.toInt64 st)) Mv.const trivial jyX0_digested kl_RX0_171 ⟨rfl, rfl⟩ ⟨Nat.le_of_ble_eq_true rfl, Nat.le_of_ble_eq_true rfl⟩ rfl hl.1 rfl (Nat.le_of_ble_eq_true rfl) ⟨Nat.zero_le _, Nat.zero_le _⟩ dX0_digest_20 (fun r hr9 => ?_)
  subst hr9
  refine lv_lstore_n (lv' := [(1, .long (dg (dg 1051 (Int32.toInt64 (nI N))) (Int32.toInt64 st))), (0, .ref (q 0))]) hx hb dX0_digest_23 rfl hl (by decide) rfl (fun ls hl => ?_)
  refine lv_lload_n hx hb dX0_digest_24 rfl (lv_at hl 0 rfl) ?_
  refine lv_aload_n hx hb dX0_digest_25 rfl (lv_at hl 1 rfl) ?_
  refine cVi (As := []) (rest := [.long (dg (dg 1051 (Int32.toInt64 (nI N))) (Int32.toInt64 st))]) hF (mX0_endX hok hde) C0.mv hX (C0.rc hX) jyX0_endX kl_RX0_95 ⟨rfl, rfl⟩ ⟨Nat.le_of_ble_eq_true rfl, Nat.le_of_ble_eq_true rfl⟩ rfl hl.1 rfl (Nat.le_of_ble_eq_true rfl) ⟨Nat.zero_le _, Nat.zero_le _⟩ dX0_digest_26 (fun r hr9 => ?_)
  subst hr9
  refine lv_i2l hx hb dX0_digest_29 rfl ?_
  refine cSl (As := [.long (dg (dg 1051 (Int32.toInt64 (nI N))) (Int32.toInt64 st)), .long (Int32.toInt64 (px (v 0) (v 1) N))]) (rest := []) hF (mX0_digested (dg (dg 1051 (Int32.toInt64 (nI N))) (Int32.toInt64 st)) (Int32.toInt64 (px (v 0) (v 1) N))) Mv.const trivial jyX0_digested kl_RX0_171 ⟨rfl, rfl⟩ ⟨Nat.le_of_ble_eq_true rfl, Nat.le_of_ble_eq_true rfl⟩ rfl hl.1 rfl (Nat.le_of_ble_eq_true rfl) ⟨Nat.zero_le _, Nat.zero_le _⟩ dX0_digest_30 (fun r hr9 => ?_)
  subst hr9
  refine lv_lstore_n (lv' := [(1, .long (dg (dg (dg 1051 (Int32.toInt64 (nI N))) (Int32.toInt64 st)) (Int32.toInt64 (px (v 0) (v 1) N)))), (0, .ref (q 0))]) hx hb dX0_digest_33 rfl hl (by decide) rfl (fun ls hl => ?_)
  refine lv_lload_n hx hb dX0_digest_34 rfl (lv_at hl 0 rfl) ?_
  refine lv_aload_n hx hb dX0_digest_35 rfl (lv_at hl 1 rfl) ?_
  refine cVi (As := []) (rest := [.long (dg (dg (dg 1051 (Int32.toInt64 (nI N))) (Int32.toInt64 st)) (Int32.toInt64 (px (v 0) (v 1) N)))]) hF (mX0_endY hok hde) C0.mv hX (C0.rc hX) jyX0_endY kl_RX0_104 ⟨rfl, rfl⟩ ⟨Nat.le_of_ble_eq_true rfl, Nat.le_of_ble_eq_true rfl⟩ rfl hl.1 rfl (Nat.le_of_ble_eq_true rfl) ⟨Nat.zero_le _, Nat.zero_le _⟩ dX0_digest_36 (fun r hr9 => ?_)
  subst hr9
  refine lv_i2l hx hb dX0_digest_39 rfl ?_
  refine cSl (As := [.long (dg (dg (dg 1051 (Int32.toInt64 (nI N))) (Int32.toInt64 st)) (Int32.toInt64 (px (v 0) (v 1) N))), .long (Int32.toInt64 (py (v 0) (v 1) N))]) (rest := []) hF (mX0_digested (dg (dg (dg 1051 (Int32.toInt64 (nI N))) (Int32.toInt64 st)) (Int32.toInt64 (px (v 0) (v 1) N))) (Int32.toInt64 (py (v 0) (v 1) N))) Mv.const trivial jyX0_digested kl_RX0_171 ⟨rfl, rfl⟩ ⟨Nat.le_of_ble_eq_true rfl, Nat.le_of_ble_eq_true rfl⟩ rfl hl.1 rfl (Nat.le_of_ble_eq_true rfl) ⟨Nat.zero_le _, Nat.zero_le _⟩ dX0_digest_40 (fun r hr9 => ?_)
  subst hr9
  refine lv_lstore_n (lv' := [(1, .long (dg (dg (dg (dg 1051 (Int32.toInt64 (nI N))) (Int32.toInt64 st)) (Int32.toInt64 (px (v 0) (v 1) N))) (Int32.toInt64 (py (v 0) (v 1) N)))), (0, .ref (q 0))]) hx hb dX0_digest_43 rfl hl (by decide) rfl (fun ls hl => ?_)
  refine lv_lload_n hx hb dX0_digest_44 rfl (lv_at hl 0 rfl) ?_
  refine lv_aload_n hx hb dX0_digest_45 rfl (lv_at hl 1 rfl) ?_
  refine cVi (As := []) (rest := [.long (dg (dg (dg (dg 1051 (Int32.toInt64 (nI N))) (Int32.toInt64 st)) (Int32.toInt64 (px (v 0) (v 1) N))) (Int32.toInt64 (py (v 0) (v 1) N)))]) hF (mX0_stepsHome hok hde) C0.mv hX (C0.rc hX) jyX0_stepsHome kl_RX0_177 ⟨rfl, rfl⟩ ⟨Nat.le_of_ble_eq_true rfl, Nat.le_of_ble_eq_true rfl⟩ rfl hl.1 rfl (Nat.le_of_ble_eq_true rfl) ⟨Nat.zero_le _, Nat.zero_le _⟩ dX0_digest_46 (fun r hr9 => ?_)
  subst hr9
  refine lv_i2l hx hb dX0_digest_49 rfl ?_
  refine cSl (As := [.long (dg (dg (dg (dg 1051 (Int32.toInt64 (nI N))) (Int32.toInt64 st)) (Int32.toInt64 (px (v 0) (v 1) N))) (Int32.toInt64 (py (v 0) (v 1) N))), .long (Int32.toInt64 (mx (ab (px (v 0) (v 1) N)) (ab (py (v 0) (v 1) N))))]) (rest := []) hF (mX0_digested (dg (dg (dg (dg 1051 (Int32.toInt64 (nI N))) (Int32.toInt64 st)) (Int32.toInt64 (px (v 0) (v 1) N))) (Int32.toInt64 (py (v 0) (v 1) N))) (Int32.toInt64 (mx (ab (px (v 0) (v 1) N)) (ab (py (v 0) (v 1) N))))) Mv.const trivial jyX0_digested kl_RX0_171 ⟨rfl, rfl⟩ ⟨Nat.le_of_ble_eq_true rfl, Nat.le_of_ble_eq_true rfl⟩ rfl hl.1 rfl (Nat.le_of_ble_eq_true rfl) ⟨Nat.zero_le _, Nat.zero_le _⟩ dX0_digest_50 (fun r hr9 => ?_)
  subst hr9
  refine lv_lstore_n (lv' := [(1, .long (dg (dg (dg (dg (dg 1051 (Int32.toInt64 (nI N))) (Int32.toInt64 st)) (Int32.toInt64 (px (v 0) (v 1) N))) (Int32.toInt64 (py (v 0) (v 1) N))) (Int32.toInt64 (mx (ab (px (v 0) (v 1) N)) (ab (py (v 0) (v 1) N)))))), (0, .ref (q 0))]) hx hb dX0_digest_53 rfl hl (by decide) rfl (fun ls hl => ?_)
  refine lv_lload_n hx hb dX0_digest_54 rfl (lv_at hl 0 rfl) ?_
  refine lv_aload_n hx hb dX0_digest_55 rfl (lv_at hl 1 rfl) ?_
  refine cVi (As := []) (rest := [.long (dg (dg (dg (dg (dg 1051 (Int32.toInt64 (nI N))) (Int32.toInt64 st)) (Int32.toInt64 (px (v 0) (v 1) N))) (Int32.toInt64 (py (v 0) (v 1) N))) (Int32.toInt64 (mx (ab (px (v 0) (v 1) N)) (ab (py (v 0) (v 1) N)))))]) hF (mX0_returns hok hde) C0.mv hX (C0.rc hX) jyX0_returns kl_RX0_180 ⟨rfl, rfl⟩ ⟨Nat.le_of_ble_eq_true rfl, Nat.le_of_ble_eq_true rfl⟩ rfl hl.1 rfl (Nat.le_of_ble_eq_true rfl) ⟨Nat.zero_le _, Nat.zero_le _⟩ dX0_digest_56 (fun r hr9 => ?_)
  subst hr9
  refine lv_i2l hx hb dX0_digest_59 rfl ?_
  refine cSl (As := [.long (dg (dg (dg (dg (dg 1051 (Int32.toInt64 (nI N))) (Int32.toInt64 st)) (Int32.toInt64 (px (v 0) (v 1) N))) (Int32.toInt64 (py (v 0) (v 1) N))) (Int32.toInt64 (mx (ab (px (v 0) (v 1) N)) (ab (py (v 0) (v 1) N))))), .long (Int32.toInt64 (rtn v N))]) (rest := []) hF (mX0_digested (dg (dg (dg (dg (dg 1051 (Int32.toInt64 (nI N))) (Int32.toInt64 st)) (Int32.toInt64 (px (v 0) (v 1) N))) (Int32.toInt64 (py (v 0) (v 1) N))) (Int32.toInt64 (mx (ab (px (v 0) (v 1) N)) (ab (py (v 0) (v 1) N))))) (Int32.toInt64 (rtn v N))) Mv.const trivial jyX0_digested kl_RX0_171 ⟨rfl, rfl⟩ ⟨Nat.le_of_ble_eq_true rfl, Nat.le_of_ble_eq_true rfl⟩ rfl hl.1 rfl (Nat.le_of_ble_eq_true rfl) ⟨Nat.zero_le _, Nat.zero_le _⟩ dX0_digest_60 (fun r hr9 => ?_)
  subst hr9
  refine lv_lstore_n (lv' := [(1, .long (dg (dg (dg (dg (dg (dg 1051 (Int32.toInt64 (nI N))) (Int32.toInt64 st)) (Int32.toInt64 (px (v 0) (v 1) N))) (Int32.toInt64 (py (v 0) (v 1) N))) (Int32.toInt64 (mx (ab (px (v 0) (v 1) N)) (ab (py (v 0) (v 1) N))))) (Int32.toInt64 (rtn v N)))), (0, .ref (q 0))]) hx hb dX0_digest_63 rfl hl (by decide) rfl (fun ls hl => ?_)
  refine lv_lload_n hx hb dX0_digest_64 rfl (lv_at hl 0 rfl) ?_
  refine lv_aload_n hx hb dX0_digest_65 rfl (lv_at hl 1 rfl) ?_
  refine cVi (As := []) (rest := [.long (dg (dg (dg (dg (dg (dg 1051 (Int32.toInt64 (nI N))) (Int32.toInt64 st)) (Int32.toInt64 (px (v 0) (v 1) N))) (Int32.toInt64 (py (v 0) (v 1) N))) (Int32.toInt64 (mx (ab (px (v 0) (v 1) N)) (ab (py (v 0) (v 1) N))))) (Int32.toInt64 (rtn v N)))]) hF (mX0_beats hok hde) C0.mv hX (C0.rc hX) jyX0_beats kl_RX0_183 ⟨rfl, rfl⟩ ⟨Nat.le_of_ble_eq_true rfl, Nat.le_of_ble_eq_true rfl⟩ rfl hl.1 rfl (Nat.le_of_ble_eq_true rfl) ⟨Nat.zero_le _, Nat.zero_le _⟩ dX0_digest_66 (fun r hr9 => ?_)
  subst hr9
  refine lv_i2l hx hb dX0_digest_69 rfl ?_
  refine cSl (As := [.long (dg (dg (dg (dg (dg (dg 1051 (Int32.toInt64 (nI N))) (Int32.toInt64 st)) (Int32.toInt64 (px (v 0) (v 1) N))) (Int32.toInt64 (py (v 0) (v 1) N))) (Int32.toInt64 (mx (ab (px (v 0) (v 1) N)) (ab (py (v 0) (v 1) N))))) (Int32.toInt64 (rtn v N))), .long (Int32.toInt64 (sumI (v 1) N))]) (rest := []) hF (mX0_digested (dg (dg (dg (dg (dg (dg 1051 (Int32.toInt64 (nI N))) (Int32.toInt64 st)) (Int32.toInt64 (px (v 0) (v 1) N))) (Int32.toInt64 (py (v 0) (v 1) N))) (Int32.toInt64 (mx (ab (px (v 0) (v 1) N)) (ab (py (v 0) (v 1) N))))) (Int32.toInt64 (rtn v N))) (Int32.toInt64 (sumI (v 1) N))) Mv.const trivial jyX0_digested kl_RX0_171 ⟨rfl, rfl⟩ ⟨Nat.le_of_ble_eq_true rfl, Nat.le_of_ble_eq_true rfl⟩ rfl hl.1 rfl (Nat.le_of_ble_eq_true rfl) ⟨Nat.zero_le _, Nat.zero_le _⟩ dX0_digest_70 (fun r hr9 => ?_)
  subst hr9
  refine lv_lstore_n (lv' := [(1, .long (dg (dg (dg (dg (dg (dg (dg 1051 (Int32.toInt64 (nI N))) (Int32.toInt64 st)) (Int32.toInt64 (px (v 0) (v 1) N))) (Int32.toInt64 (py (v 0) (v 1) N))) (Int32.toInt64 (mx (ab (px (v 0) (v 1) N)) (ab (py (v 0) (v 1) N))))) (Int32.toInt64 (rtn v N))) (Int32.toInt64 (sumI (v 1) N)))), (0, .ref (q 0))]) hx hb dX0_digest_73 rfl hl (by decide) rfl (fun ls hl => ?_)
  refine lv_lload_n hx hb dX0_digest_74 rfl (lv_at hl 0 rfl) ?_
  refine lv_aload_n hx hb dX0_digest_75 rfl (lv_at hl 1 rfl) ?_
  refine cVi (As := []) (rest := [.long (dg (dg (dg (dg (dg (dg (dg 1051 (Int32.toInt64 (nI N))) (Int32.toInt64 st)) (Int32.toInt64 (px (v 0) (v 1) N))) (Int32.toInt64 (py (v 0) (v 1) N))) (Int32.toInt64 (mx (ab (px (v 0) (v 1) N)) (ab (py (v 0) (v 1) N))))) (Int32.toInt64 (rtn v N))) (Int32.toInt64 (sumI (v 1) N)))]) hF (mX0_folded hok hde) C0.mv hX (C0.rc hX) jyX0_folded kl_RX0_186 ⟨rfl, rfl⟩ ⟨Nat.le_of_ble_eq_true rfl, Nat.le_of_ble_eq_true rfl⟩ rfl hl.1 rfl (Nat.le_of_ble_eq_true rfl) ⟨Nat.zero_le _, Nat.zero_le _⟩ dX0_digest_76 (fun r hr9 => ?_)
  subst hr9
  refine lv_i2l hx hb dX0_digest_79 rfl ?_
  refine cSl (As := [.long (dg (dg (dg (dg (dg (dg (dg 1051 (Int32.toInt64 (nI N))) (Int32.toInt64 st)) (Int32.toInt64 (px (v 0) (v 1) N))) (Int32.toInt64 (py (v 0) (v 1) N))) (Int32.toInt64 (mx (ab (px (v 0) (v 1) N)) (ab (py (v 0) (v 1) N))))) (Int32.toInt64 (rtn v N))) (Int32.toInt64 (sumI (v 1) N))), .long (Int32.toInt64 (ctB (fold1 v st) N))]) (rest := []) hF (mX0_digested (dg (dg (dg (dg (dg (dg (dg 1051 (Int32.toInt64 (nI N))) (Int32.toInt64 st)) (Int32.toInt64 (px (v 0) (v 1) N))) (Int32.toInt64 (py (v 0) (v 1) N))) (Int32.toInt64 (mx (ab (px (v 0) (v 1) N)) (ab (py (v 0) (v 1) N))))) (Int32.toInt64 (rtn v N))) (Int32.toInt64 (sumI (v 1) N))) (Int32.toInt64 (ctB (fold1 v st) N))) Mv.const trivial jyX0_digested kl_RX0_171 ⟨rfl, rfl⟩ ⟨Nat.le_of_ble_eq_true rfl, Nat.le_of_ble_eq_true rfl⟩ rfl hl.1 rfl (Nat.le_of_ble_eq_true rfl) ⟨Nat.zero_le _, Nat.zero_le _⟩ dX0_digest_80 (fun r hr9 => ?_)
  subst hr9
  refine lv_lstore_n (lv' := [(1, .long (dg (dg (dg (dg (dg (dg (dg (dg 1051 (Int32.toInt64 (nI N))) (Int32.toInt64 st)) (Int32.toInt64 (px (v 0) (v 1) N))) (Int32.toInt64 (py (v 0) (v 1) N))) (Int32.toInt64 (mx (ab (px (v 0) (v 1) N)) (ab (py (v 0) (v 1) N))))) (Int32.toInt64 (rtn v N))) (Int32.toInt64 (sumI (v 1) N))) (Int32.toInt64 (ctB (fold1 v st) N)))), (0, .ref (q 0))]) hx hb dX0_digest_83 rfl hl (by decide) rfl (fun ls hl => ?_)
  refine lv_lload_n hx hb dX0_digest_84 rfl (lv_at hl 0 rfl) ?_
  refine lv_aload_n hx hb dX0_digest_85 rfl (lv_at hl 1 rfl) ?_
  refine cVi (As := []) (rest := [.long (dg (dg (dg (dg (dg (dg (dg (dg 1051 (Int32.toInt64 (nI N))) (Int32.toInt64 st)) (Int32.toInt64 (px (v 0) (v 1) N))) (Int32.toInt64 (py (v 0) (v 1) N))) (Int32.toInt64 (mx (ab (px (v 0) (v 1) N)) (ab (py (v 0) (v 1) N))))) (Int32.toInt64 (rtn v N))) (Int32.toInt64 (sumI (v 1) N))) (Int32.toInt64 (ctB (fold1 v st) N)))]) hF (mX0_range hok hde) C0.mv hX (C0.rc hX) jyX0_range kl_RX0_189 ⟨rfl, rfl⟩ ⟨Nat.le_of_ble_eq_true rfl, Nat.le_of_ble_eq_true rfl⟩ rfl hl.1 rfl (Nat.le_of_ble_eq_true rfl) ⟨Nat.zero_le _, Nat.zero_le _⟩ dX0_digest_86 (fun r hr9 => ?_)
  subst hr9
  refine lv_i2l hx hb dX0_digest_89 rfl ?_
  refine cSl (As := [.long (dg (dg (dg (dg (dg (dg (dg (dg 1051 (Int32.toInt64 (nI N))) (Int32.toInt64 st)) (Int32.toInt64 (px (v 0) (v 1) N))) (Int32.toInt64 (py (v 0) (v 1) N))) (Int32.toInt64 (mx (ab (px (v 0) (v 1) N)) (ab (py (v 0) (v 1) N))))) (Int32.toInt64 (rtn v N))) (Int32.toInt64 (sumI (v 1) N))) (Int32.toInt64 (ctB (fold1 v st) N))), .long (Int32.toInt64 (rng v st N))]) (rest := []) hF (mX0_digested (dg (dg (dg (dg (dg (dg (dg (dg 1051 (Int32.toInt64 (nI N))) (Int32.toInt64 st)) (Int32.toInt64 (px (v 0) (v 1) N))) (Int32.toInt64 (py (v 0) (v 1) N))) (Int32.toInt64 (mx (ab (px (v 0) (v 1) N)) (ab (py (v 0) (v 1) N))))) (Int32.toInt64 (rtn v N))) (Int32.toInt64 (sumI (v 1) N))) (Int32.toInt64 (ctB (fold1 v st) N))) (Int32.toInt64 (rng v st N))) Mv.const trivial jyX0_digested kl_RX0_171 ⟨rfl, rfl⟩ ⟨Nat.le_of_ble_eq_true rfl, Nat.le_of_ble_eq_true rfl⟩ rfl hl.1 rfl (Nat.le_of_ble_eq_true rfl) ⟨Nat.zero_le _, Nat.zero_le _⟩ dX0_digest_90 (fun r hr9 => ?_)
  subst hr9
  refine lv_lstore_n (lv' := [(1, .long (dg (dg (dg (dg (dg (dg (dg (dg (dg 1051 (Int32.toInt64 (nI N))) (Int32.toInt64 st)) (Int32.toInt64 (px (v 0) (v 1) N))) (Int32.toInt64 (py (v 0) (v 1) N))) (Int32.toInt64 (mx (ab (px (v 0) (v 1) N)) (ab (py (v 0) (v 1) N))))) (Int32.toInt64 (rtn v N))) (Int32.toInt64 (sumI (v 1) N))) (Int32.toInt64 (ctB (fold1 v st) N))) (Int32.toInt64 (rng v st N)))), (0, .ref (q 0))]) hx hb dX0_digest_93 rfl hl (by decide) rfl (fun ls hl => ?_)
  refine lv_lload_n hx hb dX0_digest_94 rfl (lv_at hl 0 rfl) ?_
  refine lv_aload_n hx hb dX0_digest_95 rfl (lv_at hl 1 rfl) ?_
  refine cVi (As := []) (rest := [.long (dg (dg (dg (dg (dg (dg (dg (dg (dg 1051 (Int32.toInt64 (nI N))) (Int32.toInt64 st)) (Int32.toInt64 (px (v 0) (v 1) N))) (Int32.toInt64 (py (v 0) (v 1) N))) (Int32.toInt64 (mx (ab (px (v 0) (v 1) N)) (ab (py (v 0) (v 1) N))))) (Int32.toInt64 (rtn v N))) (Int32.toInt64 (sumI (v 1) N))) (Int32.toInt64 (ctB (fold1 v st) N))) (Int32.toInt64 (rng v st N)))]) hF (mX0_ambiguous hok hde) C0.mv hX (C0.rc hX) jyX0_ambiguous kl_RX0_192 ⟨rfl, rfl⟩ ⟨Nat.le_of_ble_eq_true rfl, Nat.le_of_ble_eq_true rfl⟩ rfl hl.1 rfl (Nat.le_of_ble_eq_true rfl) ⟨Nat.zero_le _, Nat.zero_le _⟩ dX0_digest_96 (fun r hr9 => ?_)
  subst hr9
  refine lv_i2l hx hb dX0_digest_99 rfl ?_
  refine cSl (As := [.long (dg (dg (dg (dg (dg (dg (dg (dg (dg 1051 (Int32.toInt64 (nI N))) (Int32.toInt64 st)) (Int32.toInt64 (px (v 0) (v 1) N))) (Int32.toInt64 (py (v 0) (v 1) N))) (Int32.toInt64 (mx (ab (px (v 0) (v 1) N)) (ab (py (v 0) (v 1) N))))) (Int32.toInt64 (rtn v N))) (Int32.toInt64 (sumI (v 1) N))) (Int32.toInt64 (ctB (fold1 v st) N))) (Int32.toInt64 (rng v st N))), .long (Int32.toInt64 (ctB (amb v st mk) N))]) (rest := []) hF (mX0_digested (dg (dg (dg (dg (dg (dg (dg (dg (dg 1051 (Int32.toInt64 (nI N))) (Int32.toInt64 st)) (Int32.toInt64 (px (v 0) (v 1) N))) (Int32.toInt64 (py (v 0) (v 1) N))) (Int32.toInt64 (mx (ab (px (v 0) (v 1) N)) (ab (py (v 0) (v 1) N))))) (Int32.toInt64 (rtn v N))) (Int32.toInt64 (sumI (v 1) N))) (Int32.toInt64 (ctB (fold1 v st) N))) (Int32.toInt64 (rng v st N))) (Int32.toInt64 (ctB (amb v st mk) N))) Mv.const trivial jyX0_digested kl_RX0_171 ⟨rfl, rfl⟩ ⟨Nat.le_of_ble_eq_true rfl, Nat.le_of_ble_eq_true rfl⟩ rfl hl.1 rfl (Nat.le_of_ble_eq_true rfl) ⟨Nat.zero_le _, Nat.zero_le _⟩ dX0_digest_100 (fun r hr9 => ?_)
  subst hr9
  refine lv_lstore_n (lv' := [(1, .long (dg (dg (dg (dg (dg (dg (dg (dg (dg (dg 1051 (Int32.toInt64 (nI N))) (Int32.toInt64 st)) (Int32.toInt64 (px (v 0) (v 1) N))) (Int32.toInt64 (py (v 0) (v 1) N))) (Int32.toInt64 (mx (ab (px (v 0) (v 1) N)) (ab (py (v 0) (v 1) N))))) (Int32.toInt64 (rtn v N))) (Int32.toInt64 (sumI (v 1) N))) (Int32.toInt64 (ctB (fold1 v st) N))) (Int32.toInt64 (rng v st N))) (Int32.toInt64 (ctB (amb v st mk) N)))), (0, .ref (q 0))]) hx hb dX0_digest_103 rfl hl (by decide) rfl (fun ls hl => ?_)
  refine lv_lload_n hx hb dX0_digest_104 rfl (lv_at hl 0 rfl) ?_
  refine lv_aload_n hx hb dX0_digest_105 rfl (lv_at hl 1 rfl) ?_
  refine cVl (As := []) (rest := [.long (dg (dg (dg (dg (dg (dg (dg (dg (dg (dg 1051 (Int32.toInt64 (nI N))) (Int32.toInt64 st)) (Int32.toInt64 (px (v 0) (v 1) N))) (Int32.toInt64 (py (v 0) (v 1) N))) (Int32.toInt64 (mx (ab (px (v 0) (v 1) N)) (ab (py (v 0) (v 1) N))))) (Int32.toInt64 (rtn v N))) (Int32.toInt64 (sumI (v 1) N))) (Int32.toInt64 (ctB (fold1 v st) N))) (Int32.toInt64 (rng v st N))) (Int32.toInt64 (ctB (amb v st mk) N)))]) hF (mX0_ways hok hde) C0.mv hX (C0.rc hX) jyX0_ways kl_RX0_150 ⟨rfl, rfl⟩ ⟨Nat.le_of_ble_eq_true rfl, Nat.le_of_ble_eq_true rfl⟩ rfl hl.1 rfl (Nat.le_of_ble_eq_true rfl) ⟨Nat.zero_le _, Nat.zero_le _⟩ dX0_digest_106 (fun r hr9 => ?_)
  subst hr9
  refine cSl (As := [.long (dg (dg (dg (dg (dg (dg (dg (dg (dg (dg 1051 (Int32.toInt64 (nI N))) (Int32.toInt64 st)) (Int32.toInt64 (px (v 0) (v 1) N))) (Int32.toInt64 (py (v 0) (v 1) N))) (Int32.toInt64 (mx (ab (px (v 0) (v 1) N)) (ab (py (v 0) (v 1) N))))) (Int32.toInt64 (rtn v N))) (Int32.toInt64 (sumI (v 1) N))) (Int32.toInt64 (ctB (fold1 v st) N))) (Int32.toInt64 (rng v st N))) (Int32.toInt64 (ctB (amb v st mk) N))), .long (wys v st mk N)]) (rest := []) hF (mX0_digested (dg (dg (dg (dg (dg (dg (dg (dg (dg (dg 1051 (Int32.toInt64 (nI N))) (Int32.toInt64 st)) (Int32.toInt64 (px (v 0) (v 1) N))) (Int32.toInt64 (py (v 0) (v 1) N))) (Int32.toInt64 (mx (ab (px (v 0) (v 1) N)) (ab (py (v 0) (v 1) N))))) (Int32.toInt64 (rtn v N))) (Int32.toInt64 (sumI (v 1) N))) (Int32.toInt64 (ctB (fold1 v st) N))) (Int32.toInt64 (rng v st N))) (Int32.toInt64 (ctB (amb v st mk) N))) (wys v st mk N)) Mv.const trivial jyX0_digested kl_RX0_171 ⟨rfl, rfl⟩ ⟨Nat.le_of_ble_eq_true rfl, Nat.le_of_ble_eq_true rfl⟩ rfl hl.1 rfl (Nat.le_of_ble_eq_true rfl) ⟨Nat.zero_le _, Nat.zero_le _⟩ dX0_digest_109 (fun r hr9 => ?_)
  subst hr9
  refine lv_lstore_n (lv' := [(1, .long (dg (dg (dg (dg (dg (dg (dg (dg (dg (dg (dg 1051 (Int32.toInt64 (nI N))) (Int32.toInt64 st)) (Int32.toInt64 (px (v 0) (v 1) N))) (Int32.toInt64 (py (v 0) (v 1) N))) (Int32.toInt64 (mx (ab (px (v 0) (v 1) N)) (ab (py (v 0) (v 1) N))))) (Int32.toInt64 (rtn v N))) (Int32.toInt64 (sumI (v 1) N))) (Int32.toInt64 (ctB (fold1 v st) N))) (Int32.toInt64 (rng v st N))) (Int32.toInt64 (ctB (amb v st mk) N))) (wys v st mk N))), (0, .ref (q 0))]) hx hb dX0_digest_112 rfl hl (by decide) rfl (fun ls hl => ?_)
  refine lv_lload_n hx hb dX0_digest_113 rfl (lv_at hl 0 rfl) ?_
  refine lv_aload_n hx hb dX0_digest_114 rfl (lv_at hl 1 rfl) ?_
  refine cVi (As := []) (rest := [.long (dg (dg (dg (dg (dg (dg (dg (dg (dg (dg (dg 1051 (Int32.toInt64 (nI N))) (Int32.toInt64 st)) (Int32.toInt64 (px (v 0) (v 1) N))) (Int32.toInt64 (py (v 0) (v 1) N))) (Int32.toInt64 (mx (ab (px (v 0) (v 1) N)) (ab (py (v 0) (v 1) N))))) (Int32.toInt64 (rtn v N))) (Int32.toInt64 (sumI (v 1) N))) (Int32.toInt64 (ctB (fold1 v st) N))) (Int32.toInt64 (rng v st N))) (Int32.toInt64 (ctB (amb v st mk) N))) (wys v st mk N))]) hF (mX0_bestStep hok) C0.mv hX (C0.rc hX) jyX0_bestStep kl_RX0_195 ⟨rfl, rfl⟩ ⟨Nat.le_of_ble_eq_true rfl, Nat.le_of_ble_eq_true rfl⟩ rfl hl.1 rfl (Nat.le_of_ble_eq_true rfl) ⟨Nat.zero_le _, Nat.zero_le _⟩ dX0_digest_115 (fun r hr9 => ?_)
  subst hr9
  refine lv_i2l hx hb dX0_digest_118 rfl ?_
  refine cSl (As := [.long (dg (dg (dg (dg (dg (dg (dg (dg (dg (dg (dg 1051 (Int32.toInt64 (nI N))) (Int32.toInt64 st)) (Int32.toInt64 (px (v 0) (v 1) N))) (Int32.toInt64 (py (v 0) (v 1) N))) (Int32.toInt64 (mx (ab (px (v 0) (v 1) N)) (ab (py (v 0) (v 1) N))))) (Int32.toInt64 (rtn v N))) (Int32.toInt64 (sumI (v 1) N))) (Int32.toInt64 (ctB (fold1 v st) N))) (Int32.toInt64 (rng v st N))) (Int32.toInt64 (ctB (amb v st mk) N))) (wys v st mk N)), .long (Int32.toInt64 (nI (bst v N)))]) (rest := []) hF (mX0_digested (dg (dg (dg (dg (dg (dg (dg (dg (dg (dg (dg 1051 (Int32.toInt64 (nI N))) (Int32.toInt64 st)) (Int32.toInt64 (px (v 0) (v 1) N))) (Int32.toInt64 (py (v 0) (v 1) N))) (Int32.toInt64 (mx (ab (px (v 0) (v 1) N)) (ab (py (v 0) (v 1) N))))) (Int32.toInt64 (rtn v N))) (Int32.toInt64 (sumI (v 1) N))) (Int32.toInt64 (ctB (fold1 v st) N))) (Int32.toInt64 (rng v st N))) (Int32.toInt64 (ctB (amb v st mk) N))) (wys v st mk N)) (Int32.toInt64 (nI (bst v N)))) Mv.const trivial jyX0_digested kl_RX0_171 ⟨rfl, rfl⟩ ⟨Nat.le_of_ble_eq_true rfl, Nat.le_of_ble_eq_true rfl⟩ rfl hl.1 rfl (Nat.le_of_ble_eq_true rfl) ⟨Nat.zero_le _, Nat.zero_le _⟩ dX0_digest_119 (fun r hr9 => ?_)
  subst hr9
  refine lv_lstore_n (lv' := [(1, .long (dg (dg (dg (dg (dg (dg (dg (dg (dg (dg (dg (dg 1051 (Int32.toInt64 (nI N))) (Int32.toInt64 st)) (Int32.toInt64 (px (v 0) (v 1) N))) (Int32.toInt64 (py (v 0) (v 1) N))) (Int32.toInt64 (mx (ab (px (v 0) (v 1) N)) (ab (py (v 0) (v 1) N))))) (Int32.toInt64 (rtn v N))) (Int32.toInt64 (sumI (v 1) N))) (Int32.toInt64 (ctB (fold1 v st) N))) (Int32.toInt64 (rng v st N))) (Int32.toInt64 (ctB (amb v st mk) N))) (wys v st mk N)) (Int32.toInt64 (nI (bst v N))))), (0, .ref (q 0))]) hx hb dX0_digest_122 rfl hl (by decide) rfl (fun ls hl => ?_)
  refine lv_iconst (v := 0) hx hb dX0_digest_123 (by decide) ?_
  refine lv_istore_n (lv' := [(3, .int 0), (1, .long (dg (dg (dg (dg (dg (dg (dg (dg (dg (dg (dg (dg 1051 (Int32.toInt64 (nI N))) (Int32.toInt64 st)) (Int32.toInt64 (px (v 0) (v 1) N))) (Int32.toInt64 (py (v 0) (v 1) N))) (Int32.toInt64 (mx (ab (px (v 0) (v 1) N)) (ab (py (v 0) (v 1) N))))) (Int32.toInt64 (rtn v N))) (Int32.toInt64 (sumI (v 1) N))) (Int32.toInt64 (ctB (fold1 v st) N))) (Int32.toInt64 (rng v st N))) (Int32.toInt64 (ctB (amb v st mk) N))) (wys v st mk N)) (Int32.toInt64 (nI (bst v N))))), (0, .ref (q 0))]) hx hb dX0_digest_124 rfl hl (by decide) rfl (fun ls hl => ?_)
  refine lpW (σ := Nat) (fun j ls => (j ≤ N) ∧ lv_has ls 4 [(0, .ref (q 0)), (1, .long (dgLegs v st mk (dgHead v st mk N) j)), (3, .int (nI j))]) (fun j => N - j) (fun j ls hI ih => ?_) (0) ⟨by omega, lv_sub hl [2, 1, 0] rfl⟩
  obtain ⟨hj, hl⟩ := hI
  refine lv_iload_n hx hb dX0_digest_125 rfl (lv_at hl 2 rfl) ?_
  refine lv_aload_n hx hb dX0_digest_126 rfl (lv_at hl 0 rfl) ?_
  refine C0.get hF hX 5 (by decide) rfl rfl kf_RX0_59 dX0_digest_127 ?_
  refine lv_icmp_ge (tgt := 146) hx hb dX0_digest_130 (by decide) (fun c130 => ?_) (fun c130 => ?_)
  · have c130n : N ≤ j := (nI_leI (a := N) (b := j) (by omega) (by omega)).mp c130
    have hjN : j = N := by omega
    rw [hjN] at hl
    refine lv_iconst (v := 0) hx hb dX0_digest_146 (by decide) ?_
    refine lv_istore_n (lv' := [(3, .int 0), (0, .ref (q 0)), (1, .long (dgLegs v st mk (dgHead v st mk N) N))]) hx hb dX0_digest_147 rfl hl (by decide) rfl (fun ls hl => ?_)
    refine lpW (σ := Nat) (fun k ls => (k ≤ 10) ∧ lv_has ls 4 [(0, .ref (q 0)), (1, .long (dgWords v st N (dgLegs v st mk (dgHead v st mk N) N) k)), (3, .int (nI k))]) (fun k => 10 - k) (fun k ls hI ih => ?_) (0) ⟨by omega, lv_sub hl [1, 2, 0] rfl⟩
    obtain ⟨hj, hl⟩ := hI
    refine lv_iload_n hx hb dX0_digest_148 rfl (lv_at hl 2 rfl) ?_
    refine lv_bipush (v := 10) hx hb dX0_digest_149 (by decide) ?_
    refine lv_icmp_ge (tgt := 182) hx hb dX0_digest_151 (by decide) (fun c151 => ?_) (fun c151 => ?_)
    · have c151n : 10 ≤ k := (nI_leI (a := 10) (b := k) (by omega) (by omega)).mp c151
      obtain rfl : k = 10 := by omega
      refine lv_lload_n hx hb dX0_digest_182 rfl (lv_at hl 1 rfl) ?_
      exact W.lret hx hb hr (fun t ht hW => ⟨_, rfl, rfl, ht⟩) (fun q hq => absurd hq List.not_mem_nil) dX0_digest_183
    · have c151n : ¬ 10 ≤ k := fun h9 => c151 ((nI_leI (a := 10) (b := k) (by omega) (by omega)).mpr h9)
      refine lv_lload_n hx hb dX0_digest_154 rfl (lv_at hl 1 rfl) ?_
      refine lv_aload_n hx hb dX0_digest_155 rfl (lv_at hl 0 rfl) ?_
      refine lv_iload_n hx hb dX0_digest_156 rfl (lv_at hl 2 rfl) ?_
      refine cVi (As := [.int (nI k)]) (rest := [.long (dgWords v st N (dgLegs v st mk (dgHead v st mk N) N) k)]) hF (mX0_wordOf k (by omega)) C0.mv hX (C0.rc hX) jyX0_wordOf kl_RX0_202 ⟨rfl, rfl⟩ ⟨Nat.le_of_ble_eq_true rfl, Nat.le_of_ble_eq_true rfl⟩ rfl hl.1 rfl (Nat.le_of_ble_eq_true rfl) ⟨Nat.zero_le _, Nat.zero_le _⟩ dX0_digest_157 (fun r hr9 => ?_)
      subst hr9
      refine lv_i2l hx hb dX0_digest_160 rfl ?_
      refine cSl (As := [.long (dgWords v st N (dgLegs v st mk (dgHead v st mk N) N) k), .long (Int32.toInt64 (v 3 k))]) (rest := []) hF (mX0_digested (dgWords v st N (dgLegs v st mk (dgHead v st mk N) N) k) (Int32.toInt64 (v 3 k))) Mv.const trivial jyX0_digested kl_RX0_171 ⟨rfl, rfl⟩ ⟨Nat.le_of_ble_eq_true rfl, Nat.le_of_ble_eq_true rfl⟩ rfl hl.1 rfl (Nat.le_of_ble_eq_true rfl) ⟨Nat.zero_le _, Nat.zero_le _⟩ dX0_digest_161 (fun r hr9 => ?_)
      subst hr9
      refine lv_lstore_n (lv' := [(1, .long (dg (dgWords v st N (dgLegs v st mk (dgHead v st mk N) N) k) (Int32.toInt64 (v 3 k)))), (0, .ref (q 0)), (3, .int (nI k))]) hx hb dX0_digest_164 rfl hl (by decide) rfl (fun ls hl => ?_)
      refine lv_lload_n hx hb dX0_digest_165 rfl (lv_at hl 0 rfl) ?_
      refine lv_aload_n hx hb dX0_digest_166 rfl (lv_at hl 1 rfl) ?_
      refine lv_iload_n hx hb dX0_digest_167 rfl (lv_at hl 2 rfl) ?_
      refine cVi (As := [.int (nI k)]) (rest := [.long (dg (dgWords v st N (dgLegs v st mk (dgHead v st mk N) N) k) (Int32.toInt64 (v 3 k)))]) hF (mX0_bestWord hok k (by omega)) C0.mv hX (C0.rc hX) jyX0_bestWord kl_RX0_205 ⟨rfl, rfl⟩ ⟨Nat.le_of_ble_eq_true rfl, Nat.le_of_ble_eq_true rfl⟩ rfl hl.1 rfl (Nat.le_of_ble_eq_true rfl) ⟨Nat.zero_le _, Nat.zero_le _⟩ dX0_digest_168 (fun r hr9 => ?_)
      subst hr9
      refine lv_i2l hx hb dX0_digest_171 rfl ?_
      refine cSl (As := [.long (dg (dgWords v st N (dgLegs v st mk (dgHead v st mk N) N) k) (Int32.toInt64 (v 3 k))), .long (Int32.toInt64 (nI (bwd v st N k)))]) (rest := []) hF (mX0_digested (dg (dgWords v st N (dgLegs v st mk (dgHead v st mk N) N) k) (Int32.toInt64 (v 3 k))) (Int32.toInt64 (nI (bwd v st N k)))) Mv.const trivial jyX0_digested kl_RX0_171 ⟨rfl, rfl⟩ ⟨Nat.le_of_ble_eq_true rfl, Nat.le_of_ble_eq_true rfl⟩ rfl hl.1 rfl (Nat.le_of_ble_eq_true rfl) ⟨Nat.zero_le _, Nat.zero_le _⟩ dX0_digest_172 (fun r hr9 => ?_)
      subst hr9
      refine lv_lstore_n (lv' := [(1, .long (dg (dg (dgWords v st N (dgLegs v st mk (dgHead v st mk N) N) k) (Int32.toInt64 (v 3 k))) (Int32.toInt64 (nI (bwd v st N k))))), (0, .ref (q 0)), (3, .int (nI k))]) hx hb dX0_digest_175 rfl hl (by decide) rfl (fun ls hl => ?_)
      refine lv_iinc (v := (nI (k + 1))) (lv' := [(3, .int (nI (k + 1))), (1, .long (dg (dg (dgWords v st N (dgLegs v st mk (dgHead v st mk N) N) k) (Int32.toInt64 (v 3 k))) (Int32.toInt64 (nI (bwd v st N k))))), (0, .ref (q 0))]) hx hb dX0_digest_176 hl (k := 2) rfl (nI_1 _) (by decide) rfl (fun ls hl => ?_)
      refine lv_goto (tgt := 148) hx hb dX0_digest_179 (by decide) ?_
      exact ih (k + 1) ls (by omega) ⟨by omega, by exact lv_sub hl [2, 1, 0] rfl⟩
  · have c130n : ¬ N ≤ j := fun h9 => c130 ((nI_leI (a := N) (b := j) (by omega) (by omega)).mpr h9)
    refine lv_aload_n hx hb dX0_digest_133 rfl (lv_at hl 0 rfl) ?_
    refine lv_lload_n hx hb dX0_digest_134 rfl (lv_at hl 1 rfl) ?_
    refine lv_iload_n hx hb dX0_digest_135 rfl (lv_at hl 2 rfl) ?_
    refine cVl (As := [.long (dgLegs v st mk (dgHead v st mk N) j), .int (nI j)]) (rest := []) hF (mX0_digestOfLeg hok hde (dgLegs v st mk (dgHead v st mk N) j) j (by omega)) C0.mv hX (C0.rc hX) jyX0_digestOfLeg kl_RX0_198 ⟨rfl, rfl⟩ ⟨Nat.le_of_ble_eq_true rfl, Nat.le_of_ble_eq_true rfl⟩ rfl hl.1 rfl (Nat.le_of_ble_eq_true rfl) ⟨Nat.zero_le _, Nat.zero_le _⟩ dX0_digest_136 (fun r hr9 => ?_)
    subst hr9
    refine lv_lstore_n (lv' := [(1, .long (dgLeg v st mk (dgLegs v st mk (dgHead v st mk N) j) j)), (0, .ref (q 0)), (3, .int (nI j))]) hx hb dX0_digest_139 rfl hl (by decide) rfl (fun ls hl => ?_)
    refine lv_iinc (v := (nI (j + 1))) (lv' := [(3, .int (nI (j + 1))), (1, .long (dgLeg v st mk (dgLegs v st mk (dgHead v st mk N) j) j)), (0, .ref (q 0))]) hx hb dX0_digest_140 hl (k := 2) rfl (nI_1 _) (by decide) rfl (fun ls hl => ?_)
    refine lv_goto (tgt := 125) hx hb dX0_digest_143 (by decide) ?_
    exact ih (j + 1) ls (by omega) ⟨by omega, by exact lv_sub hl [2, 1, 0] rfl⟩
end P14
