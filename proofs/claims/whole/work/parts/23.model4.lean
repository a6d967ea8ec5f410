section P23
variable {l : Launch} {D : va_G} {cyI cyZ : ClassId} {q : Nat → Nat} {N K : Nat} {n st th md : Int32} {v w : Nat → Nat → Int32} {mk : Nat → Bool}
variable {t1 : Nat}
set_option maxHeartbeats 4000000 in
set_option maxRecDepth 100000 in
theorem mX1_mendTo (hok : Ok N st v) (hmk : Mk N mk md) (z1 : Int32) (hok1 : isI z1 1 1000000 = true) : Met l yX1_mendTo (wm yX1_mendTo cX1_mendTo 5 (some .int)) ({ frames := 7, cells := 0, slots := 0, locals := 152 } : Room) (va_Pc [.ref (q 0), .int z1] (fun U => M0 D cyI cyZ q th (nI N) st md v w U U.heap)) (va_Qi (fun (r : Int32) (u : (Int32 × (Nat → Nat → Int32))) => r = nI (mdF v st N (Int32.toInt64 z1) N 0 mk).1 ∧ Mk N (mdF v st N (Int32.toInt64 z1) N 0 mk).2 u.1) (fun u U => (fun (u : (Int32 × (Nat → Nat → Int32))) => (M0 D cyI cyZ q 0 (nI N) st u.1 v u.2 : State → Heap → Prop)) u U U.heap) (own 8 q)) 0 0 (own 8 q) := by
  refine mt (by decide) (Nat.le_of_ble_eq_true rfl) ?_
  intro p ev s m below meth c ls hF hr hlocks hnm hX hl
  have hF : CallFix p m c cX1_mendTo 5 s _ wA RX1 := hF
  obtain ⟨hx, hb, hml, hown, hts⟩ := id hF
  have hX : M0 D cyI cyZ q th (nI N) st md v w s s.heap := hX
  have hl : lv_has ls 5 [(0, .ref (q 0)), (1, .int z1)] := hl
  have hS : va_S (own 8 q) s.heap s.heap [] := va_S.rf
  have hN := hok.1
  have hw1 := md_ge1 hok1
  refine lv_aload_n hx hb dX1_mendTo_0 rfl (lv_at hl 0 rfl) ?_
  refine lv_iconst (v := 0) hx hb dX1_mendTo_1 (by decide) ?_
  refine M0.put_th hF hX hS kf_RX1_35 dX1_mendTo_2 (fun H locs hX hS => ?_)
  refine lv_iload_n hx hb dX1_mendTo_5 rfl (lv_at hl 1 rfl) ?_
  refine lv_iconst (v := 1) hx hb dX1_mendTo_6 (by decide) ?_
  refine lv_ldc hx hb hown (hts _ kk_RX1_152) dX1_mendTo_7 ?_
  refine cSi (As := [.int z1, .int 1, .int 1000000]) (rest := []) hF (mX1_isIn z1 1 1000000) Mv.const trivial jyX1_isIn kl_RX1_41 ⟨rfl, rfl⟩ ⟨Nat.le_of_ble_eq_true rfl, Nat.le_of_ble_eq_true rfl⟩ rfl hl.1 rfl (Nat.le_of_ble_eq_true rfl) ⟨Nat.zero_le _, Nat.zero_le _⟩ dX1_mendTo_9 (fun r hr9 => ?_)
  subst hr9
  refine lv_if_ne (tgt := 21) hx hb dX1_mendTo_12 (by decide) (fun c12 => ?_) (fun c12 => ?_)
  · have c12b := b2i_t c12
    refine lv_iconst (v := 0) hx hb dX1_mendTo_21 (by decide) ?_
    refine lv_istore_n (lv' := [(2, .int 0), (0, .ref (q 0)), (1, .int z1)]) hx hb dX1_mendTo_22 rfl hl (by decide) rfl (fun ls hl => ?_)
    refine lpH2 (σ := Nat) (τ := ((Nat → Bool) × Int32 × (Nat → Nat → Int32))) (fun c9 y ls H locs => (c9 ≤ N ∧ Mk N y.1 y.2.1 ∧ mdF v st N (Int32.toInt64 z1) (N - c9) c9 y.1 = (mdF v st N (Int32.toInt64 z1) N 0 mk) ∧ ucn y.1 N ≤ N - c9) ∧ M0 D cyI cyZ q 0 (nI N) st y.2.1 v y.2.2 s H ∧ va_S (own 8 q) s.heap H locs ∧ lv_has ls 5 [(0, .ref (q 0)), (1, .int z1), (2, .int (nI c9))]) (fun c9 _ => N - c9) (fun c9 y ls H locs hI ihO => ?_) (0) (mk, md, w) ⟨⟨Nat.zero_le _, hmk, rfl, ucn_le mk N⟩, hX, hS, lv_sub hl [1, 2, 0] rfl⟩
    obtain ⟨hO, hX, hS, hl⟩ := hI
    have hmk := hO.2.1
    refine lv_aload_n hx hb dX1_mendTo_23 rfl (lv_at hl 0 rfl) ?_
    refine wVl (mc := 0) (ms := 0) (As := []) (rest := []) hF (mX1_all hok hmk) M0.mv (fun _ => M0.mv) hX (M0.rc hX) jyX1_all kl_RX1_153 ⟨rfl, rfl⟩ ⟨Nat.le_of_ble_eq_true rfl, Nat.le_of_ble_eq_true rfl⟩ rfl hl.1 rfl (Nat.le_of_ble_eq_true rfl) ⟨Nat.zero_le _, Nat.zero_le _⟩ hS (fun _ _ h => h) (fun _ h => h) dX1_mendTo_24 (fun r9 w1 H locs hp hX hz hk hS => ?_)
    have hr9 := hp
    subst hr9
    refine lv_iload_n hx hb dX1_mendTo_27 rfl (lv_at hl 1 rfl) ?_
    refine lv_i2l hx hb dX1_mendTo_28 rfl ?_
    refine W.lcmp hx hb dX1_mendTo_29 ?_
    refine lv_if_le (tgt := 102) hx hb dX1_mendTo_30 (by decide) (fun c30 => ?_) (fun c30 => ?_)
    · have hE := (mdF_stop (fun h => absurd ((lg_cmp_le _ _).mp c30) (Int64.not_le.mpr h))).symm.trans hO.2.2.1
      refine lv_iload_n hx hb dX1_mendTo_102 rfl (lv_at hl 2 rfl) ?_
      exact W.iret hx hb hr (fun t ht hW => ⟨⟨_, (y.2.1, w1), rfl, ⟨by rw [← hE], by rw [← hE]; exact hO.2.1⟩, wEnd M0.mv hX ht hW⟩, hS.F ht⟩) hS.2.2 dX1_mendTo_103
    · have hW9 := (lg_cmp_gt _ _).mp (Int32.not_le.mp c30)
      have hcN := md_lt hO.1 hO.2.2.2 hw1 hW9
      refine lv_iconst (v := (-1)) hx hb dX1_mendTo_33 (by decide) ?_
      refine lv_istore_n (lv' := [(3, .int (-1)), (0, .ref (q 0)), (1, .int z1), (2, .int (nI c9))]) hx hb dX1_mendTo_34 rfl hl (by decide) rfl (fun ls hl => ?_)
      refine lv_iconst (v := 0) hx hb dX1_mendTo_35 (by decide) ?_
      refine lv_istore (lv' := [(4, .int 0), (3, .int (-1)), (0, .ref (q 0)), (1, .int z1), (2, .int (nI c9))]) hx hb dX1_mendTo_36 hl (by decide) rfl (fun ls hl => ?_)
      refine lpH2 (σ := Nat) (τ := Nat → Nat → Int32) (fun j w3 ls H locs => (j ≤ N) ∧ M0 D cyI cyZ q 0 (nI N) st y.2.1 v w3 s H ∧ va_S (own 8 q) s.heap H locs ∧ lv_has ls 5 [(0, .ref (q 0)), (1, .int z1), (2, .int (nI c9)), (3, .int (optI (mst v st y.1 j))), (4, .int (nI j))]) (fun j w3 => N - j) (fun j w3 ls H locs hI ih => ?_) (0) w1 ⟨Nat.zero_le _, hX, hS, lv_sub hl [2, 3, 4, 1, 0] rfl⟩
      obtain ⟨hj, hX, hS, hl⟩ := hI
      refine lv_iload hx hb dX1_mendTo_38 (lv_at hl 4 rfl) ?_
      refine lv_aload_n hx hb dX1_mendTo_40 rfl (lv_at hl 0 rfl) ?_
      refine M0.get hF hX 1 (by decide) rfl rfl kf_RX1_38 dX1_mendTo_41 ?_
      refine lv_icmp_ge (tgt := 84) hx hb dX1_mendTo_44 (by decide) (fun c44 => ?_) (fun c44 => ?_)
      · have c44n : N ≤ j := (nI_leI (a := N) (b := j) (by omega) (by omega)).mp c44
        have hjN : j = N := by omega
        rw [hjN] at hl
        obtain ⟨b, hmb, hbN⟩ := mst_go hw1 hW9
        refine lv_aload_n hx hb dX1_mendTo_84 rfl (lv_at hl 0 rfl) ?_
        refine lv_dup hx hb dX1_mendTo_85 rfl ?_
        refine M0.get hF hX 7 (by decide) rfl rfl kf_RX1_85 dX1_mendTo_86 ?_
        refine lv_iconst (v := 1) hx hb dX1_mendTo_89 (by decide) ?_
        refine lv_iload_n hx hb dX1_mendTo_90 rfl (lv_at hl 3 rfl) ?_
        refine topI (show (optI (mst v st y.1 N)) = nI b from by rw [hmb]; rfl) ?_
        refine lv_ishl hx hb dX1_mendTo_91 ?_
        refine lv_ior hx hb dX1_mendTo_92 ?_
        refine M0.put_md hF hX hS kf_RX1_85 dX1_mendTo_93 (fun H locs hX hS => ?_)
        refine lv_iinc (v := (nI (c9 + 1))) (lv' := [(2, .int (nI (c9 + 1))), (0, .ref (q 0)), (1, .int z1), (3, .int (optI (mst v st y.1 N))), (4, .int (nI N))]) hx hb dX1_mendTo_96 hl (k := 2) rfl (nI_1 _) (by decide) rfl (fun ls hl => ?_)
        refine lv_goto (tgt := 23) hx hb dX1_mendTo_99 (by decide) ?_
        have hB := (mdF_go (f := N - c9) (by omega) hW9 hmb).symm.trans hO.2.2.1
        have hV := hO.2.2.2
        have hU := (ucn_up (amb_iff.mp (mst_amb hmb).2).1 (n := N)).2 hbN
        exact ihO (c9 + 1) (va_up y.1 b true, (y.2.1 ||| (1 <<< ((nI b) &&& 31))), w3) ls H locs (by omega) ⟨⟨by omega, Mk_set hO.2.1 hN hbN, hB, (show ucn (va_up y.1 b true) N ≤ N - (c9 + 1) by omega)⟩, hX, hS, lv_sub hl [1, 2, 0] rfl⟩
      · have c44n : ¬ N ≤ j := fun h9 => c44 ((nI_leI (a := N) (b := j) (by omega) (by omega)).mpr h9)
        refine lv_aload_n hx hb dX1_mendTo_47 rfl (lv_at hl 0 rfl) ?_
        refine lv_iload hx hb dX1_mendTo_48 (lv_at hl 4 rfl) ?_
        refine wVi (mc := 0) (ms := 0) (As := [.int (nI j)]) (rest := []) hF (mX1_isOpen hok hmk j (by omega)) M0.mv (fun _ => M0.mv) hX (M0.rc hX) jyX1_isOpen kl_RX1_94 ⟨rfl, rfl⟩ ⟨Nat.le_of_ble_eq_true rfl, Nat.le_of_ble_eq_true rfl⟩ rfl hl.1 rfl (Nat.le_of_ble_eq_true rfl) ⟨Nat.zero_le _, Nat.zero_le _⟩ hS (fun _ _ h => h) (fun _ h => h) dX1_mendTo_50 (fun r9 w2 H locs hp hX hz hk hS => ?_)
        have hr9 := hp
        subst hr9
        refine lv_if_eq (tgt := 78) hx hb dX1_mendTo_53 (by decide) (fun c53 => ?_) (fun c53 => ?_)
        · have c53b := b2i_f c53
          refine lv_iinc (v := (nI (j + 1))) (lv' := [(4, .int (nI (j + 1))), (0, .ref (q 0)), (1, .int z1), (2, .int (nI c9)), (3, .int (optI (mst v st y.1 j)))]) hx hb dX1_mendTo_78 hl (k := 4) rfl (nI_1 _) (by decide) rfl (fun ls hl => ?_)
          refine lv_goto (tgt := 38) hx hb dX1_mendTo_81 (by decide) ?_
          exact ih (j + 1) w2 ls H locs (by omega) ⟨by omega, hX, hS, by rw [mst_s0 c53b]; exact lv_sub hl [1, 2, 3, 4, 0] rfl⟩
        · have c53b := b2i_t c53
          refine lv_iload_n hx hb dX1_mendTo_56 rfl (lv_at hl 3 rfl) ?_
          refine lv_iconst (v := (-1)) hx hb dX1_mendTo_57 (by decide) ?_
          refine lv_icmp_eq (tgt := 75) hx hb dX1_mendTo_58 (by decide) (fun c58 => ?_) (fun c58 => ?_)
          · refine lv_iload hx hb dX1_mendTo_75 (lv_at hl 4 rfl) ?_
            refine lv_istore_n (lv' := [(3, .int (nI j)), (0, .ref (q 0)), (1, .int z1), (2, .int (nI c9)), (4, .int (nI j))]) hx hb dX1_mendTo_77 rfl hl (by decide) rfl (fun ls hl => ?_)
            refine lv_iinc (v := (nI (j + 1))) (lv' := [(4, .int (nI (j + 1))), (3, .int (nI j)), (0, .ref (q 0)), (1, .int z1), (2, .int (nI c9))]) hx hb dX1_mendTo_78 hl (k := 4) rfl (nI_1 _) (by decide) rfl (fun ls hl => ?_)
            refine lv_goto (tgt := 38) hx hb dX1_mendTo_81 (by decide) ?_
            exact ih (j + 1) w2 ls H locs (by omega) ⟨by omega, hX, hS, by rw [mst_s1 (by omega) c53b c58]; exact lv_sub hl [2, 3, 4, 1, 0] rfl⟩
          · obtain ⟨b0, hmb0, hb0⟩ := mst_so c58
            refine lv_aload_n hx hb dX1_mendTo_61 rfl (lv_at hl 0 rfl) ?_
            refine lv_iload hx hb dX1_mendTo_62 (lv_at hl 4 rfl) ?_
            refine wVi (mc := 0) (ms := 0) (As := [.int (nI j)]) (rest := []) hF (mX1_manyNow hok j (by omega)) M0.mv (fun _ => M0.mv) hX (M0.rc hX) jyX1_manyNow kl_RX1_91 ⟨rfl, rfl⟩ ⟨Nat.le_of_ble_eq_true rfl, Nat.le_of_ble_eq_true rfl⟩ rfl hl.1 rfl (Nat.le_of_ble_eq_true rfl) ⟨Nat.zero_le _, Nat.zero_le _⟩ hS (fun _ _ h => h) (fun _ h => h) dX1_mendTo_64 (fun r9 w3 H locs hp hX hz hk hS => ?_)
            have hr9 := hp
            subst hr9
            refine lv_aload_n hx hb dX1_mendTo_67 rfl (lv_at hl 0 rfl) ?_
            refine lv_iload_n hx hb dX1_mendTo_68 rfl (lv_at hl 3 rfl) ?_
            refine topI (show (optI (mst v st y.1 j)) = nI b0 from by rw [hmb0]; rfl) ?_
            refine wVi (mc := 0) (ms := 0) (As := [.int (nI b0)]) (rest := [.int (rdn v st j)]) hF (mX1_manyNow hok b0 (by omega)) M0.mv (fun _ => M0.mv) hX (M0.rc hX) jyX1_manyNow kl_RX1_91 ⟨rfl, rfl⟩ ⟨Nat.le_of_ble_eq_true rfl, Nat.le_of_ble_eq_true rfl⟩ rfl hl.1 rfl (Nat.le_of_ble_eq_true rfl) ⟨Nat.zero_le _, Nat.zero_le _⟩ hS (fun _ _ h => h) (fun _ h => h) dX1_mendTo_69 (fun r9 w4 H locs hp hX hz hk hS => ?_)
            have hr9 := hp
            subst hr9
            refine lv_icmp_le (tgt := 78) hx hb dX1_mendTo_72 (by decide) (fun c72 => ?_) (fun c72 => ?_)
            · refine lv_iinc (v := (nI (j + 1))) (lv' := [(4, .int (nI (j + 1))), (0, .ref (q 0)), (1, .int z1), (2, .int (nI c9)), (3, .int (optI (mst v st y.1 j)))]) hx hb dX1_mendTo_78 hl (k := 4) rfl (nI_1 _) (by decide) rfl (fun ls hl => ?_)
              refine lv_goto (tgt := 38) hx hb dX1_mendTo_81 (by decide) ?_
              exact ih (j + 1) w4 ls H locs (by omega) ⟨by omega, hX, hS, by rw [mst_s2 hmb0 c72]; exact lv_sub hl [1, 2, 3, 4, 0] rfl⟩
            · refine lv_iload hx hb dX1_mendTo_75 (lv_at hl 4 rfl) ?_
              refine lv_istore_n (lv' := [(3, .int (nI j)), (0, .ref (q 0)), (1, .int z1), (2, .int (nI c9)), (4, .int (nI j))]) hx hb dX1_mendTo_77 rfl hl (by decide) rfl (fun ls hl => ?_)
              refine lv_iinc (v := (nI (j + 1))) (lv' := [(4, .int (nI (j + 1))), (3, .int (nI j)), (0, .ref (q 0)), (1, .int z1), (2, .int (nI c9))]) hx hb dX1_mendTo_78 hl (k := 4) rfl (nI_1 _) (by decide) rfl (fun ls hl => ?_)
              refine lv_goto (tgt := 38) hx hb dX1_mendTo_81 (by decide) ?_
              exact ih (j + 1) w4 ls H locs (by omega) ⟨by omega, hX, hS, by rw [mst_s3 hmb0 c53b c72]; exact lv_sub hl [2, 3, 4, 1, 0] rfl⟩
  · have c12b := b2i_f c12
    exact absurd hok1 (by rw [c12b]; decide)
set_option maxHeartbeats 4000000 in
set_option maxRecDepth 100000 in
theorem nX1_mendTo (x : Int32) (hbad : isI x 1 1000000 = false) : Met l yX1_mendTo (wm yX1_mendTo cX1_mendTo 5 (some .int)) ({ frames := 1, cells := 0, slots := 0, locals := 22 } : Room) (va_Pc [.ref (q 0), .int x] (fun U => M0 D cyI cyZ q th (nI N) st md v w U U.heap)) (va_Qi (fun (r : Int32) (u : Nat → Nat → Int32) => True) (fun u U => (fun (u : Nat → Nat → Int32) => (M0 D cyI cyZ q 1 (nI N) st md v u : State → Heap → Prop)) u U U.heap) (own 8 q)) 0 0 (own 8 q) := by
  refine mt (by decide) (Nat.le_of_ble_eq_true rfl) ?_
  intro p ev s m below meth c ls hF hr hlocks hnm hX hl
  have hF : CallFix p m c cX1_mendTo 5 s _ wA RX1 := hF
  obtain ⟨hx, hb, hml, hown, hts⟩ := id hF
  have hX : M0 D cyI cyZ q th (nI N) st md v w s s.heap := hX
  have hl : lv_has ls 5 [(0, .ref (q 0)), (1, .int x)] := hl
  have hS : va_S (own 8 q) s.heap s.heap [] := va_S.rf
  refine lv_aload_n hx hb dX1_mendTo_0 rfl (lv_at hl 0 rfl) ?_
  refine lv_iconst (v := 0) hx hb dX1_mendTo_1 (by decide) ?_
  refine M0.put_th hF hX hS kf_RX1_35 dX1_mendTo_2 (fun H locs hX hS => ?_)
  refine lv_iload_n hx hb dX1_mendTo_5 rfl (lv_at hl 1 rfl) ?_
  refine lv_iconst (v := 1) hx hb dX1_mendTo_6 (by decide) ?_
  refine lv_ldc hx hb hown (hts _ kk_RX1_152) dX1_mendTo_7 ?_
  refine cSi (As := [.int x, .int 1, .int 1000000]) (rest := []) hF (mX1_isIn x 1 1000000) Mv.const trivial jyX1_isIn kl_RX1_41 ⟨rfl, rfl⟩ ⟨Nat.le_of_ble_eq_true rfl, Nat.le_of_ble_eq_true rfl⟩ rfl hl.1 rfl (Nat.le_of_ble_eq_true rfl) ⟨Nat.zero_le _, Nat.zero_le _⟩ dX1_mendTo_9 (fun r hr9 => ?_)
  subst hr9
  refine lv_if_ne (tgt := 21) hx hb dX1_mendTo_12 (by decide) (fun c12 => ?_) (fun c12 => ?_)
  · have c12b := b2i_t c12
    exact absurd hbad (by rw [c12b]; decide)
  · have c12b := b2i_f c12
    refine lv_aload_n hx hb dX1_mendTo_15 rfl (lv_at hl 0 rfl) ?_
    refine lv_iconst (v := 1) hx hb dX1_mendTo_16 (by decide) ?_
    refine wVi (mc := 0) (ms := 0) (As := [.int 1]) (rest := []) hF (mX1_no 1) M0.mv (fun _ => M0.mv) hX (M0.rc hX) jyX1_no kl_RX1_112 ⟨rfl, rfl⟩ ⟨Nat.le_of_ble_eq_true rfl, Nat.le_of_ble_eq_true rfl⟩ rfl hl.1 rfl (Nat.le_of_ble_eq_true rfl) ⟨Nat.zero_le _, Nat.zero_le _⟩ hS (fun _ _ h => h) (fun _ h => h) dX1_mendTo_17 (fun r9 w1 H locs hp hX hz hk hS => ?_)
    have hr9 := hp
    rw [hr9]
    exact W.iret hx hb hr (fun t ht hW => ⟨⟨_, w1, rfl, trivial, wEnd M0.mv hX ht hW⟩, hS.F ht⟩) hS.2.2 dX1_mendTo_20
set_option maxHeartbeats 4000000 in
set_option maxRecDepth 100000 in
theorem mX1_meanNote (hok : Ok N st v) : Met l yX1_meanNote (wm yX1_meanNote cX1_meanNote 3 (some .double)) ({ frames := 3, cells := 0, slots := 0, locals := 65 } : Room) (va_Pc [.ref (q 0)] (fun U => M0 D cyI cyZ q th (nI N) st md v w U U.heap)) (va_Qd (fun (r : UInt64) (u : Nat → Nat → Int32) => r = mean v st N) (fun u U => (fun (u : Nat → Nat → Int32) => (M0 D cyI cyZ q 0 (nI N) st md v u : State → Heap → Prop)) u U U.heap) (own 8 q)) 0 0 (own 8 q) := by
  refine mt (by decide) (Nat.le_of_ble_eq_true rfl) ?_
  intro p ev s m below meth c ls hF hr hlocks hnm hX hl
  have hF : CallFix p m c cX1_meanNote 3 s _ wA RX1 := hF
  obtain ⟨hx, hb, hml, hown, hts⟩ := id hF
  have hX : M0 D cyI cyZ q th (nI N) st md v w s s.heap := hX
  have hl : lv_has ls 3 [(0, .ref (q 0))] := hl
  have hS : va_S (own 8 q) s.heap s.heap [] := va_S.rf
  have hN := hok.1
  refine lv_aload_n hx hb dX1_meanNote_0 rfl (lv_at hl 0 rfl) ?_
  refine lv_iconst (v := 0) hx hb dX1_meanNote_1 (by decide) ?_
  refine M0.put_th hF hX hS kf_RX1_35 dX1_meanNote_2 (fun H locs hX hS => ?_)
  refine lv_aload_n hx hb dX1_meanNote_5 rfl (lv_at hl 0 rfl) ?_
  refine lv_aload_n hx hb dX1_meanNote_6 rfl (lv_at hl 0 rfl) ?_
  refine M0.get hF hX 2 (by decide) rfl rfl kf_RX1_7 dX1_meanNote_7 ?_
  refine wVv (mc := 0) (ms := 0) (As := [.int st]) (rest := []) hF (mX1_sing hok st) M0.mv (fun _ => M0.mv) hX (M0.rc hX) jyX1_sing kl_RX1_68 ⟨rfl, rfl⟩ ⟨Nat.le_of_ble_eq_true rfl, Nat.le_of_ble_eq_true rfl⟩ rfl hl.1 rfl (Nat.le_of_ble_eq_true rfl) ⟨Nat.zero_le _, Nat.zero_le _⟩ hS (fun _ _ h => h) (fun _ h => h) dX1_meanNote_10 (fun w1 H locs hp hX hz hk hS => ?_)
  have hsg := hp
  refine lv_iconst (v := 0) hx hb dX1_meanNote_13 (by decide) ?_
  refine lv_istore_n (lv' := [(1, .int 0), (0, .ref (q 0))]) hx hb dX1_meanNote_14 rfl hl (by decide) rfl (fun ls hl => ?_)
  refine lv_iconst (v := 1) hx hb dX1_meanNote_15 (by decide) ?_
  refine lv_istore_n (lv' := [(2, .int 1), (1, .int 0), (0, .ref (q 0))]) hx hb dX1_meanNote_16 rfl hl (by decide) rfl (fun ls hl => ?_)
  refine lpW (σ := Nat) (fun j ls => (j ≤ N) ∧ lv_has ls 3 [(0, .ref (q 0)), (1, .int (sumI (fun k => nt (v 0) st (k + 1)) j)), (2, .int (nI (j + 1)))]) (fun j => N - j) (fun j ls hI ih => ?_) (0) ⟨Nat.zero_le _, lv_sub hl [2, 1, 0] rfl⟩
  obtain ⟨hj, hl⟩ := hI
  refine lv_iload_n hx hb dX1_meanNote_17 rfl (lv_at hl 2 rfl) ?_
  refine lv_aload_n hx hb dX1_meanNote_18 rfl (lv_at hl 0 rfl) ?_
  refine M0.get hF hX 1 (by decide) rfl rfl kf_RX1_38 dX1_meanNote_19 ?_
  refine lv_icmp_gt (tgt := 40) hx hb dX1_meanNote_22 (by decide) (fun c22 => ?_) (fun c22 => ?_)
  · have c22n : N < (j + 1) := (nI_ltI (a := N) (b := (j + 1)) (by omega) (by omega)).mp c22
    have hjN : j = N := by omega
    rw [hjN] at hl
    refine lv_aload_n hx hb dX1_meanNote_40 rfl (lv_at hl 0 rfl) ?_
    refine M0.get hF hX 1 (by decide) rfl rfl kf_RX1_38 dX1_meanNote_41 ?_
    refine lv_if_ne (tgt := 51) hx hb dX1_meanNote_44 (by decide) (fun c44 => ?_) (fun c44 => ?_)
    · have c44n : ¬ N = 0 := fun h9 => c44 ((nI_eq (a := N) (b := 0) (by omega) (by omega)).mpr h9)
      refine lv_iload_n hx hb dX1_meanNote_51 rfl (lv_at hl 1 rfl) ?_
      refine lv_i2d hx hb dX1_meanNote_52 ?_
      refine lv_aload_n hx hb dX1_meanNote_53 rfl (lv_at hl 0 rfl) ?_
      refine M0.get hF hX 1 (by decide) rfl rfl kf_RX1_38 dX1_meanNote_54 ?_
      refine lv_i2d hx hb dX1_meanNote_57 ?_
      refine lv_ddiv hx hb dX1_meanNote_58 (mean_fin hok (by omega)) ?_
      exact W.dret hx hb hr (fun t ht hW => ⟨⟨_, w1, rfl, (mean_1 (by omega)), wEnd M0.mv hX ht hW⟩, hS.F ht⟩) hS.2.2 dX1_meanNote_59
    · have c44n : N = 0 := (nI_eq (a := N) (b := 0) (by omega) (by omega)).mp c44
      refine lv_dconst0 hx hb dX1_meanNote_47 ?_
      refine lv_goto (tgt := 59) hx hb dX1_meanNote_48 (by decide) ?_
      exact W.dret hx hb hr (fun t ht hW => ⟨⟨_, w1, rfl, (mean_0 (by omega)), wEnd M0.mv hX ht hW⟩, hS.F ht⟩) hS.2.2 dX1_meanNote_59
  · have c22n : ¬ N < (j + 1) := fun h9 => c22 ((nI_ltI (a := N) (b := (j + 1)) (by omega) (by omega)).mpr h9)
    refine lv_iload_n hx hb dX1_meanNote_25 rfl (lv_at hl 1 rfl) ?_
    refine lv_aload_n hx hb dX1_meanNote_26 rfl (lv_at hl 0 rfl) ?_
    refine M0.get hF hX 8 (by decide) rfl rfl kf_RX1_26 dX1_meanNote_27 ?_
    refine lv_iload_n hx hb dX1_meanNote_30 rfl (lv_at hl 2 rfl) ?_
    refine aldI hF hX.2.1 hX.1 5 0 rfl rfl (j + 1) (by omega) (by decide) rfl dX1_meanNote_31 ?_
    refine topI (show (w1 0 (j + 1)) = nt (v 0) st (j + 1) from hsg (j + 1) (by omega)) ?_
    refine lv_iadd hx hb dX1_meanNote_32 ?_
    refine lv_istore_n (lv' := [(1, .int ((sumI (fun k => nt (v 0) st (k + 1)) j) + (nt (v 0) st (j + 1)))), (0, .ref (q 0)), (2, .int (nI (j + 1)))]) hx hb dX1_meanNote_33 rfl hl (by decide) rfl (fun ls hl => ?_)
    refine lv_iinc (v := (nI (j + 1 + 1))) (lv' := [(2, .int (nI (j + 1 + 1))), (1, .int ((sumI (fun k => nt (v 0) st (k + 1)) j) + (nt (v 0) st (j + 1)))), (0, .ref (q 0))]) hx hb dX1_meanNote_34 hl (k := 2) rfl (nI_1 _) (by decide) rfl (fun ls hl => ?_)
    refine lv_goto (tgt := 17) hx hb dX1_meanNote_37 (by decide) ?_
    exact ih (j + 1) ls (by omega) ⟨by omega, by exact lv_sub hl [2, 1, 0] rfl⟩
set_option maxHeartbeats 4000000 in
set_option maxRecDepth 100000 in
theorem mX0_meanNote (hok : Ok N st v) (hde : Der N st v w) : Met l yX0_meanNote (wm yX0_meanNote cX0_meanNote 3 (some .double)) ({ frames := 0, cells := 0, slots := 0, locals := 0 } : Room) (va_Pc [.ref (q 0)] (fun U => C0 D cyI cyZ q (nI N) st v mk w U U.heap)) (vp_Sd (fun r => r = mean v st N)) 0 0 (fun _ => False) := by
  refine mt (by decide) (Nat.le_of_ble_eq_true rfl) ?_
  intro p ev s m below meth c ls hF hr hlocks hnm hX hl
  have hF : CallFix p m c cX0_meanNote 3 s _ wA RX0 := hF
  obtain ⟨hx, hb, hml, hown, hts⟩ := id hF
  have hX : C0 D cyI cyZ q (nI N) st v mk w s s.heap := hX
  have hl : lv_has ls 3 [(0, .ref (q 0))] := hl
  have hN := hok.1
  refine lv_aload_n hx hb dX0_meanNote_0 rfl (lv_at hl 0 rfl) ?_
  refine C0.get hF hX 5 (by decide) rfl rfl kf_RX0_59 dX0_meanNote_1 ?_
  refine lv_if_gt (tgt := 9) hx hb dX0_meanNote_4 (by decide) (fun c4 => ?_) (fun c4 => ?_)
  · have c4n : 0 < N := (nI_ltI (a := 0) (b := N) (by omega) (by omega)).mp c4
    refine lv_iconst (v := 0) hx hb dX0_meanNote_9 (by decide) ?_
    refine lv_istore_n (lv' := [(1, .int 0), (0, .ref (q 0))]) hx hb dX0_meanNote_10 rfl hl (by decide) rfl (fun ls hl => ?_)
    refine lv_iconst (v := 0) hx hb dX0_meanNote_11 (by decide) ?_
    refine lv_istore_n (lv' := [(2, .int 0), (1, .int 0), (0, .ref (q 0))]) hx hb dX0_meanNote_12 rfl hl (by decide) rfl (fun ls hl => ?_)
    refine lpW (σ := Nat) (fun j ls => (j ≤ N) ∧ lv_has ls 3 [(0, .ref (q 0)), (1, .int (sumI (fun k => nt (v 0) st (k + 1)) j)), (2, .int (nI j))]) (fun j => N - j) (fun j ls hI ih => ?_) (0) ⟨Nat.zero_le _, lv_sub hl [2, 1, 0] rfl⟩
    obtain ⟨hj, hl⟩ := hI
    refine lv_iload_n hx hb dX0_meanNote_13 rfl (lv_at hl 2 rfl) ?_
    refine lv_aload_n hx hb dX0_meanNote_14 rfl (lv_at hl 0 rfl) ?_
    refine C0.get hF hX 5 (by decide) rfl rfl kf_RX0_59 dX0_meanNote_15 ?_
    refine lv_icmp_ge (tgt := 36) hx hb dX0_meanNote_18 (by decide) (fun c18 => ?_) (fun c18 => ?_)
    · have c18n : N ≤ j := (nI_leI (a := N) (b := j) (by omega) (by omega)).mp c18
      have hjN : j = N := by omega
      rw [hjN] at hl
      refine lv_iload_n hx hb dX0_meanNote_36 rfl (lv_at hl 1 rfl) ?_
      refine lv_i2d hx hb dX0_meanNote_37 ?_
      refine lv_aload_n hx hb dX0_meanNote_38 rfl (lv_at hl 0 rfl) ?_
      refine C0.get hF hX 5 (by decide) rfl rfl kf_RX0_59 dX0_meanNote_39 ?_
      refine lv_i2d hx hb dX0_meanNote_42 ?_
      refine lv_ddiv hx hb dX0_meanNote_43 (mean_fin hok (by omega)) ?_
      exact W.dret hx hb hr (fun t ht hW => ⟨_, rfl, (mean_1 (by omega)), ht⟩) (fun q hq => absurd hq List.not_mem_nil) dX0_meanNote_44
    · have c18n : ¬ N ≤ j := fun h9 => c18 ((nI_leI (a := N) (b := j) (by omega) (by omega)).mpr h9)
      refine lv_iload_n hx hb dX0_meanNote_21 rfl (lv_at hl 1 rfl) ?_
      refine lv_aload_n hx hb dX0_meanNote_22 rfl (lv_at hl 0 rfl) ?_
      refine C0.get hF hX 10 (by decide) rfl rfl kf_RX0_35 dX0_meanNote_23 ?_
      refine lv_iload_n hx hb dX0_meanNote_26 rfl (lv_at hl 2 rfl) ?_
      refine aldI hF hX.2.1 hX.1 9 0 rfl rfl j (by omega) (by decide) rfl dX0_meanNote_27 ?_
      refine topI (show (w 3 j) = nt (v 0) st (j + 1) from (hde j (by omega)).2.2.2) ?_
      refine lv_iadd hx hb dX0_meanNote_28 ?_
      refine lv_istore_n (lv' := [(1, .int ((sumI (fun k => nt (v 0) st (k + 1)) j) + (nt (v 0) st (j + 1)))), (0, .ref (q 0)), (2, .int (nI j))]) hx hb dX0_meanNote_29 rfl hl (by decide) rfl (fun ls hl => ?_)
      refine lv_iinc (v := (nI (j + 1))) (lv' := [(2, .int (nI (j + 1))), (1, .int ((sumI (fun k => nt (v 0) st (k + 1)) j) + (nt (v 0) st (j + 1)))), (0, .ref (q 0))]) hx hb dX0_meanNote_30 hl (k := 2) rfl (nI_1 _) (by decide) rfl (fun ls hl => ?_)
      refine lv_goto (tgt := 13) hx hb dX0_meanNote_33 (by decide) ?_
      exact ih (j + 1) ls (by omega) ⟨by omega, by exact lv_sub hl [2, 1, 0] rfl⟩
  · have c4n : ¬ 0 < N := fun h9 => c4 ((nI_ltI (a := 0) (b := N) (by omega) (by omega)).mpr h9)
    refine lv_dconst0 hx hb dX0_meanNote_7 ?_
    exact W.dret hx hb hr (fun t ht hW => ⟨_, rfl, (mean_0 (by omega)), ht⟩) (fun q hq => absurd hq List.not_mem_nil) dX0_meanNote_8
end P23
