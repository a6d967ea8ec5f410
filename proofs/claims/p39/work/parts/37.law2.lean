section P37
variable {p : Program} {l : Launch} {ev : Env} {s : State} {m : MethodId} {below : List Frame} {meth : Method} {c : Code} {cells slots : Nat} {Q : State → Prop}
variable {D : va_G} {cyI cyZ cyA : ClassId} {q : Nat → Nat} {sm wa lg N t1 t2 sb L : Nat} {a : Nat → Nat} {st t9 y0 : Int32} {xs : Nat → Int32} {v w : Nat → Nat → Int32} {mk : Nat → Bool} {H : Heap} {locs : List Loc} {ls : Array Slot}
set_option maxHeartbeats 32000000 in
set_option maxRecDepth 100000 in
theorem law_mid (hF : CallFix p m c cL_law 27 s #[Value.ref sb] wA RL) (hcs : cells ≤ 5000 ∧ slots ≤ 50000) (hC : C0 D cyI cyZ q (nI N) st v mk w s H) (hX : S0 D cyI cyA sm wa lg a N st (v 3) (rowV v st mk) s H) (hinv : Inv N st v mk) (hde : Der N st v w) (hS : va_S (fun z => s.heap.size ≤ z) s.heap H locs) (KK : ∀ (H1 : Heap) (locs1 : List Loc) (ls : Array Slot), C0 D cyI cyZ q (nI N) st v mk w s H1 → S0 D cyI cyA sm wa lg a N st (v 3) (rowV v st mk) s H1 → va_S (fun z => s.heap.size ≤ z) s.heap H1 locs1 → lv_has ls 27 [(0, .ref sb), (1, .ref (q 0)), (2, .ref sm), (3, .int t9), (4, .int y0), (7, .int (nI N)), (11, .int (ctB (amb v st mk) N)), (15, .int (fam v st mk N)), (16, .long (wys v st mk N))] → W p l ev room_1 s m #[Value.ref sb] below meth c H1 locs1 (cells + 60) (slots + 500) Q (F0 m 833 ls [])) (hl : lv_has ls 27 [(0, .ref sb), (1, .ref (q 0)), (2, .ref sm), (3, .int t9), (4, .int y0), (5, .long (dgst v st mk N)), (7, .int (nI N)), (11, .int (ctB (amb v st mk) N)), (12, .int (ctB (umP v (v 3) st) N)), (13, .int (ctB (fold1 v st) N)), (14, .int (sumI (v 1) N)), (15, .int (fam v st mk N)), (16, .long (wys v st mk N))]) : W p l ev room_1 s m #[Value.ref sb] below meth c H locs cells slots Q (F0 m 508 ls []) := by
  obtain ⟨hx, hb, hml, hown, hts⟩ := id hF
  have hn16 : N ≤ 16 := hinv.1.1
  refine lv_iconst (v := 0) hx hb dL_law_508 (by decide) ?_
  refine lv_istore (lv' := [(18, .int 0), (0, .ref sb), (1, .ref (q 0)), (2, .ref sm), (3, .int t9), (4, .int y0), (5, .long (dgst v st mk N)), (7, .int (nI N)), (11, .int (ctB (amb v st mk) N)), (12, .int (ctB (umP v (v 3) st) N)), (13, .int (ctB (fold1 v st) N)), (14, .int (sumI (v 1) N)), (15, .int (fam v st mk N)), (16, .long (wys v st mk N))]) hx hb dL_law_509 hl (by decide) rfl (fun ls hl => ?_)
  refine lv_iconst (v := 0) hx hb dL_law_511 (by decide) ?_
  refine lv_istore (lv' := [(19, .int 0), (18, .int 0), (0, .ref sb), (1, .ref (q 0)), (2, .ref sm), (3, .int t9), (4, .int y0), (5, .long (dgst v st mk N)), (7, .int (nI N)), (11, .int (ctB (amb v st mk) N)), (12, .int (ctB (umP v (v 3) st) N)), (13, .int (ctB (fold1 v st) N)), (14, .int (sumI (v 1) N)), (15, .int (fam v st mk N)), (16, .long (wys v st mk N))]) hx hb dL_law_512 hl (by decide) rfl (fun ls hl => ?_)
  refine lpW (σ := Nat) (fun o ls => (o ≤ 10) ∧ lv_has ls 27 [(0, .ref sb), (1, .ref (q 0)), (2, .ref sm), (3, .int t9), (4, .int y0), (5, .long (dgst v st mk N)), (7, .int (nI N)), (11, .int (ctB (amb v st mk) N)), (12, .int (ctB (umP v (v 3) st) N)), (13, .int (ctB (fold1 v st) N)), (14, .int (sumI (v 1) N)), (15, .int (fam v st mk N)), (16, .long (wys v st mk N)), (18, .int (sumI (fun z => sung v (nI z) N) o)), (19, .int (nI o))]) (fun o => 10 - o) (fun o ls hI ih2 => ?_) (0) ⟨Nat.zero_le _, lv_sub hl [2, 3, 4, 5, 6, 7, 8, 9, 10, 11, 12, 13, 14, 1, 0] rfl⟩
  obtain ⟨ho1, hl⟩ := hI
  refine lv_iload hx hb dL_law_514 (lv_at hl 14 rfl) ?_
  refine lv_bipush (v := 10) hx hb dL_law_516 (by decide) ?_
  refine lv_icmp_ge (tgt := 538) hx hb dL_law_518 (by decide) (fun c518 => ?_) (fun c518 => ?_)
  · have c518n : 10 ≤ o := (nI_leI (a := 10) (b := o) (by omega) (by omega)).mp c518
    have hx9 : o = 10 := by omega
    rw [hx9] at hl
    refine lv_iload hx hb dL_law_538 (lv_at hl 13 rfl) ?_
    refine lv_iload hx hb dL_law_540 (lv_at hl 6 rfl) ?_
    refine lv_icmp_ne (tgt := 683) hx hb dL_law_542 (by decide) (fun c542 => ?_) (fun c542 => ?_)
    · exact absurd (sung_all hinv N) c542
    · refine lv_iload hx hb dL_law_545 (lv_at hl 7 rfl) ?_
      refine lv_aload_n hx hb dL_law_547 rfl (lv_at hl 1 rfl) ?_
      refine cVi (As := []) (rest := [.int (ctB (amb v st mk) N)]) hF (mX0_ambiguous hinv.1 hde) C0.mv hC (C0.rc hC) jyX0_ambiguous kl_RL_139 ⟨rfl, rfl⟩ ⟨Nat.le_of_ble_eq_true rfl, Nat.le_of_ble_eq_true rfl⟩ rfl hl.1 rfl (Nat.le_of_ble_eq_true rfl) ⟨(by show _ ≤ 600130; omega), (by show _ ≤ 7301080; omega)⟩ dL_law_548 (fun r9 hr9 => ?_)
      subst hr9
      refine lv_icmp_ne (tgt := 683) hx hb dL_law_551 (by decide) (fun c551 => ?_) (fun c551 => ?_)
      · exact absurd rfl c551
      · refine lv_iload hx hb dL_law_554 (lv_at hl 11 rfl) ?_
        refine lv_aload_n hx hb dL_law_556 rfl (lv_at hl 1 rfl) ?_
        refine cVi (As := []) (rest := [.int (fam v st mk N)]) hF (mX0_firstAmbiguous hinv.1 hde) C0.mv hC (C0.rc hC) jyX0_firstAmbiguous kl_RL_142 ⟨rfl, rfl⟩ ⟨Nat.le_of_ble_eq_true rfl, Nat.le_of_ble_eq_true rfl⟩ rfl hl.1 rfl (Nat.le_of_ble_eq_true rfl) ⟨(by show _ ≤ 600130; omega), (by show _ ≤ 7301080; omega)⟩ dL_law_557 (fun r9 hr9 => ?_)
        subst hr9
        refine lv_icmp_ne (tgt := 683) hx hb dL_law_560 (by decide) (fun c560 => ?_) (fun c560 => ?_)
        · exact absurd rfl c560
        · refine lv_lload hx hb dL_law_563 (lv_at hl 12 rfl) ?_
          refine lv_aload_n hx hb dL_law_565 rfl (lv_at hl 1 rfl) ?_
          refine cVl (As := []) (rest := [.long (wys v st mk N)]) hF (mX0_ways hinv.1 hde) C0.mv hC (C0.rc hC) jyX0_ways kl_RL_145 ⟨rfl, rfl⟩ ⟨Nat.le_of_ble_eq_true rfl, Nat.le_of_ble_eq_true rfl⟩ rfl hl.1 rfl (Nat.le_of_ble_eq_true rfl) ⟨(by show _ ≤ 600130; omega), (by show _ ≤ 7301080; omega)⟩ dL_law_566 (fun r9 hr9 => ?_)
          subst hr9
          refine W.lcmp hx hb dL_law_569 ?_
          refine lv_if_ne (tgt := 683) hx hb dL_law_570 (by decide) (fun c570 => ?_) (fun c570 => ?_)
          · exact absurd ((lg_cmp_eq _ _).mpr rfl) c570
          · refine cutR (pc2 := 600) (st2 := []) (fun ls => lv_has ls 27 [(0, .ref sb), (1, .ref (q 0)), (2, .ref sm), (3, .int t9), (4, .int y0), (5, .long (dgst v st mk N)), (7, .int (nI N)), (11, .int (ctB (amb v st mk) N)), (12, .int (ctB (umP v (v 3) st) N)), (13, .int (ctB (fold1 v st) N)), (14, .int (sumI (v 1) N)), (15, .int (fam v st mk N)), (16, .long (wys v st mk N)), (18, .int (sumI (fun z => sung v (nI z) N) 10)), (19, .int (nI 10))]) (fun ls hl => ?_) (fun J600 => ?_)
            · refine lv_iload hx hb dL_law_600 (lv_at hl 9 rfl) ?_
              refine lv_aload_n hx hb dL_law_602 rfl (lv_at hl 1 rfl) ?_
              refine cVi (As := []) (rest := [.int (ctB (fold1 v st) N)]) hF (mX0_folded hinv.1 hde) C0.mv hC (C0.rc hC) jyX0_folded kl_RL_148 ⟨rfl, rfl⟩ ⟨Nat.le_of_ble_eq_true rfl, Nat.le_of_ble_eq_true rfl⟩ rfl hl.1 rfl (Nat.le_of_ble_eq_true rfl) ⟨(by show _ ≤ 600130; omega), (by show _ ≤ 7301080; omega)⟩ dL_law_603 (fun r9 hr9 => ?_)
              subst hr9
              refine lv_icmp_ne (tgt := 683) hx hb dL_law_606 (by decide) (fun c606 => ?_) (fun c606 => ?_)
              · exact absurd rfl c606
              · refine lv_iload hx hb dL_law_609 (lv_at hl 10 rfl) ?_
                refine lv_aload_n hx hb dL_law_611 rfl (lv_at hl 1 rfl) ?_
                refine cVi (As := []) (rest := [.int (sumI (v 1) N)]) hF (mX0_beats hinv.1 hde) C0.mv hC (C0.rc hC) jyX0_beats kl_RL_151 ⟨rfl, rfl⟩ ⟨Nat.le_of_ble_eq_true rfl, Nat.le_of_ble_eq_true rfl⟩ rfl hl.1 rfl (Nat.le_of_ble_eq_true rfl) ⟨(by show _ ≤ 600130; omega), (by show _ ≤ 7301080; omega)⟩ dL_law_612 (fun r9 hr9 => ?_)
                subst hr9
                refine lv_icmp_ne (tgt := 683) hx hb dL_law_615 (by decide) (fun c615 => ?_) (fun c615 => ?_)
                · exact absurd rfl c615
                · refine lv_aload_n hx hb dL_law_618 rfl (lv_at hl 1 rfl) ?_
                  refine cVi (As := []) (rest := []) hF (mX0_stepsHome hinv.1 hde) C0.mv hC (C0.rc hC) jyX0_stepsHome kl_RL_154 ⟨rfl, rfl⟩ ⟨Nat.le_of_ble_eq_true rfl, Nat.le_of_ble_eq_true rfl⟩ rfl hl.1 rfl (Nat.le_of_ble_eq_true rfl) ⟨(by show _ ≤ 600130; omega), (by show _ ≤ 7301080; omega)⟩ dL_law_619 (fun r9 hr9 => ?_)
                  subst hr9
                  refine lv_iload hx hb dL_law_622 (lv_at hl 10 rfl) ?_
                  refine lv_icmp_gt (tgt := 683) hx hb dL_law_624 (by decide) (fun c624 => ?_) (fun c624 => ?_)
                  · exact absurd (home_le hinv) (Int32.not_le.mpr c624)
                  · refine lv_aload_n hx hb dL_law_627 rfl (lv_at hl 1 rfl) ?_
                    refine cVi (As := []) (rest := []) hF (mX0_stepsHome hinv.1 hde) C0.mv hC (C0.rc hC) jyX0_stepsHome kl_RL_154 ⟨rfl, rfl⟩ ⟨Nat.le_of_ble_eq_true rfl, Nat.le_of_ble_eq_true rfl⟩ rfl hl.1 rfl (Nat.le_of_ble_eq_true rfl) ⟨(by show _ ≤ 600130; omega), (by show _ ≤ 7301080; omega)⟩ dL_law_628 (fun r9 hr9 => ?_)
                    subst hr9
                    refine lv_aload_n hx hb dL_law_631 rfl (lv_at hl 1 rfl) ?_
                    refine cVi (As := []) (rest := [.int (mx (ab (px (v 0) (v 1) N)) (ab (py (v 0) (v 1) N)))]) hF (mX0_endX hinv.1 hde) C0.mv hC (C0.rc hC) jyX0_endX kl_RL_157 ⟨rfl, rfl⟩ ⟨Nat.le_of_ble_eq_true rfl, Nat.le_of_ble_eq_true rfl⟩ rfl hl.1 rfl (Nat.le_of_ble_eq_true rfl) ⟨(by show _ ≤ 600130; omega), (by show _ ≤ 7301080; omega)⟩ dL_law_632 (fun r9 hr9 => ?_)
                    subst hr9
                    refine va_mabs hx hb (hml.trans hl.1.symm) hown (hts _ kl_RL_160) (hts _ ks_LM_abs_name) (hts _ kn_Math) (hts _ kd_LM_abs_name) (Nat.le_of_ble_eq_true rfl) (Nat.le_of_ble_eq_true rfl) (by show _ ≤ 600130; omega) (by show _ ≤ 7301080; omega) dL_law_635 ?_
                    refine lv_aload_n hx hb dL_law_638 rfl (lv_at hl 1 rfl) ?_
                    refine cVi (As := []) (rest := [.int (ab (px (v 0) (v 1) N)), .int (mx (ab (px (v 0) (v 1) N)) (ab (py (v 0) (v 1) N)))]) hF (mX0_endY hinv.1 hde) C0.mv hC (C0.rc hC) jyX0_endY kl_RL_163 ⟨rfl, rfl⟩ ⟨Nat.le_of_ble_eq_true rfl, Nat.le_of_ble_eq_true rfl⟩ rfl hl.1 rfl (Nat.le_of_ble_eq_true rfl) ⟨(by show _ ≤ 600130; omega), (by show _ ≤ 7301080; omega)⟩ dL_law_639 (fun r9 hr9 => ?_)
                    subst hr9
                    refine va_mabs hx hb (hml.trans hl.1.symm) hown (hts _ kl_RL_160) (hts _ ks_LM_abs_name) (hts _ kn_Math) (hts _ kd_LM_abs_name) (Nat.le_of_ble_eq_true rfl) (Nat.le_of_ble_eq_true rfl) (by show _ ≤ 600130; omega) (by show _ ≤ 7301080; omega) dL_law_642 ?_
                    refine va_mmax hx hb (hml.trans hl.1.symm) hown (hts _ kl_RL_166) (hts _ ks_LM_max_name) (hts _ kn_Math) (hts _ kd_LM_max_name) (Nat.le_of_ble_eq_true rfl) (Nat.le_of_ble_eq_true rfl) (by show _ ≤ 600130; omega) (by show _ ≤ 7301080; omega) dL_law_645 ?_
                    refine lv_icmp_ne (tgt := 683) hx hb dL_law_648 (by decide) (fun c648 => ?_) (fun c648 => ?_)
                    · exact absurd rfl c648
                    · refine lv_aload_n hx hb dL_law_651 rfl (lv_at hl 1 rfl) ?_
                      refine cVi (As := []) (rest := []) hF (mX0_returns hinv.1 hde) C0.mv hC (C0.rc hC) jyX0_returns kl_RL_169 ⟨rfl, rfl⟩ ⟨Nat.le_of_ble_eq_true rfl, Nat.le_of_ble_eq_true rfl⟩ rfl hl.1 rfl (Nat.le_of_ble_eq_true rfl) ⟨(by show _ ≤ 600130; omega), (by show _ ≤ 7301080; omega)⟩ dL_law_652 (fun r9 hr9 => ?_)
                      subst hr9
                      refine lv_if_lt (tgt := 683) hx hb dL_law_655 (by decide) (fun c655 => ?_) (fun c655 => ?_)
                      · exact absurd c655 (ct_lo _ hn16)
                      · refine lv_aload_n hx hb dL_law_658 rfl (lv_at hl 1 rfl) ?_
                        refine cVi (As := []) (rest := []) hF (mX0_returns hinv.1 hde) C0.mv hC (C0.rc hC) jyX0_returns kl_RL_169 ⟨rfl, rfl⟩ ⟨Nat.le_of_ble_eq_true rfl, Nat.le_of_ble_eq_true rfl⟩ rfl hl.1 rfl (Nat.le_of_ble_eq_true rfl) ⟨(by show _ ≤ 600130; omega), (by show _ ≤ 7301080; omega)⟩ dL_law_659 (fun r9 hr9 => ?_)
                        subst hr9
                        refine lv_iload hx hb dL_law_662 (lv_at hl 6 rfl) ?_
                        refine lv_icmp_gt (tgt := 683) hx hb dL_law_664 (by decide) (fun c664 => ?_) (fun c664 => ?_)
                        · exact absurd (ct_hi _ hn16) (Int32.not_le.mpr c664)
                        · refine lv_aload_n hx hb dL_law_667 rfl (lv_at hl 1 rfl) ?_
                          refine cVi (As := []) (rest := []) hF (mX0_range hinv.1 hde) C0.mv hC (C0.rc hC) jyX0_range kl_RL_172 ⟨rfl, rfl⟩ ⟨Nat.le_of_ble_eq_true rfl, Nat.le_of_ble_eq_true rfl⟩ rfl hl.1 rfl (Nat.le_of_ble_eq_true rfl) ⟨(by show _ ≤ 600130; omega), (by show _ ≤ 7301080; omega)⟩ dL_law_668 (fun r9 hr9 => ?_)
                          subst hr9
                          refine lv_if_lt (tgt := 683) hx hb dL_law_671 (by decide) (fun c671 => ?_) (fun c671 => ?_)
                          · exact absurd c671 (rg_lo hinv.1)
                          · refine lv_aload_n hx hb dL_law_674 rfl (lv_at hl 1 rfl) ?_
                            refine cVi (As := []) (rest := []) hF (mX0_range hinv.1 hde) C0.mv hC (C0.rc hC) jyX0_range kl_RL_172 ⟨rfl, rfl⟩ ⟨Nat.le_of_ble_eq_true rfl, Nat.le_of_ble_eq_true rfl⟩ rfl hl.1 rfl (Nat.le_of_ble_eq_true rfl) ⟨(by show _ ≤ 600130; omega), (by show _ ≤ 7301080; omega)⟩ dL_law_675 (fun r9 hr9 => ?_)
                            subst hr9
                            refine lv_bipush (v := 24) hx hb dL_law_678 (by decide) ?_
                            refine lv_icmp_le (tgt := 685) hx hb dL_law_680 (by decide) (fun c680 => ?_) (fun c680 => ?_)
                            · refine lv_iload hx hb dL_law_685 (lv_at hl 4 rfl) ?_
                              refine lv_iconst (v := 3) hx hb dL_law_687 (by decide) ?_
                              refine lv_ishr hx hb dL_law_688 ?_
                              refine lv_bipush (v := (nI 10)) hx hb dL_law_689 (by decide) ?_
                              refine cSi (As := [.int (y0 >>> (3 &&& 31)), .int (nI 10)]) (rest := []) hF (mL_below (y0 >>> (3 &&& 31)) 10 (by omega) (by omega)) Mv.const trivial jyL_below kl_RL_15 ⟨rfl, rfl⟩ ⟨Nat.le_of_ble_eq_true rfl, Nat.le_of_ble_eq_true rfl⟩ rfl hl.1 rfl (Nat.le_of_ble_eq_true rfl) ⟨(by show _ ≤ 600130; omega), (by show _ ≤ 7301080; omega)⟩ dL_law_691 (fun r9 hr9 => ?_)
                              obtain ⟨b1, hb1_, hr9⟩ := hr9
                              subst hr9
                              refine lv_istore (lv' := [(19, .int (nI b1)), (0, .ref sb), (1, .ref (q 0)), (2, .ref sm), (3, .int t9), (4, .int y0), (5, .long (dgst v st mk N)), (7, .int (nI N)), (11, .int (ctB (amb v st mk) N)), (12, .int (ctB (umP v (v 3) st) N)), (13, .int (ctB (fold1 v st) N)), (14, .int (sumI (v 1) N)), (15, .int (fam v st mk N)), (16, .long (wys v st mk N)), (18, .int (sumI (fun z => sung v (nI z) N) 10))]) hx hb dL_law_694 hl (by decide) rfl (fun ls hl => ?_)
                              refine lv_aload_n hx hb dL_law_696 rfl (lv_at hl 2 rfl) ?_
                              refine lv_iload hx hb dL_law_697 (lv_at hl 0 rfl) ?_
                              refine cVi (As := [.int (nI b1)]) (rest := []) hF (mX0_bestWord hinv.1 b1 (by omega)) C0.mv hC (C0.rc hC) jyX0_bestWord kl_RL_175 ⟨rfl, rfl⟩ ⟨Nat.le_of_ble_eq_true rfl, Nat.le_of_ble_eq_true rfl⟩ rfl hl.1 rfl (Nat.le_of_ble_eq_true rfl) ⟨(by show _ ≤ 600130; omega), (by show _ ≤ 7301080; omega)⟩ dL_law_699 (fun r9 hr9 => ?_)
                              subst hr9
                              refine lv_istore (lv' := [(20, .int (nI (bwd v st N b1))), (19, .int (nI b1)), (0, .ref sb), (1, .ref (q 0)), (2, .ref sm), (3, .int t9), (4, .int y0), (5, .long (dgst v st mk N)), (7, .int (nI N)), (11, .int (ctB (amb v st mk) N)), (12, .int (ctB (umP v (v 3) st) N)), (13, .int (ctB (fold1 v st) N)), (14, .int (sumI (v 1) N)), (15, .int (fam v st mk N)), (16, .long (wys v st mk N)), (18, .int (sumI (fun z => sung v (nI z) N) 10))]) hx hb dL_law_702 hl (by decide) rfl (fun ls hl => ?_)
                              refine lv_iload hx hb dL_law_704 (lv_at hl 6 rfl) ?_
                              refine lv_iconst (v := 5) hx hb dL_law_706 (by decide) ?_
                              refine lv_ishr hx hb dL_law_707 ?_
                              refine lv_bipush (v := (nI 10)) hx hb dL_law_708 (by decide) ?_
                              refine cSi (As := [.int (y0 >>> (5 &&& 31)), .int (nI 10)]) (rest := []) hF (mL_below (y0 >>> (5 &&& 31)) 10 (by omega) (by omega)) Mv.const trivial jyL_below kl_RL_15 ⟨rfl, rfl⟩ ⟨Nat.le_of_ble_eq_true rfl, Nat.le_of_ble_eq_true rfl⟩ rfl hl.1 rfl (Nat.le_of_ble_eq_true rfl) ⟨(by show _ ≤ 600130; omega), (by show _ ≤ 7301080; omega)⟩ dL_law_710 (fun r9 hr9 => ?_)
                              obtain ⟨b2, hb2_, hr9⟩ := hr9
                              subst hr9
                              refine lv_istore (lv' := [(21, .int (nI b2)), (20, .int (nI (bwd v st N b1))), (19, .int (nI b1)), (0, .ref sb), (1, .ref (q 0)), (2, .ref sm), (3, .int t9), (4, .int y0), (5, .long (dgst v st mk N)), (7, .int (nI N)), (11, .int (ctB (amb v st mk) N)), (12, .int (ctB (umP v (v 3) st) N)), (13, .int (ctB (fold1 v st) N)), (14, .int (sumI (v 1) N)), (15, .int (fam v st mk N)), (16, .long (wys v st mk N)), (18, .int (sumI (fun z => sung v (nI z) N) 10))]) hx hb dL_law_713 hl (by decide) rfl (fun ls hl => ?_)
                              obtain ⟨x1, hx1, hxe1⟩ := hinv.2.2.1 b1 hb1_
                              have hbw := bw_lt v st N b1
                              refine lv_aload_n hx hb dL_law_715 rfl (lv_at hl 4 rfl) ?_
                              refine lv_iload hx hb dL_law_716 (lv_at hl 2 rfl) ?_
                              refine lv_aload_n hx hb dL_law_718 rfl (lv_at hl 4 rfl) ?_
                              refine lv_iload hx hb dL_law_719 (lv_at hl 2 rfl) ?_
                              refine cVi (As := [.int (nI b1)]) (rest := [.int (nI b1), .ref (q 0)]) hF (mX0_wordOf b1 (by omega)) C0.mv hC (C0.rc hC) jyX0_wordOf kl_RL_104 ⟨rfl, rfl⟩ ⟨Nat.le_of_ble_eq_true rfl, Nat.le_of_ble_eq_true rfl⟩ rfl hl.1 rfl (Nat.le_of_ble_eq_true rfl) ⟨(by show _ ≤ 600130; omega), (by show _ ≤ 7301080; omega)⟩ dL_law_721 (fun r9 hr9 => ?_)
                              subst hr9
                              refine topI (show (v 3 b1) = nI x1 from hxe1) ?_
                              refine cVi (As := [.int (nI b1), .int (nI x1)]) (rest := []) hF (mX0_ambiguousWith hinv.1 b1 x1 (by omega) (by omega)) C0.mv hC (C0.rc hC) jyX0_ambiguousWith kl_RL_178 ⟨rfl, rfl⟩ ⟨Nat.le_of_ble_eq_true rfl, Nat.le_of_ble_eq_true rfl⟩ rfl hl.1 rfl (Nat.le_of_ble_eq_true rfl) ⟨(by show _ ≤ 600130; omega), (by show _ ≤ 7301080; omega)⟩ dL_law_724 (fun r9 hr9 => ?_)
                              subst hr9
                              refine lv_iload hx hb dL_law_727 (lv_at hl 11 rfl) ?_
                              refine lv_icmp_ne (tgt := 790) hx hb dL_law_729 (by decide) (fun c729 => ?_) (fun c729 => ?_)
                              · exact absurd (by rw [← hxe1]; exact unW_self v st N b1) c729
                              · refine lv_aload_n hx hb dL_law_732 rfl (lv_at hl 4 rfl) ?_
                                refine lv_iload hx hb dL_law_733 (lv_at hl 2 rfl) ?_
                                refine lv_iload hx hb dL_law_735 (lv_at hl 1 rfl) ?_
                                refine cVi (As := [.int (nI b1), .int (nI (bwd v st N b1))]) (rest := []) hF (mX0_ambiguousWith hinv.1 b1 (bwd v st N b1) (by omega) (bw_lt _ _ _ _)) C0.mv hC (C0.rc hC) jyX0_ambiguousWith kl_RL_178 ⟨rfl, rfl⟩ ⟨Nat.le_of_ble_eq_true rfl, Nat.le_of_ble_eq_true rfl⟩ rfl hl.1 rfl (Nat.le_of_ble_eq_true rfl) ⟨(by show _ ≤ 600130; omega), (by show _ ≤ 7301080; omega)⟩ dL_law_737 (fun r9 hr9 => ?_)
                                subst hr9
                                refine lv_iload hx hb dL_law_740 (lv_at hl 11 rfl) ?_
                                refine lv_icmp_gt (tgt := 790) hx hb dL_law_742 (by decide) (fun c742 => ?_) (fun c742 => ?_)
                                · exact absurd (by have h9 := bw_le v st N b1 (show x1 ≤ 9 by omega); rw [← hxe1, unW_self] at h9; exact h9) (Int32.not_le.mpr c742)
                                · refine lv_aload_n hx hb dL_law_745 rfl (lv_at hl 4 rfl) ?_
                                  refine lv_iload hx hb dL_law_746 (lv_at hl 2 rfl) ?_
                                  refine lv_iload hx hb dL_law_748 (lv_at hl 0 rfl) ?_
                                  refine cVi (As := [.int (nI b1), .int (nI b2)]) (rest := []) hF (mX0_ambiguousWith hinv.1 b1 b2 (by omega) (by omega)) C0.mv hC (C0.rc hC) jyX0_ambiguousWith kl_RL_178 ⟨rfl, rfl⟩ ⟨Nat.le_of_ble_eq_true rfl, Nat.le_of_ble_eq_true rfl⟩ rfl hl.1 rfl (Nat.le_of_ble_eq_true rfl) ⟨(by show _ ≤ 600130; omega), (by show _ ≤ 7301080; omega)⟩ dL_law_750 (fun r9 hr9 => ?_)
                                  subst hr9
                                  refine lv_aload_n hx hb dL_law_753 rfl (lv_at hl 4 rfl) ?_
                                  refine lv_iload hx hb dL_law_754 (lv_at hl 2 rfl) ?_
                                  refine lv_iload hx hb dL_law_756 (lv_at hl 1 rfl) ?_
                                  refine cVi (As := [.int (nI b1), .int (nI (bwd v st N b1))]) (rest := [.int (unW v st N b1 (nI b2))]) hF (mX0_ambiguousWith hinv.1 b1 (bwd v st N b1) (by omega) (bw_lt _ _ _ _)) C0.mv hC (C0.rc hC) jyX0_ambiguousWith kl_RL_178 ⟨rfl, rfl⟩ ⟨Nat.le_of_ble_eq_true rfl, Nat.le_of_ble_eq_true rfl⟩ rfl hl.1 rfl (Nat.le_of_ble_eq_true rfl) ⟨(by show _ ≤ 600130; omega), (by show _ ≤ 7301080; omega)⟩ dL_law_758 (fun r9 hr9 => ?_)
                                  subst hr9
                                  refine lv_icmp_lt (tgt := 790) hx hb dL_law_761 (by decide) (fun c761 => ?_) (fun c761 => ?_)
                                  · exact absurd (bw_le v st N b1 (show b2 ≤ 9 by omega)) (Int32.not_le.mpr c761)
                                  · refine cutR (pc2 := 792) (st2 := []) (fun ls => lv_has ls 27 [(0, .ref sb), (1, .ref (q 0)), (2, .ref sm), (3, .int t9), (4, .int y0), (5, .long (dgst v st mk N)), (7, .int (nI N)), (11, .int (ctB (amb v st mk) N)), (12, .int (ctB (umP v (v 3) st) N)), (13, .int (ctB (fold1 v st) N)), (14, .int (sumI (v 1) N)), (15, .int (fam v st mk N)), (16, .long (wys v st mk N)), (18, .int (sumI (fun z => sung v (nI z) N) 10)), (19, .int (nI b1)), (20, .int (nI (bwd v st N b1))), (21, .int (nI b2))]) (fun ls hl => ?_) (fun J792 => ?_)
                                    · refine lv_aload_n hx hb dL_law_792 rfl (lv_at hl 1 rfl) ?_
                                      refine cVi (As := []) (rest := []) hF (mX0_bestStep hinv.1) C0.mv hC (C0.rc hC) jyX0_bestStep kl_RL_181 ⟨rfl, rfl⟩ ⟨Nat.le_of_ble_eq_true rfl, Nat.le_of_ble_eq_true rfl⟩ rfl hl.1 rfl (Nat.le_of_ble_eq_true rfl) ⟨(by show _ ≤ 600130; omega), (by show _ ≤ 7301080; omega)⟩ dL_law_793 (fun r9 hr9 => ?_)
                                      subst hr9
                                      refine lv_istore (lv' := [(22, .int (nI (bst v N))), (0, .ref sb), (1, .ref (q 0)), (2, .ref sm), (3, .int t9), (4, .int y0), (5, .long (dgst v st mk N)), (7, .int (nI N)), (11, .int (ctB (amb v st mk) N)), (12, .int (ctB (umP v (v 3) st) N)), (13, .int (ctB (fold1 v st) N)), (14, .int (sumI (v 1) N)), (15, .int (fam v st mk N)), (16, .long (wys v st mk N)), (18, .int (sumI (fun z => sung v (nI z) N) 10)), (19, .int (nI b1)), (20, .int (nI (bwd v st N b1))), (21, .int (nI b2))]) hx hb dL_law_796 hl (by decide) rfl (fun ls hl => ?_)
                                      have hbst := bst_b v N
                                      refine lv_iload hx hb dL_law_798 (lv_at hl 0 rfl) ?_
                                      refine lv_iconst (v := 1) hx hb dL_law_800 (by decide) ?_
                                      refine lv_icmp_lt (tgt := 831) hx hb dL_law_801 (by decide) (fun c801 => ?_) (fun c801 => ?_)
                                      · have c801n : (bst v N) < 1 := (nI_ltI (a := (bst v N)) (b := 1) (by omega) (by omega)).mp c801
                                        exact absurd c801n (by omega)
                                      · have c801n : ¬ (bst v N) < 1 := fun h9 => c801 ((nI_ltI (a := (bst v N)) (b := 1) (by omega) (by omega)).mpr h9)
                                        refine lv_iload hx hb dL_law_804 (lv_at hl 0 rfl) ?_
                                        refine lv_iconst (v := 4) hx hb dL_law_806 (by decide) ?_
                                        refine lv_icmp_gt (tgt := 831) hx hb dL_law_807 (by decide) (fun c807 => ?_) (fun c807 => ?_)
                                        · have c807n : 4 < (bst v N) := (nI_ltI (a := 4) (b := (bst v N)) (by omega) (by omega)).mp c807
                                          exact absurd c807n (by omega)
                                        · have c807n : ¬ 4 < (bst v N) := fun h9 => c807 ((nI_ltI (a := 4) (b := (bst v N)) (by omega) (by omega)).mpr h9)
                                          refine lv_aload_n hx hb dL_law_810 rfl (lv_at hl 3 rfl) ?_
                                          refine lv_iload hx hb dL_law_811 (lv_at hl 0 rfl) ?_
                                          refine topI (show (nI (bst v N)) = nI (amin (fun x => unm v (v 3) (nI (x + 1)) N) 3 + 1) from rfl) ?_
                                          refine wVi (mc := 56) (ms := 432) (As := [.int (nI (amin (fun x => unm v (v 3) (nI (x + 1)) N) 3 + 1))]) (rest := []) hF (mX1_openBy hinv.1 (amin (fun x => unm v (v 3) (nI (x + 1)) N) 3) (Nat.lt_succ_of_le (amin_le (k := 3)))) S0.mv (fun _ => Mv.const) hX hX.rc jyX1_openBy kl_RL_184 ⟨rfl, rfl⟩ ⟨Nat.le_of_ble_eq_true rfl, Nat.le_of_ble_eq_true rfl⟩ rfl hl.1 rfl (Nat.le_of_ble_eq_true rfl) ⟨by show _ + 56 ≤ 600130; omega, by show _ + 432 ≤ 7301080; omega⟩ hS (fun _ _ h => h.elim) (fun _ h => h.elim) dL_law_813 (fun r9 u9 H locs hp9 hB9 hz hk hS => ?_)
                                          have ho : ∀ q : Nat, q < _ → H[q]? = _ := fun q h9 => hk q h9 (fun h => h)
                                          have hX := hX.upK ho
                                          have hC := hC.upK ho
                                          subst hp9
                                          refine lv_iload hx hb dL_law_816 (lv_at hl 9 rfl) ?_
                                          refine lv_icmp_gt (tgt := 831) hx hb dL_law_818 (by decide) (fun c818 => ?_) (fun c818 => ?_)
                                          · exact absurd (bs_le hinv.1) (Int32.not_le.mpr c818)
                                          · refine lv_aload_n hx hb dL_law_821 rfl (lv_at hl 2 rfl) ?_
                                            refine cVl (As := []) (rest := []) hF (mX0_digest hinv.1 hde) C0.mv hC (C0.rc hC) jyX0_digest kl_RL_88 ⟨rfl, rfl⟩ ⟨Nat.le_of_ble_eq_true rfl, Nat.le_of_ble_eq_true rfl⟩ rfl hl.1 rfl (Nat.le_of_ble_eq_true rfl) ⟨(by show _ ≤ 600130; omega), (by show _ ≤ 7301080; omega)⟩ dL_law_822 (fun r9 hr9 => ?_)
                                            subst hr9
                                            refine lv_lload hx hb dL_law_825 (lv_at hl 6 rfl) ?_
                                            refine W.lcmp hx hb dL_law_827 ?_
                                            refine lv_if_eq (tgt := 833) hx hb dL_law_828 (by decide) (fun c828 => ?_) (fun c828 => ?_)
                                            · refine W.widen (k := cells + 60) (n := slots + 500) (by omega) (by omega) ?_
                                              exact KK H locs ls hC hX hS (lv_sub hl [1, 2, 3, 4, 5, 7, 8, 12, 13] rfl)
                                            · exact absurd ((lg_cmp_eq _ _).mpr rfl) c828
                                    · refine lv_aload_n hx hb dL_law_764 rfl (lv_at hl 4 rfl) ?_
                                      refine lv_iload hx hb dL_law_765 (lv_at hl 2 rfl) ?_
                                      refine lv_iload hx hb dL_law_767 (lv_at hl 0 rfl) ?_
                                      refine cVi (As := [.int (nI b1), .int (nI b2)]) (rest := []) hF (mX0_ambiguousWith hinv.1 b1 b2 (by omega) (by omega)) C0.mv hC (C0.rc hC) jyX0_ambiguousWith kl_RL_178 ⟨rfl, rfl⟩ ⟨Nat.le_of_ble_eq_true rfl, Nat.le_of_ble_eq_true rfl⟩ rfl hl.1 rfl (Nat.le_of_ble_eq_true rfl) ⟨(by show _ ≤ 600130; omega), (by show _ ≤ 7301080; omega)⟩ dL_law_769 (fun r9 hr9 => ?_)
                                      subst hr9
                                      refine lv_aload_n hx hb dL_law_772 rfl (lv_at hl 4 rfl) ?_
                                      refine lv_iload hx hb dL_law_773 (lv_at hl 2 rfl) ?_
                                      refine lv_iload hx hb dL_law_775 (lv_at hl 1 rfl) ?_
                                      refine cVi (As := [.int (nI b1), .int (nI (bwd v st N b1))]) (rest := [.int (unW v st N b1 (nI b2))]) hF (mX0_ambiguousWith hinv.1 b1 (bwd v st N b1) (by omega) (bw_lt _ _ _ _)) C0.mv hC (C0.rc hC) jyX0_ambiguousWith kl_RL_178 ⟨rfl, rfl⟩ ⟨Nat.le_of_ble_eq_true rfl, Nat.le_of_ble_eq_true rfl⟩ rfl hl.1 rfl (Nat.le_of_ble_eq_true rfl) ⟨(by show _ ≤ 600130; omega), (by show _ ≤ 7301080; omega)⟩ dL_law_777 (fun r9 hr9 => ?_)
                                      subst hr9
                                      refine lv_icmp_ne (tgt := 792) hx hb dL_law_780 (by decide) (fun c780 => ?_) (fun c780 => ?_)
                                      · exact J792 ls (lv_sub hl [3, 4, 5, 6, 7, 8, 9, 10, 11, 12, 13, 14, 15, 16, 2, 1, 0] rfl)
                                      · refine lv_iload hx hb dL_law_783 (lv_at hl 0 rfl) ?_
                                        refine lv_iload hx hb dL_law_785 (lv_at hl 1 rfl) ?_
                                        refine lv_icmp_ge (tgt := 792) hx hb dL_law_787 (by decide) (fun c787 => ?_) (fun c787 => ?_)
                                        · have c787n : (bwd v st N b1) ≤ b2 := (nI_leI (a := (bwd v st N b1)) (b := b2) (by omega) (by omega)).mp c787
                                          exact J792 ls (lv_sub hl [3, 4, 5, 6, 7, 8, 9, 10, 11, 12, 13, 14, 15, 16, 2, 1, 0] rfl)
                                        · have c787n : ¬ (bwd v st N b1) ≤ b2 := fun h9 => c787 ((nI_leI (a := (bwd v st N b1)) (b := b2) (by omega) (by omega)).mpr h9)
                                          exact absurd c780 (bw_first v st N b1 (by omega))
                            · exact absurd (rg_hi hinv.1) c680
            · refine lv_aload_n hx hb dL_law_573 rfl (lv_at hl 1 rfl) ?_
              refine cVl (As := []) (rest := []) hF (mX0_ways hinv.1 hde) C0.mv hC (C0.rc hC) jyX0_ways kl_RL_145 ⟨rfl, rfl⟩ ⟨Nat.le_of_ble_eq_true rfl, Nat.le_of_ble_eq_true rfl⟩ rfl hl.1 rfl (Nat.le_of_ble_eq_true rfl) ⟨(by show _ ≤ 600130; omega), (by show _ ≤ 7301080; omega)⟩ dL_law_574 (fun r9 hr9 => ?_)
              subst hr9
              refine lv_lconst (v := 1) hx hb dL_law_577 (by decide) ?_
              refine W.lcmp hx hb dL_law_578 ?_
              refine lv_if_ne (tgt := 586) hx hb dL_law_579 (by decide) (fun c579 => ?_) (fun c579 => ?_)
              · refine lv_iconst (v := 0) hx hb dL_law_586 (by decide) ?_
                refine lv_iload hx hb dL_law_587 (lv_at hl 7 rfl) ?_
                refine lv_if_ne (tgt := 596) hx hb dL_law_589 (by decide) (fun c589 => ?_) (fun c589 => ?_)
                · refine lv_iconst (v := 0) hx hb dL_law_596 (by decide) ?_
                  refine lv_icmp_ne (tgt := 683) hx hb dL_law_597 (by decide) (fun c597 => ?_) (fun c597 => ?_)
                  · exact absurd rfl c597
                  · exact J600 ls (lv_sub hl [0, 1, 2, 3, 4, 5, 6, 7, 8, 9, 10, 11, 12, 13, 14] rfl)
                · exact absurd ((lg_cmp_eq _ _).mpr (ways_0 hinv.1 c589)) c579
              · refine lv_iconst (v := 1) hx hb dL_law_582 (by decide) ?_
                refine lv_goto (tgt := 587) hx hb dL_law_583 (by decide) ?_
                refine lv_iload hx hb dL_law_587 (lv_at hl 7 rfl) ?_
                refine lv_if_ne (tgt := 596) hx hb dL_law_589 (by decide) (fun c589 => ?_) (fun c589 => ?_)
                · exact absurd ((lg_cmp_eq _ _).mp c579) (ways_1 hinv.1 c589)
                · refine lv_iconst (v := 1) hx hb dL_law_592 (by decide) ?_
                  refine lv_goto (tgt := 597) hx hb dL_law_593 (by decide) ?_
                  refine lv_icmp_ne (tgt := 683) hx hb dL_law_597 (by decide) (fun c597 => ?_) (fun c597 => ?_)
                  · exact absurd rfl c597
                  · exact J600 ls (lv_sub hl [0, 1, 2, 3, 4, 5, 6, 7, 8, 9, 10, 11, 12, 13, 14] rfl)
  · have c518n : ¬ 10 ≤ o := fun h9 => c518 ((nI_leI (a := 10) (b := o) (by omega) (by omega)).mpr h9)
    refine lv_iload hx hb dL_law_521 (lv_at hl 13 rfl) ?_
    refine lv_aload_n hx hb dL_law_523 rfl (lv_at hl 1 rfl) ?_
    refine lv_iload hx hb dL_law_524 (lv_at hl 14 rfl) ?_
    refine cVi (As := [.int (nI o)]) (rest := [.int (sumI (fun z => sung v (nI z) N) o)]) hF (mX0_sungWith hinv.1 hde o (by omega)) C0.mv hC (C0.rc hC) jyX0_sungWith kl_RL_136 ⟨rfl, rfl⟩ ⟨Nat.le_of_ble_eq_true rfl, Nat.le_of_ble_eq_true rfl⟩ rfl hl.1 rfl (Nat.le_of_ble_eq_true rfl) ⟨(by show _ ≤ 600130; omega), (by show _ ≤ 7301080; omega)⟩ dL_law_526 (fun r9 hr9 => ?_)
    subst hr9
    refine lv_iadd hx hb dL_law_529 ?_
    refine lv_istore (lv' := [(18, .int ((sumI (fun z => sung v (nI z) N) o) + (sung v (nI o) N))), (0, .ref sb), (1, .ref (q 0)), (2, .ref sm), (3, .int t9), (4, .int y0), (5, .long (dgst v st mk N)), (7, .int (nI N)), (11, .int (ctB (amb v st mk) N)), (12, .int (ctB (umP v (v 3) st) N)), (13, .int (ctB (fold1 v st) N)), (14, .int (sumI (v 1) N)), (15, .int (fam v st mk N)), (16, .long (wys v st mk N)), (19, .int (nI o))]) hx hb dL_law_530 hl (by decide) rfl (fun ls hl => ?_)
    refine lv_iinc (v := (nI (o + 1))) (lv' := [(19, .int (nI (o + 1))), (18, .int ((sumI (fun z => sung v (nI z) N) o) + (sung v (nI o) N))), (0, .ref sb), (1, .ref (q 0)), (2, .ref sm), (3, .int t9), (4, .int y0), (5, .long (dgst v st mk N)), (7, .int (nI N)), (11, .int (ctB (amb v st mk) N)), (12, .int (ctB (umP v (v 3) st) N)), (13, .int (ctB (fold1 v st) N)), (14, .int (sumI (v 1) N)), (15, .int (fam v st mk N)), (16, .long (wys v st mk N))]) hx hb dL_law_532 hl (k := 14) rfl (nI_1 _) (by decide) rfl (fun ls hl => ?_)
    refine lv_goto (tgt := 514) hx hb dL_law_535 (by decide) ?_
    exact ih2 (o + 1) ls (by omega) ⟨by omega, by exact lv_sub hl [2, 3, 4, 5, 6, 7, 8, 9, 10, 11, 12, 13, 14, 1, 0] rfl⟩
set_option maxHeartbeats 32000000 in
set_option maxRecDepth 100000 in
theorem law_mark (hF : CallFix p m c cL_law 27 s #[Value.ref sb] wA RL) (hcs : cells ≤ 5000 ∧ slots ≤ 50000) (hC : C0 D cyI cyZ q (nI N) st v mk w s H) (hX : S0 D cyI cyA sm wa lg a N st (v 3) (rowV v st mk) s H) (hinv : Inv N st v mk) (hde : Der N st v w) (hS : va_S (fun z => s.heap.size ≤ z) s.heap H locs) (hap1 : ∀ z, own 10 q z → s.heap.size ≤ z) (hap2 : ∀ z, sown sm wa lg a N z → s.heap.size ≤ z) (hdis : ∀ z, own 10 q z → ¬ sown sm wa lg a N z) (hZ0 : ST t1 t2 (fun z => s.heap.size ≤ z) s s.heap) (KK : ∀ (H1 : Heap) (locs1 : List Loc) (ls : Array Slot), LW D cyI cyZ cyA q sm wa s.heap.size s H1 → va_S (fun z => s.heap.size ≤ z) s.heap H1 locs1 → lv_has ls 27 [(0, .ref sb), (1, .ref (q 0)), (2, .ref sm), (3, .int t9)] → W p l ev room_1 s m #[Value.ref sb] below meth c H1 locs1 cells slots Q (F0 m 1034 ls [])) (hl : lv_has ls 27 [(0, .ref sb), (1, .ref (q 0)), (2, .ref sm), (3, .int t9), (4, .int y0), (7, .int (nI N)), (11, .int (ctB (amb v st mk) N)), (15, .int (fam v st mk N)), (16, .long (wys v st mk N))]) : W p l ev room_1 s m #[Value.ref sb] below meth c H locs cells slots Q (F0 m 833 ls []) := by
  obtain ⟨hx, hb, hml, hown, hts⟩ := id hF
  have hn16 : N ≤ 16 := hinv.1.1
  refine lv_iload hx hb dL_law_833 (lv_at hl 6 rfl) ?_
  refine lv_if_ne (tgt := 841) hx hb dL_law_835 (by decide) (fun c835 => ?_) (fun c835 => ?_)
  · obtain ⟨f0, hf0, hfe, hfa⟩ := fam_some hinv.1 c835
    rw [hfe] at hl
    refine lv_iload hx hb dL_law_841 (lv_at hl 4 rfl) ?_
    refine lv_bipush (v := 6) hx hb dL_law_843 (by decide) ?_
    refine lv_ishr hx hb dL_law_845 ?_
    refine lv_iconst (v := (nI 2)) hx hb dL_law_846 (by decide) ?_
    refine cSi (As := [.int (y0 >>> (6 &&& 31)), .int (nI 2)]) (rest := []) hF (mL_below (y0 >>> (6 &&& 31)) 2 (by omega) (by omega)) Mv.const trivial jyL_below kl_RL_15 ⟨rfl, rfl⟩ ⟨Nat.le_of_ble_eq_true rfl, Nat.le_of_ble_eq_true rfl⟩ rfl hl.1 rfl (Nat.le_of_ble_eq_true rfl) ⟨(by show _ ≤ 600130; omega), (by show _ ≤ 7301080; omega)⟩ dL_law_847 (fun r9 hr9 => ?_)
    obtain ⟨b3, hb3_, hr9⟩ := hr9
    subst hr9
    refine lv_if_ne (tgt := 917) hx hb dL_law_850 (by decide) (fun c850 => ?_) (fun c850 => ?_)
    · have c850n : ¬ b3 = 0 := fun h9 => c850 ((nI_eq (a := b3) (b := 0) (by omega) (by omega)).mpr h9)
      refine lv_iconst (v := 1) hx hb dL_law_917 (by decide) ?_
      refine lv_iload hx hb dL_law_918 (lv_at hl 4 rfl) ?_
      refine lv_iconst (v := 4) hx hb dL_law_920 (by decide) ?_
      refine lv_ishr hx hb dL_law_921 ?_
      refine lv_bipush (v := (nI 50)) hx hb dL_law_922 (by decide) ?_
      refine cSi (As := [.int (y0 >>> (4 &&& 31)), .int (nI 50)]) (rest := [.int 1]) hF (mL_below (y0 >>> (4 &&& 31)) 50 (by omega) (by omega)) Mv.const trivial jyL_below kl_RL_15 ⟨rfl, rfl⟩ ⟨Nat.le_of_ble_eq_true rfl, Nat.le_of_ble_eq_true rfl⟩ rfl hl.1 rfl (Nat.le_of_ble_eq_true rfl) ⟨(by show _ ≤ 600130; omega), (by show _ ≤ 7301080; omega)⟩ dL_law_924 (fun r9 hr9 => ?_)
      obtain ⟨m0, hm0_, hr9⟩ := hr9
      subst hr9
      refine lv_iadd hx hb dL_law_927 ?_
      refine topI (show (1 + (nI m0)) = nI (m0 + 1) from nI_1l m0) ?_
      refine lv_istore (lv' := [(23, .int (nI (m0 + 1))), (0, .ref sb), (1, .ref (q 0)), (2, .ref sm), (3, .int t9), (4, .int y0), (7, .int (nI N)), (11, .int (ctB (amb v st mk) N)), (15, .int (nI f0)), (16, .long (wys v st mk N))]) hx hb dL_law_928 hl (by decide) rfl (fun ls hl => ?_)
      refine lv_aload_n hx hb dL_law_930 rfl (lv_at hl 2 rfl) ?_
      refine lv_iload hx hb dL_law_931 (lv_at hl 0 rfl) ?_
      refine wVi (mc := 0) (ms := 0) (As := [.int (nI (m0 + 1))]) (rest := []) hF (mX0_mendTo hinv.1 hde (nI (m0 + 1)) (md_most hm0_).2.1 (md_most hm0_).2.2) C0.mv (fun _ => C0.mv) hC (C0.rc hC) jyX0_mendTo kl_RL_187 ⟨rfl, rfl⟩ ⟨Nat.le_of_ble_eq_true rfl, Nat.le_of_ble_eq_true rfl⟩ rfl hl.1 rfl (Nat.le_of_ble_eq_true rfl) ⟨by show _ + 0 ≤ 600130; omega, by show _ + 0 ≤ 7301080; omega⟩ hS (fun z _ h => hap1 z h) (fun z h => hap1 z h) dL_law_933 (fun r9 u9 H locs hp9 hB9 hz hk hS => ?_)
      have hX := S0.kept hX (fun z h9 => hk z (S0.lt hX h9) (fun h8 => hdis z h8 h9))
      have hC := hB9
      have hmd := md_all hinv.1 (md_most hm0_).1 N 0 mk (ucn_le mk N) hinv
      have hml9 := md_le (v := v) (st := st) (N := N) N 0 (Int32.toInt64 (nI (m0 + 1))) mk
      generalize mdF v st N (Int32.toInt64 (nI (m0 + 1))) N 0 mk = MD at hp9 hmd hml9
      obtain ⟨mc9, mk9⟩ := MD
      have h91 : r9 = nI mc9 := hp9.1
      have h92 : u9 = mk9 := hp9.2
      subst h92
      rw [h91]
      have hmd : Inv N st v u9 ∧ mc9 + cN (amb v st u9) N = 0 + cN (amb v st mk) N ∧ wys v st u9 N ≤ Int32.toInt64 (nI (m0 + 1)) ∧ (mc9 = 0 → wys v st mk N ≤ Int32.toInt64 (nI (m0 + 1))) ∧ (0 < mc9 → Int32.toInt64 (nI (m0 + 1)) < wys v st mk N) ∧ 0 ≤ mc9 := hmd
      have hml9 : mc9 ≤ 0 + N := hml9
      refine lv_istore (lv' := [(24, .int (nI mc9)), (23, .int (nI (m0 + 1))), (0, .ref sb), (1, .ref (q 0)), (2, .ref sm), (3, .int t9), (4, .int y0), (7, .int (nI N)), (11, .int (ctB (amb v st mk) N)), (15, .int (nI f0)), (16, .long (wys v st mk N))]) hx hb dL_law_936 hl (by decide) rfl (fun ls hl => ?_)
      refine lv_aload_n hx hb dL_law_938 rfl (lv_at hl 3 rfl) ?_
      refine cVi (As := []) (rest := []) hF (mX0_ambiguous hinv.1 hde) C0.mv hC (C0.rc hC) jyX0_ambiguous kl_RL_139 ⟨rfl, rfl⟩ ⟨Nat.le_of_ble_eq_true rfl, Nat.le_of_ble_eq_true rfl⟩ rfl hl.1 rfl (Nat.le_of_ble_eq_true rfl) ⟨(by show _ ≤ 600130; omega), (by show _ ≤ 7301080; omega)⟩ dL_law_939 (fun r9 hr9 => ?_)
      subst hr9
      refine lv_istore (lv' := [(25, .int (ctB (amb v st u9) N)), (24, .int (nI mc9)), (23, .int (nI (m0 + 1))), (0, .ref sb), (1, .ref (q 0)), (2, .ref sm), (3, .int t9), (4, .int y0), (7, .int (nI N)), (11, .int (ctB (amb v st mk) N)), (15, .int (nI f0)), (16, .long (wys v st mk N))]) hx hb dL_law_942 hl (by decide) rfl (fun ls hl => ?_)
      refine lv_iload hx hb dL_law_944 (lv_at hl 1 rfl) ?_
      refine lv_iload hx hb dL_law_946 (lv_at hl 9 rfl) ?_
      refine lv_iload hx hb dL_law_948 (lv_at hl 0 rfl) ?_
      refine lv_isub hx hb dL_law_950 ?_
      refine lv_icmp_ne (tgt := 993) hx hb dL_law_951 (by decide) (fun c951 => ?_) (fun c951 => ?_)
      · exact absurd (md_cnt hn16 hmd.2.1) c951
      · refine lv_aload_n hx hb dL_law_954 rfl (lv_at hl 4 rfl) ?_
        refine cVl (As := []) (rest := []) hF (mX0_ways hinv.1 hde) C0.mv hC (C0.rc hC) jyX0_ways kl_RL_145 ⟨rfl, rfl⟩ ⟨Nat.le_of_ble_eq_true rfl, Nat.le_of_ble_eq_true rfl⟩ rfl hl.1 rfl (Nat.le_of_ble_eq_true rfl) ⟨(by show _ ≤ 600130; omega), (by show _ ≤ 7301080; omega)⟩ dL_law_955 (fun r9 hr9 => ?_)
        subst hr9
        refine lv_iload hx hb dL_law_958 (lv_at hl 2 rfl) ?_
        refine lv_i2l hx hb dL_law_960 rfl ?_
        refine W.lcmp hx hb dL_law_961 ?_
        refine lv_if_gt (tgt := 993) hx hb dL_law_962 (by decide) (fun c962 => ?_) (fun c962 => ?_)
        · exact absurd ((lg_cmp_gt _ _).mp c962) (Int64.not_lt.mpr hmd.2.2.1)
        · refine cutR (pc2 := 995) (st2 := []) (fun ls => lv_has ls 27 [(0, .ref sb), (1, .ref (q 0)), (2, .ref sm), (3, .int t9), (4, .int y0), (7, .int (nI N)), (11, .int (ctB (amb v st mk) N)), (15, .int (nI f0)), (16, .long (wys v st mk N)), (23, .int (nI (m0 + 1))), (24, .int (nI mc9)), (25, .int (ctB (amb v st u9) N))]) (fun ls hl => ?_) (fun J995 => ?_)
          · refine lv_iconst (v := 0) hx hb dL_law_995 (by decide) ?_
            refine lv_istore (lv' := [(26, .int 0), (0, .ref sb), (1, .ref (q 0)), (2, .ref sm), (3, .int t9), (4, .int y0), (7, .int (nI N)), (11, .int (ctB (amb v st mk) N)), (15, .int (nI f0)), (16, .long (wys v st mk N)), (23, .int (nI (m0 + 1))), (24, .int (nI mc9)), (25, .int (ctB (amb v st u9) N))]) hx hb dL_law_996 hl (by decide) rfl (fun ls hl => ?_)
            refine W.widen (k := cells) (n := slots) (by omega) (by omega) ?_
            refine lpC (σ := Nat) (τ := Nat → Nat → Int32) (fun k r8 ls H locs => (k ≤ N ∧ ∀ i : Nat, i < N → ∀ b : Nat, b < 6 → r8 i b = mixR v st mk u9 k i b) ∧ (S0 D cyI cyA sm wa lg a N st (v 3) r8 s H) ∧ (C0 D cyI cyZ q (nI N) st v u9 w s H) ∧ va_S (fun z => s.heap.size ≤ z) s.heap H locs ∧ lv_has ls 27 [(0, .ref sb), (1, .ref (q 0)), (2, .ref sm), (3, .int t9), (7, .int (nI N)), (26, .int (nI k))]) (fun k r8 => N - k) (fun k => cells) (fun k => slots) (fun k r8 ls H locs hI ih1 => ?_) (0) (rowV v st mk) ⟨⟨Nat.zero_le _, mix_0⟩, hX, hC, hS, lv_sub hl [1, 2, 3, 4, 6, 0] rfl⟩
            obtain ⟨hk1, hX, hC, hS, hl⟩ := hI
            refine lv_iload hx hb dL_law_998 (lv_at hl 5 rfl) ?_
            refine lv_iload hx hb dL_law_1000 (lv_at hl 4 rfl) ?_
            refine lv_icmp_ge (tgt := 1034) hx hb dL_law_1002 (by decide) (fun c1002 => ?_) (fun c1002 => ?_)
            · have c1002n : N ≤ k := (nI_leI (a := N) (b := k) (by omega) (by omega)).mp c1002
              obtain rfl : N = k := by omega
              have hX := S0.cg hX (wv2 := v 3) (r2 := rowV v st u9) (fun _ _ => rfl) (mix_N hk1.2)
              exact KK H locs ls ⟨N, st, v, u9, w, lg, a, ⟨hC, hX⟩, ⟨hmd.1, hde⟩, hap1, hap2, hdis⟩ hS (lv_sub hl [0, 1, 2, 3] rfl)
            · have c1002n : ¬ N ≤ k := fun h9 => c1002 ((nI_leI (a := N) (b := k) (by omega) (by omega)).mpr h9)
              refine lv_aload_n hx hb dL_law_1005 rfl (lv_at hl 2 rfl) ?_
              refine S0.gL hF hX kf_RL_9 dL_law_1006 ?_
              refine lv_iload hx hb dL_law_1009 (lv_at hl 5 rfl) ?_
              refine S0.ldA hF hX k (by omega) rfl dL_law_1011 ?_
              refine lv_iconst (v := 5) hx hb dL_law_1012 (by decide) ?_
              refine lv_aload_n hx hb dL_law_1013 rfl (lv_at hl 1 rfl) ?_
              refine lv_iload hx hb dL_law_1014 (lv_at hl 5 rfl) ?_
              refine cVi (As := [.int (nI k)]) (rest := [.int 5, .ref (a k)]) hF (mX0_isMended hinv.1 hde k (by omega)) C0.mv hC (C0.rc hC) jyX0_isMended kl_RL_125 ⟨rfl, rfl⟩ ⟨Nat.le_of_ble_eq_true rfl, Nat.le_of_ble_eq_true rfl⟩ rfl hl.1 rfl (Nat.le_of_ble_eq_true rfl) ⟨(by show _ ≤ 600130; omega), (by show _ ≤ 7301080; omega)⟩ dL_law_1016 (fun r9 hr9 => ?_)
              subst hr9
              refine lv_if_eq (tgt := 1026) hx hb dL_law_1019 (by decide) (fun c1019 => ?_) (fun c1019 => ?_)
              · have c1019b := b2i_f c1019
                refine lv_iconst (v := 0) hx hb dL_law_1026 (by decide) ?_
                refine topI (show 0 = b2i (u9 k) from b2i_0 c1019b) ?_
                refine S0.stR hF hX hS k (by omega) (hap2 _ (Or.inr (Or.inr (Or.inr ⟨k, by omega, rfl⟩)))) 5 (by decide) rfl dL_law_1027 (fun H locs hX hz oq hS => ?_)
                have hC := hC.kept (fun q h9 => oq q (fun e => hdis q h9 (Or.inr (Or.inr (Or.inr ⟨k, by omega, e⟩)))))
                refine lv_iinc (v := (nI (k + 1))) (lv' := [(26, .int (nI (k + 1))), (0, .ref sb), (1, .ref (q 0)), (2, .ref sm), (3, .int t9), (7, .int (nI N))]) hx hb dL_law_1028 hl (k := 5) rfl (nI_1 _) (by decide) rfl (fun ls hl => ?_)
                refine lv_goto (tgt := 998) hx hb dL_law_1031 (by decide) ?_
                refine W.widen (k := cells) (n := slots) (by omega) (by omega) ?_
                exact ih1 (k + 1) (va_up r8 k (upd (r8 k) 5 (b2i (u9 k)))) ls H locs (by omega) ⟨⟨by omega, mix_s hk1.2⟩, hX, hC, hS, by exact lv_sub hl [1, 2, 3, 4, 5, 0] rfl⟩
              · have c1019b := b2i_t c1019
                refine lv_iconst (v := 1) hx hb dL_law_1022 (by decide) ?_
                refine lv_goto (tgt := 1027) hx hb dL_law_1023 (by decide) ?_
                refine topI (show 1 = b2i (u9 k) from b2i_1 c1019b) ?_
                refine S0.stR hF hX hS k (by omega) (hap2 _ (Or.inr (Or.inr (Or.inr ⟨k, by omega, rfl⟩)))) 5 (by decide) rfl dL_law_1027 (fun H locs hX hz oq hS => ?_)
                have hC := hC.kept (fun q h9 => oq q (fun e => hdis q h9 (Or.inr (Or.inr (Or.inr ⟨k, by omega, e⟩)))))
                refine lv_iinc (v := (nI (k + 1))) (lv' := [(26, .int (nI (k + 1))), (0, .ref sb), (1, .ref (q 0)), (2, .ref sm), (3, .int t9), (7, .int (nI N))]) hx hb dL_law_1028 hl (k := 5) rfl (nI_1 _) (by decide) rfl (fun ls hl => ?_)
                refine lv_goto (tgt := 998) hx hb dL_law_1031 (by decide) ?_
                refine W.widen (k := cells) (n := slots) (by omega) (by omega) ?_
                exact ih1 (k + 1) (va_up r8 k (upd (r8 k) 5 (b2i (u9 k)))) ls H locs (by omega) ⟨⟨by omega, mix_s hk1.2⟩, hX, hC, hS, by exact lv_sub hl [1, 2, 3, 4, 5, 0] rfl⟩
          · refine lv_iload hx hb dL_law_965 (lv_at hl 1 rfl) ?_
            refine lv_if_ne (tgt := 979) hx hb dL_law_967 (by decide) (fun c967 => ?_) (fun c967 => ?_)
            · have c967n : ¬ mc9 = 0 := fun h9 => c967 ((nI_eq (a := mc9) (b := 0) (by omega) (by omega)).mpr h9)
              refine lv_iload hx hb dL_law_979 (lv_at hl 1 rfl) ?_
              refine lv_if_le (tgt := 995) hx hb dL_law_981 (by decide) (fun c981 => ?_) (fun c981 => ?_)
              · have c981n : mc9 ≤ 0 := (nI_leI (a := mc9) (b := 0) (by omega) (by omega)).mp c981
                exact J995 ls (lv_sub hl [3, 4, 5, 6, 7, 8, 9, 10, 11, 2, 1, 0] rfl)
              · have c981n : ¬ mc9 ≤ 0 := fun h9 => c981 ((nI_leI (a := mc9) (b := 0) (by omega) (by omega)).mpr h9)
                refine lv_lload hx hb dL_law_984 (lv_at hl 11 rfl) ?_
                refine lv_iload hx hb dL_law_986 (lv_at hl 2 rfl) ?_
                refine lv_i2l hx hb dL_law_988 rfl ?_
                refine W.lcmp hx hb dL_law_989 ?_
                refine lv_if_gt (tgt := 995) hx hb dL_law_990 (by decide) (fun c990 => ?_) (fun c990 => ?_)
                · exact J995 ls (lv_sub hl [3, 4, 5, 6, 7, 8, 9, 10, 11, 2, 1, 0] rfl)
                · exact absurd ((lg_cmp_gt _ _).mpr (hmd.2.2.2.2.1 (by omega))) c990
            · have c967n : mc9 = 0 := (nI_eq (a := mc9) (b := 0) (by omega) (by omega)).mp c967
              refine lv_lload hx hb dL_law_970 (lv_at hl 11 rfl) ?_
              refine lv_iload hx hb dL_law_972 (lv_at hl 2 rfl) ?_
              refine lv_i2l hx hb dL_law_974 rfl ?_
              refine W.lcmp hx hb dL_law_975 ?_
              refine lv_if_gt (tgt := 993) hx hb dL_law_976 (by decide) (fun c976 => ?_) (fun c976 => ?_)
              · exact absurd ((lg_cmp_gt _ _).mp c976) (Int64.not_lt.mpr (hmd.2.2.2.1 c967n))
              · refine lv_iload hx hb dL_law_979 (lv_at hl 1 rfl) ?_
                refine lv_if_le (tgt := 995) hx hb dL_law_981 (by decide) (fun c981 => ?_) (fun c981 => ?_)
                · have c981n : mc9 ≤ 0 := (nI_leI (a := mc9) (b := 0) (by omega) (by omega)).mp c981
                  exact J995 ls (lv_sub hl [3, 4, 5, 6, 7, 8, 9, 10, 11, 2, 1, 0] rfl)
                · have c981n : ¬ mc9 ≤ 0 := fun h9 => c981 ((nI_leI (a := mc9) (b := 0) (by omega) (by omega)).mpr h9)
                  refine lv_lload hx hb dL_law_984 (lv_at hl 11 rfl) ?_
                  refine lv_iload hx hb dL_law_986 (lv_at hl 2 rfl) ?_
                  refine lv_i2l hx hb dL_law_988 rfl ?_
                  refine W.lcmp hx hb dL_law_989 ?_
                  refine lv_if_gt (tgt := 995) hx hb dL_law_990 (by decide) (fun c990 => ?_) (fun c990 => ?_)
                  · exact J995 ls (lv_sub hl [3, 4, 5, 6, 7, 8, 9, 10, 11, 2, 1, 0] rfl)
                  · exact absurd ((lg_cmp_gt _ _).mpr (hmd.2.2.2.2.1 (by omega))) c990
    · have c850n : b3 = 0 := (nI_eq (a := b3) (b := 0) (by omega) (by omega)).mp c850
      refine lv_aload_n hx hb dL_law_853 rfl (lv_at hl 1 rfl) ?_
      refine lv_iload hx hb dL_law_854 (lv_at hl 7 rfl) ?_
      refine wVi (mc := 0) (ms := 0) (As := [.int (nI f0)]) (rest := []) hF (mX0_mend hinv.1 hde f0 hf0 hfa) C0.mv (fun _ => C0.mv) hC (C0.rc hC) jyX0_mend kl_RL_65 ⟨rfl, rfl⟩ ⟨Nat.le_of_ble_eq_true rfl, Nat.le_of_ble_eq_true rfl⟩ rfl hl.1 rfl (Nat.le_of_ble_eq_true rfl) ⟨by show _ + 0 ≤ 600130; omega, by show _ + 0 ≤ 7301080; omega⟩ hS (fun z _ h => hap1 z h) (fun z h => hap1 z h) dL_law_856 (fun r9 u9 H locs hp9 hB9 hz hk hS => ?_)
      have hX := S0.kept hX (fun z h9 => hk z (S0.lt hX h9) (fun h8 => hdis z h8 h9))
      have hC := hB9
      rw [hp9]
      refine lv_istore (lv' := [(23, .int (rrn v st f0)), (0, .ref sb), (1, .ref (q 0)), (2, .ref sm), (3, .int t9), (4, .int y0), (7, .int (nI N)), (11, .int (ctB (amb v st mk) N)), (15, .int (nI f0)), (16, .long (wys v st mk N))]) hx hb dL_law_859 hl (by decide) rfl (fun ls hl => ?_)
      refine lv_aload_n hx hb dL_law_861 rfl (lv_at hl 3 rfl) ?_
      refine S0.gL hF hX kf_RL_9 dL_law_862 ?_
      refine lv_iload hx hb dL_law_865 (lv_at hl 8 rfl) ?_
      refine S0.ldA hF hX f0 (by omega) rfl dL_law_867 ?_
      refine lv_iconst (v := 5) hx hb dL_law_868 (by decide) ?_
      refine lv_iconst (v := 1) hx hb dL_law_869 (by decide) ?_
      refine S0.stR hF hX hS f0 (by omega) (hap2 _ (Or.inr (Or.inr (Or.inr ⟨f0, by omega, rfl⟩)))) 5 (by decide) rfl dL_law_870 (fun H locs hX hz oq hS => ?_)
      have hC := hC.kept (fun q h9 => oq q (fun e => hdis q h9 (Or.inr (Or.inr (Or.inr ⟨f0, by omega, e⟩)))))
      have hX := S0.cg hX (wv2 := v 3) (r2 := rowV v st (va_up mk f0 true)) (fun _ _ => rfl) rm_row
      refine lv_iload hx hb dL_law_871 (lv_at hl 0 rfl) ?_
      refine lv_aload_n hx hb dL_law_873 rfl (lv_at hl 2 rfl) ?_
      refine lv_iload hx hb dL_law_874 (lv_at hl 8 rfl) ?_
      refine cVi (As := [.int (nI f0)]) (rest := [.int (rrn v st f0)]) hF (mX0_rightReading hinv.1 hde f0 (by omega)) C0.mv hC (C0.rc hC) jyX0_rightReading kl_RL_119 ⟨rfl, rfl⟩ ⟨Nat.le_of_ble_eq_true rfl, Nat.le_of_ble_eq_true rfl⟩ rfl hl.1 rfl (Nat.le_of_ble_eq_true rfl) ⟨(by show _ ≤ 600130; omega), (by show _ ≤ 7301080; omega)⟩ dL_law_876 (fun r9 hr9 => ?_)
      subst hr9
      refine lv_icmp_ne (tgt := 912) hx hb dL_law_879 (by decide) (fun c879 => ?_) (fun c879 => ?_)
      · exact absurd rfl c879
      · refine lv_aload_n hx hb dL_law_882 rfl (lv_at hl 2 rfl) ?_
        refine cVi (As := []) (rest := []) hF (mX0_ambiguous hinv.1 hde) C0.mv hC (C0.rc hC) jyX0_ambiguous kl_RL_139 ⟨rfl, rfl⟩ ⟨Nat.le_of_ble_eq_true rfl, Nat.le_of_ble_eq_true rfl⟩ rfl hl.1 rfl (Nat.le_of_ble_eq_true rfl) ⟨(by show _ ≤ 600130; omega), (by show _ ≤ 7301080; omega)⟩ dL_law_883 (fun r9 hr9 => ?_)
        subst hr9
        refine lv_iload hx hb dL_law_886 (lv_at hl 7 rfl) ?_
        refine lv_iconst (v := 1) hx hb dL_law_888 (by decide) ?_
        refine lv_isub hx hb dL_law_889 ?_
        refine lv_icmp_ne (tgt := 912) hx hb dL_law_890 (by decide) (fun c890 => ?_) (fun c890 => ?_)
        · exact absurd (ct_mend hn16 hfa hf0) c890
        · refine lv_aload_n hx hb dL_law_893 rfl (lv_at hl 2 rfl) ?_
          refine lv_iload hx hb dL_law_894 (lv_at hl 8 rfl) ?_
          refine cVi (As := [.int (nI f0)]) (rest := []) hF (mX0_isAmbiguous hinv.1 hde f0 (by omega)) C0.mv hC (C0.rc hC) jyX0_isAmbiguous kl_RL_122 ⟨rfl, rfl⟩ ⟨Nat.le_of_ble_eq_true rfl, Nat.le_of_ble_eq_true rfl⟩ rfl hl.1 rfl (Nat.le_of_ble_eq_true rfl) ⟨(by show _ ≤ 600130; omega), (by show _ ≤ 7301080; omega)⟩ dL_law_896 (fun r9 hr9 => ?_)
          subst hr9
          refine lv_if_ne (tgt := 912) hx hb dL_law_899 (by decide) (fun c899 => ?_) (fun c899 => ?_)
          · have c899b := b2i_t c899
            exact absurd c899b (by rw [amb_o (by simp [va_up])]; decide)
          · have c899b := b2i_f c899
            refine lv_aload_n hx hb dL_law_902 rfl (lv_at hl 2 rfl) ?_
            refine cVl (As := []) (rest := []) hF (mX0_ways hinv.1 hde) C0.mv hC (C0.rc hC) jyX0_ways kl_RL_145 ⟨rfl, rfl⟩ ⟨Nat.le_of_ble_eq_true rfl, Nat.le_of_ble_eq_true rfl⟩ rfl hl.1 rfl (Nat.le_of_ble_eq_true rfl) ⟨(by show _ ≤ 600130; omega), (by show _ ≤ 7301080; omega)⟩ dL_law_903 (fun r9 hr9 => ?_)
            subst hr9
            refine lv_lload hx hb dL_law_906 (lv_at hl 9 rfl) ?_
            refine W.lcmp hx hb dL_law_908 ?_
            refine lv_if_le (tgt := 914) hx hb dL_law_909 (by decide) (fun c909 => ?_) (fun c909 => ?_)
            · refine lv_goto (tgt := 1034) hx hb dL_law_914 (by decide) ?_
              exact KK H locs ls ⟨N, st, v, (va_up mk f0 true), w, lg, a, ⟨hC, hX⟩, ⟨(hinv.mend hfa), hde⟩, hap1, hap2, hdis⟩ hS (lv_sub hl [1, 2, 3, 4] rfl)
            · exact absurd ((lg_cmp_le _ _).mpr (wys_le hinv.1 (fun _ => amb_up))) c909
  · refine lv_goto (tgt := 1034) hx hb dL_law_838 (by decide) ?_
    exact KK H locs ls ⟨N, st, v, mk, w, lg, a, ⟨hC, hX⟩, ⟨hinv, hde⟩, hap1, hap2, hdis⟩ hS (lv_sub hl [0, 1, 2, 3] rfl)
end P37
