section P22
variable {l : Launch} {D : va_G} {cyI cyZ cyA : ClassId} {q : Nat → Nat} {sm wd lg n N : Nat} {a : Nat → Nat} {st : Int32} {wv : Nat → Int32} {r : Nat → Nat → Int32} {v w : Nat → Nat → Int32} {mk : Nat → Bool}
set_option maxHeartbeats 4000000 in
set_option maxRecDepth 100000 in
theorem mX1_readings (hok : Ok N st v) (k : Nat) (hk : k < N) : Met l yX1_readings (wm yX1_readings cX1_readings 6 (some (.array .int))) ({ frames := 1, cells := 1, slots := 2, locals := 21 } : Room) (va_Pc [.ref sm, .int (nI k)] (fun U => S0 D cyI cyA sm wd lg a N st (v 3) (rowV v st mk) U U.heap)) (va_Qr (fun (_ : Unit) => True) (fun u z U => (fun (_ : Unit) (z : Nat) => (fun _ H => IA cyI z 2 (rd2 (rdn v st k) (rrn v st k)) H : State → Heap → Prop)) u z U U.heap) (fun _ => False)) 1 2 (fun _ => False) := by
  refine mt (by decide) (Nat.le_of_ble_eq_true rfl) ?_
  intro p ev s m below meth c ls hF hr hlocks hnm hX hl
  have hF : CallFix p m c cX1_readings 6 s _ wA RX1 := hF
  obtain ⟨hx, hb, hml, hown, hts⟩ := id hF
  have hX : S0 D cyI cyA sm wd lg a N st (v 3) (rowV v st mk) s s.heap := hX
  have hl : lv_has ls 6 [(0, .ref sm), (1, .int (nI k))] := hl
  have hS : va_S (fun q => s.heap.size ≤ q) s.heap s.heap [] := va_S.rf
  have hn16 := hX.n16
  obtain ⟨e0, he, hve⟩ := hok.2.2.1 k
  refine lv_iconst (v := 0) hx hb dX1_readings_0 (by decide) ?_
  refine topI (show 0 = rdM v st k 0 0 from rdM_0.symm) ?_
  refine lv_istore_n (lv' := [(2, .int (rdM v st k 0 0)), (0, .ref sm), (1, .int (nI k))]) hx hb dX1_readings_1 rfl hl (by decide) rfl (fun ls hl => ?_)
  refine lv_iconst (v := (-1)) hx hb dX1_readings_2 (by decide) ?_
  refine topI (show (-1) = rdR v st k e0 0 0 from rdR_0.symm) ?_
  refine lv_istore_n (lv' := [(3, .int (rdR v st k e0 0 0)), (2, .int (rdM v st k 0 0)), (0, .ref sm), (1, .int (nI k))]) hx hb dX1_readings_3 rfl hl (by decide) rfl (fun ls hl => ?_)
  refine lv_bipush (v := (nI 0 - 3)) hx hb dX1_readings_4 (by decide) ?_
  refine lv_istore (lv' := [(4, .int (nI 0 - 3)), (3, .int (rdR v st k e0 0 0)), (2, .int (rdM v st k 0 0)), (0, .ref sm), (1, .int (nI k))]) hx hb dX1_readings_6 hl (by decide) rfl (fun ls hl => ?_)
  refine lpW (σ := Nat) (fun e ls => (e ≤ 7) ∧ lv_has ls 6 [(0, .ref sm), (1, .int (nI k)), (2, .int (rdM v st k e 0)), (3, .int (rdR v st k e0 e 0)), (4, .int (nI e - 3))]) (fun e => 7 - e) (fun e ls hI ih1 => ?_) (0) ⟨Nat.zero_le _, lv_sub hl [3, 4, 2, 1, 0] rfl⟩
  obtain ⟨he9, hl⟩ := hI
  refine lv_iload hx hb dX1_readings_8 (lv_at hl 4 rfl) ?_
  refine lv_iconst (v := (nI 7 - 3)) hx hb dX1_readings_10 (by decide) ?_
  refine lv_icmp_ge (tgt := 119) hx hb dX1_readings_11 (by decide) (fun c11 => ?_) (fun c11 => ?_)
  · have h9 : 7 ≤ e := (nI_3le (by omega) (by omega)).mp c11
    have hx9 : e = 7 := by omega
    rw [hx9] at hl
    refine lv_iconst (v := 2) hx hb dX1_readings_119 (by decide) ?_
    refine newIr hF hX.2.1 hS 2 (by decide) rfl (by show _ ≤ 1; omega) (by show _ ≤ 2; omega) dX1_readings_120 (fun x1 H hq h_x1 hz ho hS1 => ?_)
    have nX_x1 : ∀ q : Nat, sown sm wd lg a N q → q ≠ x1 := fun q h9 => by rw [hq]; exact Nat.ne_of_lt (hX.lt h9)
    have hA_x1 : s.heap.size ≤ x1 := by rw [hq]; exact hS.1
    have hS := hS1
    have hX := hX.upK ho
    refine lv_dup hx hb dX1_readings_122 rfl ?_
    refine lv_iconst (v := 0) hx hb dX1_readings_123 (by decide) ?_
    refine lv_iload_n hx hb dX1_readings_124 rfl (lv_at hl 2 rfl) ?_
    refine stI hF hX.2.1 h_x1 hS hA_x1 0 (by decide) (by decide) rfl dX1_readings_125 (fun H locs h_x1 hz oq hS => ?_)
    have hX := hX.kept (fun q h9 => oq q (nX_x1 q h9))
    refine lv_dup hx hb dX1_readings_126 rfl ?_
    refine lv_iconst (v := 1) hx hb dX1_readings_127 (by decide) ?_
    refine lv_iload_n hx hb dX1_readings_128 rfl (lv_at hl 3 rfl) ?_
    refine stI hF hX.2.1 h_x1 hS hA_x1 1 (by decide) (by decide) rfl dX1_readings_129 (fun H locs h_x1 hz oq hS => ?_)
    have hX := hX.kept (fun q h9 => oq q (nX_x1 q h9))
    refine W.widen (k := 1) (n := 2) (by omega) (by omega) ?_
    refine va_forget (fun q hq => hS.2.2 q hq) ?_
    exact W.aret hx hb hr (Or.inr ⟨_, rfl⟩) (Or.inr ⟨_, rfl⟩) (fun t ht hW => ⟨⟨(), _, rfl, trivial, by show IA cyI _ 2 (rd2 _ _) t.heap; rw [ht, ← rdM_7 hok, ← rdR_7 he]; exact rd2_c h_x1⟩, sF hS ht⟩) (fun q hq => absurd hq List.not_mem_nil) dX1_readings_130
  · have h9 : ¬ 7 ≤ e := fun h => c11 ((nI_3le (by omega) (by omega)).mpr h)
    refine lv_iconst (v := 0) hx hb dX1_readings_14 (by decide) ?_
    refine lv_istore (lv' := [(5, .int 0), (0, .ref sm), (1, .int (nI k)), (2, .int (rdM v st k e 0)), (3, .int (rdR v st k e0 e 0)), (4, .int (nI e - 3))]) hx hb dX1_readings_15 hl (by decide) rfl (fun ls hl => ?_)
    refine lpW (σ := Nat) (fun j ls => (j ≤ 10 ∧ e < 7) ∧ lv_has ls 6 [(0, .ref sm), (1, .int (nI k)), (2, .int (rdM v st k e j)), (3, .int (rdR v st k e0 e j)), (4, .int (nI e - 3)), (5, .int (nI j))]) (fun j => 10 - j) (fun j ls hI ih2 => ?_) (0) ⟨⟨Nat.zero_le _, by omega⟩, lv_sub hl [1, 2, 3, 4, 5, 0] rfl⟩
    obtain ⟨he1, hl⟩ := hI
    refine lv_iload hx hb dX1_readings_17 (lv_at hl 5 rfl) ?_
    refine lv_bipush (v := (nI 10)) hx hb dX1_readings_19 (by decide) ?_
    refine lv_icmp_ge (tgt := 113) hx hb dX1_readings_21 (by decide) (fun c21 => ?_) (fun c21 => ?_)
    · have c21n : 10 ≤ j := (nI_leI (a := 10) (b := j) (by omega) (by omega)).mp c21
      have hx9 : j = 10 := by omega
      rw [hx9] at hl
      refine lv_iinc (v := (nI (e + 1) - 3)) (lv' := [(4, .int (nI (e + 1) - 3)), (0, .ref sm), (1, .int (nI k)), (2, .int (rdM v st k e 10)), (3, .int (rdR v st k e0 e 10)), (5, .int (nI 10))]) hx hb dX1_readings_113 hl (k := 4) rfl (nI_3 _) (by decide) rfl (fun ls hl => ?_)
      refine lv_goto (tgt := 8) hx hb dX1_readings_116 (by decide) ?_
      exact ih1 (e + 1) ls (by omega) ⟨by omega, by rw [← rdM_e, ← rdR_e (okM10 hok k)]; exact lv_sub hl [1, 2, 3, 4, 0] rfl⟩
    · have c21n : ¬ 10 ≤ j := fun h9 => c21 ((nI_leI (a := 10) (b := j) (by omega) (by omega)).mpr h9)
      refine lv_aload_n hx hb dX1_readings_24 rfl (lv_at hl 0 rfl) ?_
      refine lv_iload_n hx hb dX1_readings_25 rfl (lv_at hl 1 rfl) ?_
      refine cVi (As := [.int (nI k)]) (rest := []) hF (mX1_ahead k (by omega)) S0.mv hX hX.rc jyX1_ahead kl_RX1_27 ⟨rfl, rfl⟩ ⟨Nat.le_of_ble_eq_true rfl, Nat.le_of_ble_eq_true rfl⟩ rfl hl.1 rfl (Nat.le_of_ble_eq_true rfl) ⟨(by show _ ≤ 1; omega), (by show _ ≤ 2; omega)⟩ dX1_readings_26 (fun r9 hr9 => ?_)
      rw [hr9, rv_ahd]
      refine lv_iload hx hb dX1_readings_29 (lv_at hl 4 rfl) ?_
      refine lv_aload_n hx hb dX1_readings_31 rfl (lv_at hl 0 rfl) ?_
      refine S0.gS hF hX kf_RX1_18 dX1_readings_32 ?_
      refine lv_imul hx hb dX1_readings_35 ?_
      refine cSi (As := [.int (nt (v 0) st k), .int ((nI e - 3) * st)]) (rest := []) hF (mX1_sung (nt (v 0) st k) ((nI e - 3) * st)) Mv.const trivial jyX1_sung kl_RX1_31 ⟨rfl, rfl⟩ ⟨Nat.le_of_ble_eq_true rfl, Nat.le_of_ble_eq_true rfl⟩ rfl hl.1 rfl (Nat.le_of_ble_eq_true rfl) ⟨Nat.zero_le _, Nat.zero_le _⟩ dX1_readings_36 (fun r hr9 => ?_)
      subst hr9
      refine lv_aload_n hx hb dX1_readings_39 rfl (lv_at hl 0 rfl) ?_
      refine S0.gL hF hX kf_RX1_9 dX1_readings_40 ?_
      refine lv_iload_n hx hb dX1_readings_43 rfl (lv_at hl 1 rfl) ?_
      refine S0.ldA hF hX k hk rfl dX1_readings_44 ?_
      refine lv_iconst (v := 3) hx hb dX1_readings_45 (by decide) ?_
      refine S0.ldR hF hX k hk 3 (by decide) rfl dX1_readings_46 ?_
      refine topI (show (rowV v st mk) k 3 = nt (v 0) st (k + 1) from rfl) ?_
      refine lv_icmp_ne (tgt := 107) hx hb dX1_readings_47 (by decide) (fun c47 => ?_) (fun c47 => ?_)
      · refine lv_iinc (v := (nI (j + 1))) (lv' := [(5, .int (nI (j + 1))), (0, .ref sm), (1, .int (nI k)), (2, .int (rdM v st k e j)), (3, .int (rdR v st k e0 e j)), (4, .int (nI e - 3))]) hx hb dX1_readings_107 hl (k := 5) rfl (nI_1 _) (by decide) rfl (fun ls hl => ?_)
        refine lv_goto (tgt := 17) hx hb dX1_readings_110 (by decide) ?_
        exact ih2 (j + 1) ls (by omega) ⟨⟨by omega, he1.2⟩, by rw [rdM_n c47, rdR_m (rd_m1 hve c47)]; exact lv_sub hl [1, 2, 3, 4, 5, 0] rfl⟩
      · refine lv_aload_n hx hb dX1_readings_50 rfl (lv_at hl 0 rfl) ?_
        refine S0.gW hF hX kf_RX1_15 dX1_readings_51 ?_
        refine lv_iload hx hb dX1_readings_54 (lv_at hl 5 rfl) ?_
        refine S0.ldW hF hX j (by omega) rfl dX1_readings_56 ?_
        refine lv_aload_n hx hb dX1_readings_57 rfl (lv_at hl 0 rfl) ?_
        refine S0.gW hF hX kf_RX1_15 dX1_readings_58 ?_
        refine lv_aload_n hx hb dX1_readings_61 rfl (lv_at hl 0 rfl) ?_
        refine S0.gL hF hX kf_RX1_9 dX1_readings_62 ?_
        refine lv_iload_n hx hb dX1_readings_65 rfl (lv_at hl 1 rfl) ?_
        refine S0.ldA hF hX k hk rfl dX1_readings_66 ?_
        refine lv_iconst (v := 2) hx hb dX1_readings_67 (by decide) ?_
        refine S0.ldR hF hX k hk 2 (by decide) rfl dX1_readings_68 ?_
        refine topI (show (rowV v st mk) k 2 = v 2 k from rfl) ?_
        refine S0.ldW hF hX (ix (v 2 k)) (okM10 hok k) (okM hok k) dX1_readings_69 ?_
        refine lv_icmp_eq (tgt := 76) hx hb dX1_readings_70 (by decide) (fun c70 => ?_) (fun c70 => ?_)
        · refine lv_iload hx hb dX1_readings_76 (lv_at hl 4 rfl) ?_
          refine lv_aload_n hx hb dX1_readings_78 rfl (lv_at hl 0 rfl) ?_
          refine S0.gL hF hX kf_RX1_9 dX1_readings_79 ?_
          refine lv_iload_n hx hb dX1_readings_82 rfl (lv_at hl 1 rfl) ?_
          refine S0.ldA hF hX k hk rfl dX1_readings_83 ?_
          refine lv_iconst (v := 0) hx hb dX1_readings_84 (by decide) ?_
          refine S0.ldR hF hX k hk 0 (by decide) rfl dX1_readings_85 ?_
          refine topI (show (rowV v st mk) k 0 = v 0 k from rfl) ?_
          refine lv_icmp_ne (tgt := 104) hx hb dX1_readings_86 (by decide) (fun c86 => ?_) (fun c86 => ?_)
          · refine lv_iinc (v := ((rdM v st k e j) + 1)) (lv' := [(2, .int ((rdM v st k e j) + 1)), (0, .ref sm), (1, .int (nI k)), (3, .int (rdR v st k e0 e j)), (4, .int (nI e - 3)), (5, .int (nI j))]) hx hb dX1_readings_104 hl (k := 2) rfl (rfl) (by decide) rfl (fun ls hl => ?_)
            refine lv_iinc (v := (nI (j + 1))) (lv' := [(5, .int (nI (j + 1))), (2, .int ((rdM v st k e j) + 1)), (0, .ref sm), (1, .int (nI k)), (3, .int (rdR v st k e0 e j)), (4, .int (nI e - 3))]) hx hb dX1_readings_107 hl (k := 5) rfl (nI_1 _) (by decide) rfl (fun ls hl => ?_)
            refine lv_goto (tgt := 17) hx hb dX1_readings_110 (by decide) ?_
            exact ih2 (j + 1) ls (by omega) ⟨⟨by omega, he1.2⟩, by rw [rdR_m (rd_m3 hve c86), rdM_y c47 c70]; exact lv_sub hl [2, 3, 1, 4, 5, 0] rfl⟩
          · refine lv_iload hx hb dX1_readings_89 (lv_at hl 5 rfl) ?_
            refine lv_aload_n hx hb dX1_readings_91 rfl (lv_at hl 0 rfl) ?_
            refine S0.gL hF hX kf_RX1_9 dX1_readings_92 ?_
            refine lv_iload_n hx hb dX1_readings_95 rfl (lv_at hl 1 rfl) ?_
            refine S0.ldA hF hX k hk rfl dX1_readings_96 ?_
            refine lv_iconst (v := 2) hx hb dX1_readings_97 (by decide) ?_
            refine S0.ldR hF hX k hk 2 (by decide) rfl dX1_readings_98 ?_
            refine topI (show (rowV v st mk) k 2 = v 2 k from rfl) ?_
            refine lv_icmp_ne (tgt := 104) hx hb dX1_readings_99 (by decide) (fun c99 => ?_) (fun c99 => ?_)
            · refine lv_iinc (v := ((rdM v st k e j) + 1)) (lv' := [(2, .int ((rdM v st k e j) + 1)), (0, .ref sm), (1, .int (nI k)), (3, .int (rdR v st k e0 e j)), (4, .int (nI e - 3)), (5, .int (nI j))]) hx hb dX1_readings_104 hl (k := 2) rfl (rfl) (by decide) rfl (fun ls hl => ?_)
              refine lv_iinc (v := (nI (j + 1))) (lv' := [(5, .int (nI (j + 1))), (2, .int ((rdM v st k e j) + 1)), (0, .ref sm), (1, .int (nI k)), (3, .int (rdR v st k e0 e j)), (4, .int (nI e - 3))]) hx hb dX1_readings_107 hl (k := 5) rfl (nI_1 _) (by decide) rfl (fun ls hl => ?_)
              refine lv_goto (tgt := 17) hx hb dX1_readings_110 (by decide) ?_
              exact ih2 (j + 1) ls (by omega) ⟨⟨by omega, he1.2⟩, by rw [rdR_m (rd_m4 hok c99), rdM_y c47 c70]; exact lv_sub hl [2, 3, 1, 4, 5, 0] rfl⟩
            · refine lv_iload_n hx hb dX1_readings_102 rfl (lv_at hl 2 rfl) ?_
              refine lv_istore_n (lv' := [(3, .int (rdM v st k e j)), (0, .ref sm), (1, .int (nI k)), (2, .int (rdM v st k e j)), (4, .int (nI e - 3)), (5, .int (nI j))]) hx hb dX1_readings_103 rfl hl (by decide) rfl (fun ls hl => ?_)
              refine lv_iinc (v := ((rdM v st k e j) + 1)) (lv' := [(2, .int ((rdM v st k e j) + 1)), (3, .int (rdM v st k e j)), (0, .ref sm), (1, .int (nI k)), (4, .int (nI e - 3)), (5, .int (nI j))]) hx hb dX1_readings_104 hl (k := 3) rfl (rfl) (by decide) rfl (fun ls hl => ?_)
              refine lv_iinc (v := (nI (j + 1))) (lv' := [(5, .int (nI (j + 1))), (2, .int ((rdM v st k e j) + 1)), (3, .int (rdM v st k e j)), (0, .ref sm), (1, .int (nI k)), (4, .int (nI e - 3))]) hx hb dX1_readings_107 hl (k := 5) rfl (nI_1 _) (by decide) rfl (fun ls hl => ?_)
              refine lv_goto (tgt := 17) hx hb dX1_readings_110 (by decide) ?_
              exact ih2 (j + 1) ls (by omega) ⟨⟨by omega, he1.2⟩, by rw [rdR_h hok he hve (rd_e he1.2 he hve c86) (rd_j (by omega) c99), rdM_y c47 c70]; exact lv_sub hl [3, 4, 1, 2, 5, 0] rfl⟩
        · refine lv_goto (tgt := 107) hx hb dX1_readings_73 (by decide) ?_
          refine lv_iinc (v := (nI (j + 1))) (lv' := [(5, .int (nI (j + 1))), (0, .ref sm), (1, .int (nI k)), (2, .int (rdM v st k e j)), (3, .int (rdR v st k e0 e j)), (4, .int (nI e - 3))]) hx hb dX1_readings_107 hl (k := 5) rfl (nI_1 _) (by decide) rfl (fun ls hl => ?_)
          refine lv_goto (tgt := 17) hx hb dX1_readings_110 (by decide) ?_
          exact ih2 (j + 1) ls (by omega) ⟨⟨by omega, he1.2⟩, by rw [rdM_w c70, rdR_m (rd_m2 c70)]; exact lv_sub hl [1, 2, 3, 4, 5, 0] rfl⟩
set_option maxHeartbeats 4000000 in
set_option maxRecDepth 100000 in
theorem mX1_isOpen (hok : Ok N st v) (k : Nat) (hk : k < N) : Met l yX1_isOpen (wm yX1_isOpen cX1_isOpen 2 (some .boolean)) ({ frames := 2, cells := 1, slots := 2, locals := 46 } : Room) (va_Pc [.ref sm, .int (nI k)] (fun U => S0 D cyI cyA sm wd lg a N st (v 3) (rowV v st mk) U U.heap)) (va_Qi (fun r9 (_ : Unit) => r9 = b2i (amb v st mk k)) (fun u U => (fun (_ : Unit) => (fun _ _ => True : State → Heap → Prop)) u U U.heap) (fun _ => False)) 1 2 (fun _ => False) := by
  refine mt (by decide) (Nat.le_of_ble_eq_true rfl) ?_
  intro p ev s m below meth c ls hF hr hlocks hnm hX hl
  have hF : CallFix p m c cX1_isOpen 2 s _ wA RX1 := hF
  obtain ⟨hx, hb, hml, hown, hts⟩ := id hF
  have hX : S0 D cyI cyA sm wd lg a N st (v 3) (rowV v st mk) s s.heap := hX
  have hl : lv_has ls 2 [(0, .ref sm), (1, .int (nI k))] := hl
  have hS : va_S (fun q => s.heap.size ≤ q) s.heap s.heap [] := va_S.rf
  have hn16 := hX.n16
  refine lv_aload_n hx hb dX1_isOpen_0 rfl (lv_at hl 0 rfl) ?_
  refine S0.gL hF hX kf_RX1_9 dX1_isOpen_1 ?_
  refine lv_iload_n hx hb dX1_isOpen_4 rfl (lv_at hl 1 rfl) ?_
  refine S0.ldA hF hX k hk rfl dX1_isOpen_5 ?_
  refine lv_iconst (v := 5) hx hb dX1_isOpen_6 (by decide) ?_
  refine S0.ldR hF hX k hk 5 (by decide) rfl dX1_isOpen_7 ?_
  refine topI (show (rowV v st mk) k 5 = b2i (mk k) from rfl) ?_
  refine lv_if_ne (tgt := 26) hx hb dX1_isOpen_8 (by decide) (fun c8 => ?_) (fun c8 => ?_)
  · have c8b := b2i_t c8
    refine lv_iconst (v := 0) hx hb dX1_isOpen_26 (by decide) ?_
    refine W.widen (k := 1) (n := 2) (by omega) (by omega) ?_
    refine va_forget (fun q hq => hS.2.2 q hq) ?_
    exact W.zret hx hb hr rfl (fun t ht hW => ⟨⟨_, (), rfl, b2i_0 (amb_o c8b), trivial⟩, sF hS ht⟩) (fun q hq => absurd hq List.not_mem_nil) dX1_isOpen_27
  · have c8b := b2i_f c8
    refine lv_aload_n hx hb dX1_isOpen_11 rfl (lv_at hl 0 rfl) ?_
    refine lv_iload_n hx hb dX1_isOpen_12 rfl (lv_at hl 1 rfl) ?_
    refine wVr (mc := 1) (ms := 2) (As := [.int (nI k)]) (rest := []) hF (mX1_readings hok k (by omega)) S0.mv (fun _ _ => heapMv) hX hX.rc jyX1_readings kl_RX1_35 ⟨rfl, rfl⟩ ⟨Nat.le_of_ble_eq_true rfl, Nat.le_of_ble_eq_true rfl⟩ rfl hl.1 rfl (Nat.le_of_ble_eq_true rfl) ⟨by show _ + 1 ≤ 1; omega, by show _ + 2 ≤ 2; omega⟩ hS (fun _ _ h => h.elim) (fun _ h => h.elim) dX1_isOpen_13 (fun u9 x1 H locs hp9 hB9 hz hk hS => ?_)
    have ho : ∀ q : Nat, q < _ → H[q]? = _ := fun q h9 => hk q h9 (fun h => h)
    have hX := hX.upK ho
    have h_x1 := hB9
    refine lv_iconst (v := 0) hx hb dX1_isOpen_16 (by decide) ?_
    refine ldI hF hX.2.1 h_x1 0 (by decide) (by decide) rfl dX1_isOpen_17 ?_
    refine topI (show ((rd2 (rdn v st k) (rrn v st k)) 0) = rdn v st k from rfl) ?_
    refine lv_iconst (v := 1) hx hb dX1_isOpen_18 (by decide) ?_
    refine lv_icmp_le (tgt := 26) hx hb dX1_isOpen_19 (by decide) (fun c19 => ?_) (fun c19 => ?_)
    · refine lv_iconst (v := 0) hx hb dX1_isOpen_26 (by decide) ?_
      refine W.widen (k := 1) (n := 2) (by omega) (by omega) ?_
      refine va_forget (fun q hq => hS.2.2 q hq) ?_
      exact W.zret hx hb hr rfl (fun t ht hW => ⟨⟨_, (), rfl, b2i_0 (amb_0 c19), trivial⟩, sF hS ht⟩) (fun q hq => absurd hq List.not_mem_nil) dX1_isOpen_27
    · refine lv_iconst (v := 1) hx hb dX1_isOpen_22 (by decide) ?_
      refine lv_goto (tgt := 27) hx hb dX1_isOpen_23 (by decide) ?_
      refine W.widen (k := 1) (n := 2) (by omega) (by omega) ?_
      refine va_forget (fun q hq => hS.2.2 q hq) ?_
      exact W.zret hx hb hr rfl (fun t ht hW => ⟨⟨_, (), rfl, b2i_1 (amb_1 c8b c19), trivial⟩, sF hS ht⟩) (fun q hq => absurd hq List.not_mem_nil) dX1_isOpen_27
set_option maxHeartbeats 4000000 in
set_option maxRecDepth 100000 in
theorem mX1_open (hok : Ok N st v) : Met l yX1_open (wm yX1_open cX1_open 3 (some .int)) ({ frames := 3, cells := 16, slots := 32, locals := 67 } : Room) (va_Pc [.ref sm] (fun U => S0 D cyI cyA sm wd lg a N st (v 3) (rowV v st mk) U U.heap)) (va_Qi (fun r9 (_ : Unit) => r9 = ctB (amb v st mk) N) (fun u U => (fun (_ : Unit) => (fun _ _ => True : State → Heap → Prop)) u U U.heap) (fun _ => False)) 16 32 (fun _ => False) := by
  refine mt (by decide) (Nat.le_of_ble_eq_true rfl) ?_
  intro p ev s m below meth c ls hF hr hlocks hnm hX hl
  have hF : CallFix p m c cX1_open 3 s _ wA RX1 := hF
  obtain ⟨hx, hb, hml, hown, hts⟩ := id hF
  have hX : S0 D cyI cyA sm wd lg a N st (v 3) (rowV v st mk) s s.heap := hX
  have hl : lv_has ls 3 [(0, .ref sm)] := hl
  have hS : va_S (fun q => s.heap.size ≤ q) s.heap s.heap [] := va_S.rf
  have hn16 := hX.n16
  refine lv_iconst (v := 0) hx hb dX1_open_0 (by decide) ?_
  refine lv_istore_n (lv' := [(1, .int 0), (0, .ref sm)]) hx hb dX1_open_1 rfl hl (by decide) rfl (fun ls hl => ?_)
  refine lv_iconst (v := 0) hx hb dX1_open_2 (by decide) ?_
  refine lv_istore_n (lv' := [(2, .int 0), (1, .int 0), (0, .ref sm)]) hx hb dX1_open_3 rfl hl (by decide) rfl (fun ls hl => ?_)
  refine W.widen (k := 0) (n := 2 * 0) (by omega) (by omega) ?_
  refine lpC (σ := Nat) (τ := Unit) (fun j u8 ls H locs => (j ≤ N) ∧ (S0 D cyI cyA sm wd lg a N st (v 3) (rowV v st mk) s H) ∧ va_S (fun q => s.heap.size ≤ q) s.heap H locs ∧ lv_has ls 3 [(0, .ref sm), (1, .int (ctB (amb v st mk) j)), (2, .int (nI j))]) (fun j u8 => N - j) (fun j => j) (fun j => 2 * j) (fun j u8 ls H locs hI ih => ?_) (0) () ⟨Nat.zero_le _, hX, hS, lv_sub hl [2, 1, 0] rfl⟩
  obtain ⟨hj, hX, hS, hl⟩ := hI
  refine lv_iload_n hx hb dX1_open_4 rfl (lv_at hl 2 rfl) ?_
  refine lv_aload_n hx hb dX1_open_5 rfl (lv_at hl 0 rfl) ?_
  refine S0.gL hF hX kf_RX1_9 dX1_open_6 ?_
  refine S0.len hF hX dX1_open_9 ?_
  refine lv_icmp_ge (tgt := 35) hx hb dX1_open_10 (by decide) (fun c10 => ?_) (fun c10 => ?_)
  · have c10n : N ≤ j := (nI_leI (a := N) (b := j) (by omega) (by omega)).mp c10
    obtain rfl : j = N := by omega
    refine lv_iload_n hx hb dX1_open_35 rfl (lv_at hl 1 rfl) ?_
    refine W.widen (k := 16) (n := 32) (by omega) (by omega) ?_
    refine va_forget (fun q hq => hS.2.2 q hq) ?_
    exact W.iret hx hb hr (fun t ht hW => ⟨⟨_, (), rfl, rfl, trivial⟩, sF hS ht⟩) (fun q hq => absurd hq List.not_mem_nil) dX1_open_36
  · have c10n : ¬ N ≤ j := fun h9 => c10 ((nI_leI (a := N) (b := j) (by omega) (by omega)).mpr h9)
    refine lv_iload_n hx hb dX1_open_13 rfl (lv_at hl 1 rfl) ?_
    refine lv_aload_n hx hb dX1_open_14 rfl (lv_at hl 0 rfl) ?_
    refine lv_iload_n hx hb dX1_open_15 rfl (lv_at hl 2 rfl) ?_
    refine wVi (mc := 1) (ms := 2) (As := [.int (nI j)]) (rest := [.int (ctB (amb v st mk) j)]) hF (mX1_isOpen hok j (by omega)) S0.mv (fun _ => Mv.const) hX hX.rc jyX1_isOpen kl_RX1_39 ⟨rfl, rfl⟩ ⟨Nat.le_of_ble_eq_true rfl, Nat.le_of_ble_eq_true rfl⟩ rfl hl.1 rfl (Nat.le_of_ble_eq_true rfl) ⟨by show _ + 1 ≤ 16; omega, by show _ + 2 ≤ 32; omega⟩ hS (fun _ _ h => h.elim) (fun _ h => h.elim) dX1_open_16 (fun r9 u9 H locs hp9 hB9 hz hk hS => ?_)
    have ho : ∀ q : Nat, q < _ → H[q]? = _ := fun q h9 => hk q h9 (fun h => h)
    have hX := hX.upK ho
    subst hp9
    refine lv_if_eq (tgt := 26) hx hb dX1_open_19 (by decide) (fun c19 => ?_) (fun c19 => ?_)
    · have c19b := b2i_f c19
      refine lv_iconst (v := 0) hx hb dX1_open_26 (by decide) ?_
      refine lv_iadd hx hb dX1_open_27 ?_
      refine topI (show ((ctB (amb v st mk) j) + 0) = ctB (amb v st mk) (j + 1) from ctB_f' c19b) ?_
      refine lv_istore_n (lv' := [(1, .int (ctB (amb v st mk) (j + 1))), (0, .ref sm), (2, .int (nI j))]) hx hb dX1_open_28 rfl hl (by decide) rfl (fun ls hl => ?_)
      refine lv_iinc (v := (nI (j + 1))) (lv' := [(2, .int (nI (j + 1))), (1, .int (ctB (amb v st mk) (j + 1))), (0, .ref sm)]) hx hb dX1_open_29 hl (k := 2) rfl (nI_1 _) (by decide) rfl (fun ls hl => ?_)
      refine lv_goto (tgt := 4) hx hb dX1_open_32 (by decide) ?_
      refine W.widen (k := (j + 1)) (n := 2 * (j + 1)) (by omega) (by omega) ?_
      exact ih (j + 1) () ls H locs (by omega) ⟨by omega, hX, hS, by exact lv_sub hl [2, 1, 0] rfl⟩
    · have c19b := b2i_t c19
      refine lv_iconst (v := 1) hx hb dX1_open_22 (by decide) ?_
      refine lv_goto (tgt := 27) hx hb dX1_open_23 (by decide) ?_
      refine lv_iadd hx hb dX1_open_27 ?_
      refine topI (show ((ctB (amb v st mk) j) + 1) = ctB (amb v st mk) (j + 1) from ctB_t' c19b) ?_
      refine lv_istore_n (lv' := [(1, .int (ctB (amb v st mk) (j + 1))), (0, .ref sm), (2, .int (nI j))]) hx hb dX1_open_28 rfl hl (by decide) rfl (fun ls hl => ?_)
      refine lv_iinc (v := (nI (j + 1))) (lv' := [(2, .int (nI (j + 1))), (1, .int (ctB (amb v st mk) (j + 1))), (0, .ref sm)]) hx hb dX1_open_29 hl (k := 2) rfl (nI_1 _) (by decide) rfl (fun ls hl => ?_)
      refine lv_goto (tgt := 4) hx hb dX1_open_32 (by decide) ?_
      refine W.widen (k := (j + 1)) (n := 2 * (j + 1)) (by omega) (by omega) ?_
      exact ih (j + 1) () ls H locs (by omega) ⟨by omega, hX, hS, by exact lv_sub hl [2, 1, 0] rfl⟩
set_option maxHeartbeats 4000000 in
set_option maxRecDepth 100000 in
theorem mX1_ways (hok : Ok N st v) : Met l yX1_ways (wm yX1_ways cX1_ways 4 (some .long)) ({ frames := 3, cells := 32, slots := 64, locals := 67 } : Room) (va_Pc [.ref sm] (fun U => S0 D cyI cyA sm wd lg a N st (v 3) (rowV v st mk) U U.heap)) (va_Ql (fun r9 (_ : Unit) => r9 = wys v st mk N) (fun u U => (fun (_ : Unit) => (fun _ _ => True : State → Heap → Prop)) u U U.heap) (fun _ => False)) 32 64 (fun _ => False) := by
  refine mt (by decide) (Nat.le_of_ble_eq_true rfl) ?_
  intro p ev s m below meth c ls hF hr hlocks hnm hX hl
  have hF : CallFix p m c cX1_ways 4 s _ wA RX1 := hF
  obtain ⟨hx, hb, hml, hown, hts⟩ := id hF
  have hX : S0 D cyI cyA sm wd lg a N st (v 3) (rowV v st mk) s s.heap := hX
  have hl : lv_has ls 4 [(0, .ref sm)] := hl
  have hS : va_S (fun q => s.heap.size ≤ q) s.heap s.heap [] := va_S.rf
  have hn16 := hX.n16
  refine lv_lconst (v := 1) hx hb dX1_ways_0 (by decide) ?_
  refine lv_lstore_n (lv' := [(1, .long 1), (0, .ref sm)]) hx hb dX1_ways_1 rfl hl (by decide) rfl (fun ls hl => ?_)
  refine lv_iconst (v := 0) hx hb dX1_ways_2 (by decide) ?_
  refine lv_istore_n (lv' := [(3, .int 0), (1, .long 1), (0, .ref sm)]) hx hb dX1_ways_3 rfl hl (by decide) rfl (fun ls hl => ?_)
  refine W.widen (k := 2 * 0) (n := 4 * 0) (by omega) (by omega) ?_
  refine lpC (σ := Nat) (τ := Unit) (fun j u8 ls H locs => (j ≤ N) ∧ (S0 D cyI cyA sm wd lg a N st (v 3) (rowV v st mk) s H) ∧ va_S (fun q => s.heap.size ≤ q) s.heap H locs ∧ lv_has ls 4 [(0, .ref sm), (1, .long (wys v st mk j)), (3, .int (nI j))]) (fun j u8 => N - j) (fun j => 2 * j) (fun j => 4 * j) (fun j u8 ls H locs hI ih => ?_) (0) () ⟨Nat.zero_le _, hX, hS, lv_sub hl [2, 1, 0] rfl⟩
  obtain ⟨hj, hX, hS, hl⟩ := hI
  refine lv_iload_n hx hb dX1_ways_4 rfl (lv_at hl 2 rfl) ?_
  refine lv_aload_n hx hb dX1_ways_5 rfl (lv_at hl 0 rfl) ?_
  refine S0.gL hF hX kf_RX1_9 dX1_ways_6 ?_
  refine S0.len hF hX dX1_ways_9 ?_
  refine lv_icmp_ge (tgt := 53) hx hb dX1_ways_10 (by decide) (fun c10 => ?_) (fun c10 => ?_)
  · have c10n : N ≤ j := (nI_leI (a := N) (b := j) (by omega) (by omega)).mp c10
    obtain rfl : j = N := by omega
    refine lv_lload_n hx hb dX1_ways_53 rfl (lv_at hl 1 rfl) ?_
    refine W.widen (k := 32) (n := 64) (by omega) (by omega) ?_
    refine va_forget (fun q hq => hS.2.2 q hq) ?_
    exact W.lret hx hb hr (fun t ht hW => ⟨⟨_, (), rfl, rfl, trivial⟩, sF hS ht⟩) (fun q hq => absurd hq List.not_mem_nil) dX1_ways_54
  · have c10n : ¬ N ≤ j := fun h9 => c10 ((nI_leI (a := N) (b := j) (by omega) (by omega)).mpr h9)
    refine lv_aload_n hx hb dX1_ways_13 rfl (lv_at hl 0 rfl) ?_
    refine lv_iload_n hx hb dX1_ways_14 rfl (lv_at hl 2 rfl) ?_
    refine wVi (mc := 1) (ms := 2) (As := [.int (nI j)]) (rest := []) hF (mX1_isOpen hok j (by omega)) S0.mv (fun _ => Mv.const) hX hX.rc jyX1_isOpen kl_RX1_39 ⟨rfl, rfl⟩ ⟨Nat.le_of_ble_eq_true rfl, Nat.le_of_ble_eq_true rfl⟩ rfl hl.1 rfl (Nat.le_of_ble_eq_true rfl) ⟨by show _ + 1 ≤ 32; omega, by show _ + 2 ≤ 64; omega⟩ hS (fun _ _ h => h.elim) (fun _ h => h.elim) dX1_ways_15 (fun r9 u9 H locs hp9 hB9 hz hk hS => ?_)
    have ho : ∀ q : Nat, q < _ → H[q]? = _ := fun q h9 => hk q h9 (fun h => h)
    have hX := hX.upK ho
    subst hp9
    refine lv_if_ne (tgt := 24) hx hb dX1_ways_18 (by decide) (fun c18 => ?_) (fun c18 => ?_)
    · have c18b := b2i_t c18
      refine lv_lload_n hx hb dX1_ways_24 rfl (lv_at hl 1 rfl) ?_
      refine lv_aload_n hx hb dX1_ways_25 rfl (lv_at hl 0 rfl) ?_
      refine lv_iload_n hx hb dX1_ways_26 rfl (lv_at hl 2 rfl) ?_
      refine wVr (mc := 1) (ms := 2) (As := [.int (nI j)]) (rest := [.long (wys v st mk j)]) hF (mX1_readings hok j (by omega)) S0.mv (fun _ _ => heapMv) hX hX.rc jyX1_readings kl_RX1_35 ⟨rfl, rfl⟩ ⟨Nat.le_of_ble_eq_true rfl, Nat.le_of_ble_eq_true rfl⟩ rfl hl.1 rfl (Nat.le_of_ble_eq_true rfl) ⟨by show _ + 1 ≤ 32; omega, by show _ + 2 ≤ 64; omega⟩ hS (fun _ _ h => h.elim) (fun _ h => h.elim) dX1_ways_27 (fun u9 x1 H locs hp9 hB9 hz hk hS => ?_)
      have ho : ∀ q : Nat, q < _ → H[q]? = _ := fun q h9 => hk q h9 (fun h => h)
      have hX := hX.upK ho
      have h_x1 := hB9
      refine lv_iconst (v := 0) hx hb dX1_ways_30 (by decide) ?_
      refine ldI hF hX.2.1 h_x1 0 (by decide) (by decide) rfl dX1_ways_31 ?_
      refine topI (show ((rd2 (rdn v st j) (rrn v st j)) 0) = rdn v st j from rfl) ?_
      refine lv_i2l hx hb dX1_ways_32 rfl ?_
      refine lv_lmul hx hb dX1_ways_33 ?_
      refine lv_lstore_n (lv' := [(1, .long ((wys v st mk j) * (Int32.toInt64 (rdn v st j)))), (0, .ref sm), (3, .int (nI j))]) hx hb dX1_ways_34 rfl hl (by decide) rfl (fun ls hl => ?_)
      refine lv_lload_n hx hb dX1_ways_35 rfl (lv_at hl 0 rfl) ?_
      refine lv_ldc2 hx hb hown (hts _ kk_RX1_43) dX1_ways_36 ?_
      refine W.lcmp hx hb dX1_ways_39 ?_
      refine lv_if_le (tgt := 47) hx hb dX1_ways_40 (by decide) (fun c40 => ?_) (fun c40 => ?_)
      · refine lv_iinc (v := (nI (j + 1))) (lv' := [(3, .int (nI (j + 1))), (1, .long ((wys v st mk j) * (Int32.toInt64 (rdn v st j)))), (0, .ref sm)]) hx hb dX1_ways_47 hl (k := 2) rfl (nI_1 _) (by decide) rfl (fun ls hl => ?_)
        refine lv_goto (tgt := 4) hx hb dX1_ways_50 (by decide) ?_
        refine W.widen (k := 2 * (j + 1)) (n := 4 * (j + 1)) (by omega) (by omega) ?_
        exact ih (j + 1) () ls H locs (by omega) ⟨by omega, hX, hS, by rw [wys_t c18b, if_neg (Int64.not_lt.mpr ((lg_cmp_le _ _).mp c40))]; exact lv_sub hl [2, 1, 0] rfl⟩
      · refine lv_ldc2 hx hb hown (hts _ kk_RX1_43) dX1_ways_43 ?_
        refine lv_lstore_n (lv' := [(1, .long 1000000000), (0, .ref sm), (3, .int (nI j))]) hx hb dX1_ways_46 rfl hl (by decide) rfl (fun ls hl => ?_)
        refine lv_iinc (v := (nI (j + 1))) (lv' := [(3, .int (nI (j + 1))), (1, .long 1000000000), (0, .ref sm)]) hx hb dX1_ways_47 hl (k := 2) rfl (nI_1 _) (by decide) rfl (fun ls hl => ?_)
        refine lv_goto (tgt := 4) hx hb dX1_ways_50 (by decide) ?_
        refine W.widen (k := 2 * (j + 1)) (n := 4 * (j + 1)) (by omega) (by omega) ?_
        exact ih (j + 1) () ls H locs (by omega) ⟨by omega, hX, hS, by rw [wys_t c18b, if_pos ((lg_cmp_gt _ _).mp (Int32.not_le.mp c40))]; exact lv_sub hl [2, 1, 0] rfl⟩
    · have c18b := b2i_f c18
      refine lv_goto (tgt := 47) hx hb dX1_ways_21 (by decide) ?_
      refine lv_iinc (v := (nI (j + 1))) (lv' := [(3, .int (nI (j + 1))), (0, .ref sm), (1, .long (wys v st mk j))]) hx hb dX1_ways_47 hl (k := 2) rfl (nI_1 _) (by decide) rfl (fun ls hl => ?_)
      refine lv_goto (tgt := 4) hx hb dX1_ways_50 (by decide) ?_
      refine W.widen (k := 2 * (j + 1)) (n := 4 * (j + 1)) (by omega) (by omega) ?_
      exact ih (j + 1) () ls H locs (by omega) ⟨by omega, hX, hS, by rw [wys_f c18b]; exact lv_sub hl [1, 2, 0] rfl⟩
end P22
