section R24
variable {sm wd lg n x z B : Nat} {a : Nat → Nat} {st by1 : Int32} {r r2 : Nat → Nat → Int32} {v : Nat → Nat → Int32} {mk : Nat → Bool} {N k : Nat} {b : Bool}
theorem sownG (h : ∀ q : Nat, sown sm wd lg a n q → B ≤ q) (hx : B ≤ x) (hz : B ≤ z) : ∀ q : Nat, sown sm wd z (va_up a n x) (n + 1) q → B ≤ q := by
  intro q hq
  rcases hq with e | e | e | ⟨k, hk, e⟩
  · exact h q (Or.inl e)
  · exact h q (Or.inr (Or.inl e))
  · rw [e]; exact hz
  · by_cases hkn : k = n
    · subst hkn
      rw [e, up_n]; exact hx
    · rw [up_lt _ _ (by omega)] at e
      exact h q (Or.inr (Or.inr (Or.inr ⟨k, by omega, e⟩)))
theorem rowsG (h : ∀ k : Nat, k < n → ∀ i : Nat, i < 6 → r2 k i = r k i) : ∀ k : Nat, k < n + 1 → ∀ i : Nat, i < 6 → va_up r2 n (six (r n 0) (r n 1) (r n 2) (r n 3) (r n 4) (r n 5)) k i = r k i := by
  intro k hk i hi
  by_cases hkn : k = n
  · subst hkn
    rw [show va_up r2 k (six (r k 0) (r k 1) (r k 2) (r k 3) (r k 4) (r k 5)) k = six (r k 0) (r k 1) (r k 2) (r k 3) (r k 4) (r k 5) by simp [va_up]]
    exact six_r i hi
  · rw [show va_up r2 n (six (r n 0) (r n 1) (r n 2) (r n 3) (r n 4) (r n 5)) k = r2 k by simp [va_up, hkn]]
    exact h k (by omega) i hi
set_option maxRecDepth 100000 in
theorem fin2 : ∀ a, a < 25 → ∀ e, e < 7 → ∀ s, s < 4 → (if nb (nI a) ((nI e - 3) * nI (s + 1)) = nI a + (nI e - 3) * nI (s + 1) then (0 : Int32) else 1) = b2i (lv9 (nI a + (nI e - 3) * nI (s + 1))) := by decide +kernel
theorem fold_if (h : Ok N st v) (k : Nat) : (if nt (v 0) st (k + 1) = nt (v 0) st k + v 0 k * st then (0 : Int32) else 1) = b2i (fold1 v st k) := by
  obtain ⟨s, hs, e⟩ := h.2.1
  obtain ⟨e9, he, ev⟩ := h.2.2.1 k
  subst e
  obtain ⟨a, ha, en⟩ := nt_rng h hs k
  have h9 := fin2 a ha e9 he s hs
  unfold fold1
  rw [show nt (v 0) (nI (s + 1)) (k + 1) = nb (nt (v 0) (nI (s + 1)) k) (v 0 k * nI (s + 1)) from rfl, en, ev]
  exact h9
theorem sg_row (h : Ok N st v) (hr : ∀ i : Nat, i < 3 → r k i = v i k) (h5 : (b = true ∧ mk k = false) ∨ (b = false ∧ r k 5 = b2i (mk k))) : ∀ i : Nat, i < 6 → sgR (v 0) st b r k i = rowV v st mk k i := by
  intro i hi
  match i, hi with
  | 0, _ => exact hr 0 (by decide)
  | 1, _ => exact hr 1 (by decide)
  | 2, _ => exact hr 2 (by decide)
  | 3, _ => rfl
  | 4, _ => exact fold_if h k
  | 5, _ =>
    rcases h5 with ⟨e, h9⟩ | ⟨e, h9⟩ <;> subst e
    · show (0 : Int32) = b2i (mk k)
      rw [h9]; rfl
    · exact h9
theorem open_unm : ctB (amb v by1 (fun _ => false)) N = unm v (v 3) by1 N := by
  have e : amb v by1 (fun _ => false) = umP v (v 3) by1 := by
    funext k
    unfold amb
    simp only [Bool.not_false, Bool.true_and]
    rfl
  unfold unm
  rw [e]
theorem y8_up {f g : Nat → Int32} {j : Nat} (h : ∀ i : Nat, i < j → f i = g i) : ∀ i : Nat, i < j + 1 → upd f j (g j) i = g i := by
  intro i hi
  by_cases hij : i = j
  · subst hij; simp [upd]
  · simp only [upd, if_neg hij]; exact h i (by omega)
end R24

section P24
variable {l : Launch} {D : va_G} {cyI cyZ cyA : ClassId} {q : Nat → Nat} {sm wd lg n N : Nat} {a : Nat → Nat} {st : Int32} {wv : Nat → Int32} {r : Nat → Nat → Int32} {v w : Nat → Nat → Int32} {mk : Nat → Bool}
variable {sz : Nat}
set_option maxHeartbeats 4000000 in
set_option maxRecDepth 100000 in
theorem mX1_copy  : Met l yX1_copy (wm yX1_copy cX1_copy 6 (some (.object "MapSongsLaw$Sim"))) ({ frames := 2, cells := 40, slots := 400, locals := 32 } : Room) (va_Pc [.ref sm] (fun U => XSz D cyI cyA sm wd lg a n st wv r sz U U.heap)) (va_Qr (fun (_ : Nat × Nat × (Nat → Nat)) => True) (fun u z U => YCo D cyI cyA n st wv r sz u z U U.heap) (fun _ => False)) 40 400 (fun _ => False) := by
  refine mt (by decide) (Nat.le_of_ble_eq_true rfl) ?_
  intro p ev s m below meth c ls hF hr hlocks hnm hX hl
  have hF : CallFix p m c cX1_copy 6 s _ wA RX1 := hF
  obtain ⟨hx, hb, hml, hown, hts⟩ := id hF
  have hX : XSz D cyI cyA sm wd lg a n st wv r sz s s.heap := hX
  have hl : lv_has ls 6 [(0, .ref sm)] := hl
  have hS : va_S (fun q => s.heap.size ≤ q) s.heap s.heap [] := va_S.rf
  obtain ⟨hX0, hsz⟩ := hX
  subst hsz
  have hX := hX0
  have hn16 := hX.n16
  refine newS hF hX.2.1 hS kc_RX1_10 (by show _ ≤ 40; omega) (by show _ ≤ 400; omega) dX1_copy_0 (fun x1 H hq h_x1 hz ho hS1 => ?_)
  have hA_x1 : s.heap.size ≤ x1 := by rw [hq]; exact hS.1
  have hS := hS1
  have hX := hX0.up hS
  refine lv_dup hx hb dX1_copy_3 rfl ?_
  have hsz1 := hS.1
  refine wIv (mc := 2) (ms := 10) (b := x1) (As := []) (rest := [.ref x1]) hF (mX1_init (D := D) (cyI := cyI) (cyA := cyA) (h0 := x1) (sz := _)) XIni.mv (fun _ => S0.mv) ⟨h_x1, hX.2.1, rfl⟩ cjX1_init kl_RX1_22 ⟨rfl, rfl⟩ ⟨Nat.le_of_ble_eq_true rfl, Nat.le_of_ble_eq_true rfl⟩ rfl hl.1 rfl (Nat.le_of_ble_eq_true rfl) ⟨(by show _ ≤ 40; omega), (by show _ ≤ 400; omega)⟩ hS (fun q _ h => h.elim (fun e => by rw [e]; exact hA_x1) (fun h => Nat.le_trans hS.1 h)) (fun q h => h.elim (fun e => by rw [e]; exact hA_x1) (fun h => Nat.le_trans hS.1 h)) dX1_copy_4 (fun u9 H locs hp9 hN hz hk hS => ?_)
  obtain ⟨wd2, lg2⟩ := u9
  have hN : S0 D cyI cyA x1 wd2 lg2 (fun _ => 0) 0 2 nI (fun _ _ => 0) s H := hN
  have hwd2 : s.heap.size ≤ wd2 := Nat.le_trans hsz1 hp9.1
  have hlg2 : s.heap.size ≤ lg2 := Nat.le_trans hsz1 hp9.2
  have hX := hX0.up hS
  refine lv_astore_n (lv' := [(1, .ref x1), (0, .ref sm)]) hx hb dX1_copy_7 rfl hl (by decide) rfl (fun ls hl => ?_)
  refine lv_aload_n hx hb dX1_copy_8 rfl (lv_at hl 0 rfl) ?_
  refine lv_aload_n hx hb dX1_copy_9 rfl (lv_at hl 1 rfl) ?_
  refine S0.gS hF hX kf_RX1_18 dX1_copy_10 ?_
  refine S0.stS hF hN hS hA_x1 kf_RX1_18 dX1_copy_13 (fun H locs hN hz oq hS => ?_)
  have hX := hX0.up hS
  refine lv_iconst (v := 0) hx hb dX1_copy_16 (by decide) ?_
  refine lv_istore_n (lv' := [(2, .int 0), (1, .ref x1), (0, .ref sm)]) hx hb dX1_copy_17 rfl hl (by decide) rfl (fun ls hl => ?_)
  refine W.widen (k := 3) (n := 13) (by omega) (by omega) ?_
  refine lpC (σ := Nat) (τ := Nat → Int32) (fun j y8 ls H locs => (j ≤ 10 ∧ ∀ i : Nat, i < j → y8 i = wv i) ∧ (S0 D cyI cyA sm wd lg a n st wv r s H) ∧ (S0 D cyI cyA x1 wd2 lg2 (fun _ => 0) 0 st y8 (fun _ _ => 0) s H) ∧ va_S (fun q => s.heap.size ≤ q) s.heap H locs ∧ lv_has ls 6 [(0, .ref sm), (1, .ref x1), (2, .int (nI j))]) (fun j y8 => 10 - j) (fun j => 3) (fun j => 13) (fun j y8 ls H locs hI ih => ?_) (0) nI ⟨⟨Nat.zero_le _, fun k h => absurd h (Nat.not_lt_zero _)⟩, hX, hN, hS, lv_sub hl [2, 1, 0] rfl⟩
  obtain ⟨hj, hX, hN, hS, hl⟩ := hI
  refine lv_iload_n hx hb dX1_copy_18 rfl (lv_at hl 2 rfl) ?_
  refine lv_bipush (v := 10) hx hb dX1_copy_19 (by decide) ?_
  refine lv_icmp_ge (tgt := 42) hx hb dX1_copy_21 (by decide) (fun c21 => ?_) (fun c21 => ?_)
  · have c21n : 10 ≤ j := (nI_leI (a := 10) (b := j) (by omega) (by omega)).mp c21
    have hN := hN.cg (wv2 := wv) (r2 := (fun _ _ => 0)) (fun k hk => hj.2 k (by omega)) (fun _ _ _ _ => rfl)
    have hfr : ∀ q : Nat, sown x1 wd2 lg2 (fun _ => 0) 0 q → s.heap.size ≤ q := fun q h9 => by
      rcases h9 with e | e | e | ⟨k9, hk9, _⟩
      · rw [e]; exact hA_x1
      · rw [e]; exact hwd2
      · rw [e]; exact hlg2
      · exact absurd hk9 (Nat.not_lt_zero _)
    refine lv_aload_n hx hb dX1_copy_42 rfl (lv_at hl 0 rfl) ?_
    refine S0.gL hF hX kf_RX1_9 dX1_copy_43 ?_
    refine lv_astore_n (lv' := [(2, .ref lg), (0, .ref sm), (1, .ref x1)]) hx hb dX1_copy_46 rfl hl (by decide) rfl (fun ls hl => ?_)
    refine lv_aload_n hx hb dX1_copy_47 rfl (lv_at hl 0 rfl) ?_
    refine S0.len hF hX dX1_copy_48 ?_
    refine lv_istore_n (lv' := [(3, .int (nI n)), (2, .ref lg), (0, .ref sm), (1, .ref x1)]) hx hb dX1_copy_49 rfl hl (by decide) rfl (fun ls hl => ?_)
    refine lv_iconst (v := 0) hx hb dX1_copy_50 (by decide) ?_
    refine lv_istore (lv' := [(4, .int 0), (3, .int (nI n)), (2, .ref lg), (0, .ref sm), (1, .ref x1)]) hx hb dX1_copy_51 hl (by decide) rfl (fun ls hl => ?_)
    refine W.widen (k := 3 + 2 * 0) (n := 13 + 23 * 0) (by omega) (by omega) ?_
    refine lpC (σ := Nat) (τ := Nat × (Nat → Nat) × (Nat → Nat → Int32)) (fun k u8 ls H locs => (k ≤ n ∧ (∀ k9 : Nat, k9 < k → ∀ i : Nat, i < 6 → u8.2.2 k9 i = r k9 i) ∧ ∀ q : Nat, sown x1 wd2 u8.1 u8.2.1 k q → s.heap.size ≤ q) ∧ (S0 D cyI cyA sm wd lg a n st wv r s H) ∧ (S0 D cyI cyA x1 wd2 u8.1 u8.2.1 k st wv u8.2.2 s H) ∧ va_S (fun q => s.heap.size ≤ q) s.heap H locs ∧ lv_has ls 6 [(0, .ref sm), (1, .ref x1), (2, .ref lg), (3, .int (nI n)), (4, .int (nI k))]) (fun k u8 => n - k) (fun k => 3 + 2 * k) (fun k => 13 + 23 * k) (fun k u8 ls H locs hI ih2 => ?_) (0) (lg2, (fun _ => 0), (fun _ _ => 0)) ⟨⟨Nat.zero_le _, fun k h => absurd h (Nat.not_lt_zero _), hfr⟩, hX, hN, hS, lv_sub hl [3, 4, 2, 1, 0] rfl⟩
    obtain ⟨hj2, hX, hN, hS, hl⟩ := hI
    refine lv_iload hx hb dX1_copy_53 (lv_at hl 4 rfl) ?_
    refine lv_iload_n hx hb dX1_copy_55 rfl (lv_at hl 3 rfl) ?_
    refine lv_icmp_ge (tgt := 128) hx hb dX1_copy_56 (by decide) (fun c56 => ?_) (fun c56 => ?_)
    · have c56n : n ≤ k := (nI_leI (a := n) (b := k) (by omega) (by omega)).mp c56
      obtain rfl : n = k := by omega
      refine lv_aload_n hx hb dX1_copy_128 rfl (lv_at hl 1 rfl) ?_
      refine W.widen (k := 40) (n := 400) (by omega) (by omega) ?_
      refine va_forget (fun q hq => hS.2.2 q hq) ?_
      exact W.aret hx hb hr (Or.inl ⟨_, rfl⟩) (Or.inr ⟨_, rfl⟩) (fun t ht hW => ⟨⟨(wd2, u8.1, u8.2.1), _, rfl, trivial, ⟨wEnd S0.mv (hN.cg (fun _ _ => rfl) hj2.2.1) ht hW, hj2.2.2⟩⟩, sF hS ht⟩) (fun q hq => absurd hq List.not_mem_nil) dX1_copy_129
    · have c56n : ¬ n ≤ k := fun h9 => c56 ((nI_leI (a := n) (b := k) (by omega) (by omega)).mpr h9)
      refine lv_aload_n hx hb dX1_copy_59 rfl (lv_at hl 2 rfl) ?_
      refine lv_iload hx hb dX1_copy_60 (lv_at hl 4 rfl) ?_
      refine S0.ldA hF hX k (by omega) rfl dX1_copy_62 ?_
      refine lv_astore (lv' := [(5, .ref (a k)), (0, .ref sm), (1, .ref x1), (2, .ref lg), (3, .int (nI n)), (4, .int (nI k))]) hx hb dX1_copy_63 hl (by decide) rfl (fun ls hl => ?_)
      refine lv_aload_n hx hb dX1_copy_65 rfl (lv_at hl 2 rfl) ?_
      refine lv_aload_n hx hb dX1_copy_66 rfl (lv_at hl 2 rfl) ?_
      refine S0.gL hF hN kf_RX1_9 dX1_copy_67 ?_
      refine lv_bipush (v := 6) hx hb dX1_copy_70 (by decide) ?_
      refine newIr hF hX.2.1 hS 6 (by decide) rfl (by show _ ≤ 40; omega) (by show _ ≤ 400; omega) dX1_copy_72 (fun x2 H hq h_x2 hz ho hS1 => ?_)
      have nN_x2 : ∀ q : Nat, sown x1 wd2 u8.1 u8.2.1 k q → q ≠ x2 := fun q h9 => by rw [hq]; exact Nat.ne_of_lt (hN.lt h9)
      have hA_x2 : s.heap.size ≤ x2 := by rw [hq]; exact hS.1
      have hS := hS1
      have hX := hX0.up hS
      have hN := hN.upK ho
      refine lv_dup hx hb dX1_copy_74 rfl ?_
      refine lv_iconst (v := 0) hx hb dX1_copy_75 (by decide) ?_
      refine lv_aload hx hb dX1_copy_76 (lv_at hl 0 rfl) ?_
      refine lv_iconst (v := 0) hx hb dX1_copy_78 (by decide) ?_
      refine S0.ldR hF hX k (by omega) 0 (by decide) rfl dX1_copy_79 ?_
      refine stI hF hX.2.1 h_x2 hS hA_x2 0 (by decide) (by decide) rfl dX1_copy_80 (fun H locs h_x2 hz oq hS => ?_)
      have hX := hX0.up hS
      have hN := hN.kept (fun q h9 => oq q (nN_x2 q h9))
      refine lv_dup hx hb dX1_copy_81 rfl ?_
      refine lv_iconst (v := 1) hx hb dX1_copy_82 (by decide) ?_
      refine lv_aload hx hb dX1_copy_83 (lv_at hl 0 rfl) ?_
      refine lv_iconst (v := 1) hx hb dX1_copy_85 (by decide) ?_
      refine S0.ldR hF hX k (by omega) 1 (by decide) rfl dX1_copy_86 ?_
      refine stI hF hX.2.1 h_x2 hS hA_x2 1 (by decide) (by decide) rfl dX1_copy_87 (fun H locs h_x2 hz oq hS => ?_)
      have hX := hX0.up hS
      have hN := hN.kept (fun q h9 => oq q (nN_x2 q h9))
      refine lv_dup hx hb dX1_copy_88 rfl ?_
      refine lv_iconst (v := 2) hx hb dX1_copy_89 (by decide) ?_
      refine lv_aload hx hb dX1_copy_90 (lv_at hl 0 rfl) ?_
      refine lv_iconst (v := 2) hx hb dX1_copy_92 (by decide) ?_
      refine S0.ldR hF hX k (by omega) 2 (by decide) rfl dX1_copy_93 ?_
      refine stI hF hX.2.1 h_x2 hS hA_x2 2 (by decide) (by decide) rfl dX1_copy_94 (fun H locs h_x2 hz oq hS => ?_)
      have hX := hX0.up hS
      have hN := hN.kept (fun q h9 => oq q (nN_x2 q h9))
      refine lv_dup hx hb dX1_copy_95 rfl ?_
      refine lv_iconst (v := 3) hx hb dX1_copy_96 (by decide) ?_
      refine lv_aload hx hb dX1_copy_97 (lv_at hl 0 rfl) ?_
      refine lv_iconst (v := 3) hx hb dX1_copy_99 (by decide) ?_
      refine S0.ldR hF hX k (by omega) 3 (by decide) rfl dX1_copy_100 ?_
      refine stI hF hX.2.1 h_x2 hS hA_x2 3 (by decide) (by decide) rfl dX1_copy_101 (fun H locs h_x2 hz oq hS => ?_)
      have hX := hX0.up hS
      have hN := hN.kept (fun q h9 => oq q (nN_x2 q h9))
      refine lv_dup hx hb dX1_copy_102 rfl ?_
      refine lv_iconst (v := 4) hx hb dX1_copy_103 (by decide) ?_
      refine lv_aload hx hb dX1_copy_104 (lv_at hl 0 rfl) ?_
      refine lv_iconst (v := 4) hx hb dX1_copy_106 (by decide) ?_
      refine S0.ldR hF hX k (by omega) 4 (by decide) rfl dX1_copy_107 ?_
      refine stI hF hX.2.1 h_x2 hS hA_x2 4 (by decide) (by decide) rfl dX1_copy_108 (fun H locs h_x2 hz oq hS => ?_)
      have hX := hX0.up hS
      have hN := hN.kept (fun q h9 => oq q (nN_x2 q h9))
      refine lv_dup hx hb dX1_copy_109 rfl ?_
      refine lv_iconst (v := 5) hx hb dX1_copy_110 (by decide) ?_
      refine lv_aload hx hb dX1_copy_111 (lv_at hl 0 rfl) ?_
      refine lv_iconst (v := 5) hx hb dX1_copy_113 (by decide) ?_
      refine S0.ldR hF hX k (by omega) 5 (by decide) rfl dX1_copy_114 ?_
      refine stI hF hX.2.1 h_x2 hS hA_x2 5 (by decide) (by decide) rfl dX1_copy_115 (fun H locs h_x2 hz oq hS => ?_)
      have hX := hX0.up hS
      have hN := hN.kept (fun q h9 => oq q (nN_x2 q h9))
      have h_x2 := six_c h_x2
      have hlt9 := fun (q : Nat) (h9 : sown x1 wd2 u8.1 u8.2.1 k q) => hN.lt h9
      have hltx := h_x2.lt
      have hszz := hS.1
      refine wSr (mc := 1) (ms := 17) (As := [.ref u8.1, .ref x2]) (rest := [.ref x1]) hF (mX1_with (v0 := x2) (g0 := six (r k 0) (r k 1) (r k 2) (r k 3) (r k 4) (r k 5)) (show k < 16 by omega)) XWi.mv (fun _ _ => YQ.mv) ⟨hN, h_x2, rfl⟩ jyX1_with kl_RX1_23 ⟨rfl, rfl⟩ ⟨Nat.le_of_ble_eq_true rfl, Nat.le_of_ble_eq_true rfl⟩ rfl hl.1 rfl (Nat.le_of_ble_eq_true rfl) ⟨by show _ + 1 ≤ 40; omega, by show _ + 17 ≤ 400; omega⟩ hS (fun _ _ h => h.elim) (fun _ h => h.elim) dX1_copy_116 (fun u9 x3 H locs hp9 hB9 hz hk hS => ?_)
      have ho : ∀ q : Nat, q < _ → H[q]? = _ := fun q h9 => hk q h9 (fun h => h)
      have hX := hX0.up hS
      have hN := hN.upK ho
      have h_x2 := h_x2.upK ho
      have hnz : ∀ q : Nat, sown x1 wd2 u8.1 u8.2.1 k q → q ≠ x3 := fun q h9 => Nat.ne_of_lt (Nat.lt_of_lt_of_le (hlt9 q h9) hB9.2)
      have hnx : x2 ≠ x3 := Nat.ne_of_lt (Nat.lt_of_lt_of_le hltx hB9.2)
      have hAz : s.heap.size ≤ x3 := Nat.le_trans hszz hB9.2
      refine S0.stG hF hN hS hA_x1 h_x2 hB9.1 nN_x2 hnz hnx (by omega) kf_RX1_9 dX1_copy_119 (fun H locs hN hz oq hS => ?_)
      have hX := hX0.up hS
      refine lv_iinc (v := (nI (k + 1))) (lv' := [(4, .int (nI (k + 1))), (5, .ref (a k)), (0, .ref sm), (1, .ref x1), (2, .ref lg), (3, .int (nI n))]) hx hb dX1_copy_122 hl (k := 5) rfl (nI_1 _) (by decide) rfl (fun ls hl => ?_)
      refine lv_goto (tgt := 53) hx hb dX1_copy_125 (by decide) ?_
      refine W.widen (k := 3 + 2 * (k + 1)) (n := 13 + 23 * (k + 1)) (by omega) (by omega) ?_
      exact ih2 (k + 1) (x3, (va_up u8.2.1 k x2), (va_up u8.2.2 k (six (r k 0) (r k 1) (r k 2) (r k 3) (r k 4) (r k 5)))) ls H locs (by omega) ⟨⟨by omega, rowsG hj2.2.1, sownG hj2.2.2 hA_x2 hAz⟩, hX, hN, hS, by exact lv_sub hl [2, 3, 4, 5, 0] rfl⟩
  · have c21n : ¬ 10 ≤ j := fun h9 => c21 ((nI_leI (a := 10) (b := j) (by omega) (by omega)).mpr h9)
    refine lv_aload_n hx hb dX1_copy_24 rfl (lv_at hl 1 rfl) ?_
    refine S0.gW hF hN kf_RX1_15 dX1_copy_25 ?_
    refine lv_iload_n hx hb dX1_copy_28 rfl (lv_at hl 2 rfl) ?_
    refine lv_aload_n hx hb dX1_copy_29 rfl (lv_at hl 0 rfl) ?_
    refine S0.gW hF hX kf_RX1_15 dX1_copy_30 ?_
    refine lv_iload_n hx hb dX1_copy_33 rfl (lv_at hl 2 rfl) ?_
    refine S0.ldW hF hX j (by omega) rfl dX1_copy_34 ?_
    refine S0.stW hF hN hS hwd2 j (by omega) rfl dX1_copy_35 (fun H locs hN hz oq hS => ?_)
    have hX := hX0.up hS
    refine lv_iinc (v := (nI (j + 1))) (lv' := [(2, .int (nI (j + 1))), (0, .ref sm), (1, .ref x1)]) hx hb dX1_copy_36 hl (k := 2) rfl (nI_1 _) (by decide) rfl (fun ls hl => ?_)
    refine lv_goto (tgt := 18) hx hb dX1_copy_39 (by decide) ?_
    refine W.widen (k := 3) (n := 13) (by omega) (by omega) ?_
    exact ih (j + 1) (upd y8 j (wv j)) ls H locs (by omega) ⟨⟨by omega, y8_up hj.2⟩, hX, hN, hS, by exact lv_sub hl [1, 2, 0] rfl⟩
set_option maxHeartbeats 4000000 in
set_option maxRecDepth 100000 in
theorem mX1_openBy (hok : Ok N st v) (y : Nat) (hy : y < 4) : Met l yX1_openBy (wm yX1_openBy cX1_openBy 3 (some .int)) ({ frames := 4, cells := 56, slots := 432, locals := 89 } : Room) (va_Pc [.ref sm, .int (nI (y + 1))] (fun U => S0 D cyI cyA sm wd lg a N st (v 3) (rowV v st mk) U U.heap)) (va_Qi (fun r9 (_ : Unit) => r9 = unm v (v 3) (nI (y + 1)) N) (fun u U => (fun (_ : Unit) => (fun _ _ => True : State → Heap → Prop)) u U U.heap) (fun _ => False)) 56 432 (fun _ => False) := by
  refine mt (by decide) (Nat.le_of_ble_eq_true rfl) ?_
  intro p ev s m below meth c ls hF hr hlocks hnm hX hl
  have hF : CallFix p m c cX1_openBy 3 s _ wA RX1 := hF
  obtain ⟨hx, hb, hml, hown, hts⟩ := id hF
  have hX : S0 D cyI cyA sm wd lg a N st (v 3) (rowV v st mk) s s.heap := hX
  have hl : lv_has ls 3 [(0, .ref sm), (1, .int (nI (y + 1)))] := hl
  have hS : va_S (fun q => s.heap.size ≤ q) s.heap s.heap [] := va_S.rf
  have hX0 := hX
  have hn16 := hX.n16
  have hok2 : Ok N (nI (y + 1)) v := ⟨hok.1, ⟨y, hy, rfl⟩, hok.2.2⟩
  refine lv_aload_n hx hb dX1_openBy_0 rfl (lv_at hl 0 rfl) ?_
  refine wVr (mc := 40) (ms := 400) (As := []) (rest := []) hF (mX1_copy (sz := s.heap.size)) XSz.mv (fun _ _ => YCo.mv) ⟨hX, rfl⟩ hX.rc jyX1_copy kl_RX1_45 ⟨rfl, rfl⟩ ⟨Nat.le_of_ble_eq_true rfl, Nat.le_of_ble_eq_true rfl⟩ rfl hl.1 rfl (Nat.le_of_ble_eq_true rfl) ⟨by show _ + 40 ≤ 56; omega, by show _ + 400 ≤ 432; omega⟩ hS (fun _ _ h => h.elim) (fun _ h => h.elim) dX1_openBy_1 (fun u9 x1 H locs hp9 hB9 hz hk hS => ?_)
  have ho : ∀ q : Nat, q < _ → H[q]? = _ := fun q h9 => hk q h9 (fun h => h)
  have hX := hX0.up hS
  have hN := hB9.1
  have hfr := hB9.2
  refine lv_astore_n (lv' := [(2, .ref x1), (0, .ref sm), (1, .int (nI (y + 1)))]) hx hb dX1_openBy_4 rfl hl (by decide) rfl (fun ls hl => ?_)
  refine lv_aload_n hx hb dX1_openBy_5 rfl (lv_at hl 0 rfl) ?_
  refine lv_iload_n hx hb dX1_openBy_6 rfl (lv_at hl 2 rfl) ?_
  refine S0.stS hF hN hS (hfr _ (Or.inl rfl)) kf_RX1_18 dX1_openBy_7 (fun H locs hN hz oq hS => ?_)
  have hX := hX0.up hS
  refine lv_aload_n hx hb dX1_openBy_10 rfl (lv_at hl 0 rfl) ?_
  refine lv_iconst (v := (b2i true)) hx hb dX1_openBy_11 (by decide) ?_
  refine wVv (mc := 0) (ms := 0) (As := [.int (b2i true)]) (rest := []) hF (mX1_sing (v 0) (fun _ _ => rfl) true) S0.mv (fun _ => S0.mv) hN hN.rc jyX1_sing kl_RX1_49 ⟨rfl, rfl⟩ ⟨Nat.le_of_ble_eq_true rfl, Nat.le_of_ble_eq_true rfl⟩ rfl hl.1 rfl (Nat.le_of_ble_eq_true rfl) ⟨by show _ + 0 ≤ 56; omega, by show _ + 0 ≤ 432; omega⟩ hS (fun q _ h => hfr q (Or.inr (Or.inr (Or.inr h)))) (fun q h => hfr q (Or.inr (Or.inr (Or.inr h)))) dX1_openBy_12 (fun u8 H locs hp9 hB9 hz hk hS => ?_)
  have hN := S0.cg hB9 (wv2 := v 3) (r2 := rowV v (nI (y + 1)) (fun _ => false)) (fun _ _ => rfl) (fun k hk => sg_row hok2 (fun i hi => by match i, hi with | 0, _ => rfl | 1, _ => rfl | 2, _ => rfl) (Or.inl ⟨rfl, rfl⟩))
  have hX := hX0.up hS
  refine lv_aload_n hx hb dX1_openBy_15 rfl (lv_at hl 0 rfl) ?_
  refine wVi (mc := 16) (ms := 32) (As := []) (rest := []) hF (mX1_open hok2) S0.mv (fun _ => Mv.const) hN hN.rc jyX1_open kl_RX1_53 ⟨rfl, rfl⟩ ⟨Nat.le_of_ble_eq_true rfl, Nat.le_of_ble_eq_true rfl⟩ rfl hl.1 rfl (Nat.le_of_ble_eq_true rfl) ⟨by show _ + 16 ≤ 56; omega, by show _ + 32 ≤ 432; omega⟩ hS (fun _ _ h => h.elim) (fun _ h => h.elim) dX1_openBy_16 (fun r9 u9 H locs hp9 hB9 hz hk hS => ?_)
  have ho : ∀ q : Nat, q < _ → H[q]? = _ := fun q h9 => hk q h9 (fun h => h)
  have hX := hX0.up hS
  have hN := hN.upK ho
  subst hp9
  refine W.widen (k := 56) (n := 432) (by omega) (by omega) ?_
  refine va_forget (fun q hq => hS.2.2 q hq) ?_
  exact W.iret hx hb hr (fun t ht hW => ⟨⟨_, (), rfl, open_unm, trivial⟩, sF hS ht⟩) (fun q hq => absurd hq List.not_mem_nil) dX1_openBy_19
end P24
