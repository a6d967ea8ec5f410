/-! THE COMPARISON AT THE END -/
section SAME
variable {N M k e j x o : Nat} {st : Int32} {v w : Nat → Nat → Int32} {mk : Nat → Bool} {P : Nat → Bool}
theorem hd_fin : ∀ h, h < 8 → ∀ e, e < 7 → (nI h + (nI e - 3) + 8) - (nI h + (nI e - 3) + 8) / 8 * 8 = fmd (nI h + (nI e - 3)) 8 := by decide +kernel
theorem hd_s (h : Ok N st v) (k : Nat) : (hd (v 0) k + v 0 k + 8) - (hd (v 0) k + v 0 k + 8) / 8 * 8 = hd (v 0) (k + 1) := by
  obtain ⟨e, he, ev⟩ := h.2.2.1 k
  rw [hd, ev, hd_ix h k]
  exact hd_fin _ (hd_ix8 h k) e he
theorem ct_b2i (P : Nat → Bool) (k : Nat) : ctB P k + b2i (P k) = ctB P (k + 1) := by
  cases h : P k with
  | true => rw [ctB_t h]; rfl
  | false => rw [ctB_f h]; exact Int32.add_zero _
def lo99 (T : Nat → Int32) (st : Int32) (k : Nat) : Int32 := if k = 0 then 99 else lo9 T st k
theorem lo_fin : ∀ a, a < 25 → mn 99 (nI a) = mn 24 (nI a) := by decide +kernel
theorem lo99_s (h : Ok N st v) (k : Nat) : mn (lo99 (v 0) st k) (nt (v 0) st (k + 1)) = lo99 (v 0) st (k + 1) := by
  unfold lo99
  rw [if_neg (Nat.succ_ne_zero k)]
  by_cases hk : k = 0
  · subst hk
    rw [if_pos rfl]
    obtain ⟨s, hs, es⟩ := h.2.1
    obtain ⟨a, ha, ea⟩ := nt_rng h hs 1
    rw [← es] at ea
    show mn 99 (nt (v 0) st 1) = mn 24 (nt (v 0) st 1)
    rw [ea]
    exact lo_fin a ha
  · rw [if_neg hk]; rfl
theorem lo99_n {T : Nat → Int32} (h : ¬ k = 0) : lo99 T st k = lo9 T st k := by unfold lo99; rw [if_neg h]
theorem fst_le (P : Nat → Bool) : ∀ n : Nat, fst P n ≤ n
  | 0 => Nat.le_refl _
  | n + 1 => by
    have h := fst_le P n
    rw [fst]
    split
    · omega
    · split <;> omega
theorem fam_s1 (hk : k ≤ 16) (h : 0 ≤ fam v st mk k) : fam v st mk (k + 1) = fam v st mk k := by
  unfold fam at h ⊢
  by_cases h9 : fst (amb v st mk) k < k
  · have e : fst (amb v st mk) (k + 1) = fst (amb v st mk) k := by rw [fst, if_pos h9]
    rw [e, if_pos h9, if_pos (by omega)]
  · rw [if_neg h9] at h
    exact absurd h (by decide)
theorem fam_none (hk : k ≤ 16) (h : ¬ 0 ≤ fam v st mk k) : ¬ fst (amb v st mk) k < k := by
  intro h9
  apply h
  unfold fam
  rw [if_pos h9]
  exact nI_pos' (by omega)
theorem fam_s2 (hk : k ≤ 16) (h : ¬ 0 ≤ fam v st mk k) (ha : amb v st mk k = true) : fam v st mk (k + 1) = nI k := by
  have h9 := fam_none hk h
  unfold fam
  have e : fst (amb v st mk) (k + 1) = k := by rw [fst, if_neg h9, if_pos ha]
  rw [e, if_pos (Nat.lt_succ_self k)]
theorem fam_s3 (hk : k ≤ 16) (h : ¬ 0 ≤ fam v st mk k) (ha : amb v st mk k = false) : fam v st mk (k + 1) = fam v st mk k := by
  have h9 := fam_none hk h
  unfold fam
  have e : fst (amb v st mk) (k + 1) = k + 1 := by rw [fst, if_neg h9, ha]; rfl
  rw [e, if_neg (Nat.lt_irrefl _), if_neg h9]
theorem dx_1 : ∀ h, h < 8 → ¬ h ≤ 0 → ¬ 4 ≤ h → (1 : Int32) = eaT h := by decide +kernel
theorem dx_2 : ∀ h, h < 8 → ¬ h ≤ 4 → (-1 : Int32) = eaT h := by decide +kernel
theorem dx_3 : ∀ h, h < 8 → (h ≤ 0 ∨ 4 ≤ h) → h ≤ 4 → (0 : Int32) = eaT h := by decide +kernel
theorem dy_1 : ∀ h, h < 8 → (h < 2 ∨ h = 7) → (1 : Int32) = noT h := by decide +kernel
theorem dy_2 : ∀ h, h < 8 → ¬ h ≤ 2 → ¬ 6 ≤ h → (-1 : Int32) = noT h := by decide +kernel
theorem dy_3 : ∀ h, h < 8 → ¬ h < 2 → ¬ h = 7 → (h ≤ 2 ∨ 6 ≤ h) → (0 : Int32) = noT h := by decide +kernel
theorem go_0 {F p : Nat → Int32} {e : Int32} (h : ∀ i : Nat, i ≤ k → F i = p i) : (∀ i : Nat, i ≤ k → upd F (k + 1) (F k) i = p i) ∧ upd F (k + 1) (F k) (k + 1) = p k + nI 0 * e := by
  refine ⟨fun i hi => ?_, ?_⟩
  · simp only [upd, if_neg (show ¬ i = k + 1 by omega)]
    exact h i hi
  · rw [show upd F (k + 1) (F k) (k + 1) = F k by simp [upd], h k (Nat.le_refl k), show nI 0 = 0 from rfl, Int32.zero_mul, Int32.add_zero]
theorem go_s {F p : Nat → Int32} {e : Int32} {g : Nat} (h : (∀ i : Nat, i ≤ k → F i = p i) ∧ F (k + 1) = p k + nI g * e) : (∀ i : Nat, i ≤ k → upd F (k + 1) (F (k + 1) + e) i = p i) ∧ upd F (k + 1) (F (k + 1) + e) (k + 1) = p k + nI (g + 1) * e := by
  refine ⟨fun i hi => ?_, ?_⟩
  · simp only [upd, if_neg (show ¬ i = k + 1 by omega)]
    exact h.1 i hi
  · rw [show upd F (k + 1) (F (k + 1) + e) (k + 1) = F (k + 1) + e by simp [upd], h.2, nI_succ, Int32.add_mul, Int32.one_mul, Int32.add_assoc]
theorem go_ex {F T Ln : Nat → Int32} {g h : Nat} (hh : h < 8) (hhe : hd T (k + 1) = nI h) (hl : Ln k = nI g) (h9 : (∀ i : Nat, i ≤ k → F i = px T Ln i) ∧ F (k + 1) = px T Ln k + nI g * eaT h) : ∀ i : Nat, i ≤ k + 1 → F i = px T Ln i := by
  intro i hi
  by_cases hik : i = k + 1
  · subst hik
    rw [h9.2, px, hhe, hl, show ix (nI h) = h from nI_clamp (by omega)]
  · exact h9.1 i (by omega)
theorem go_ey {F T Ln : Nat → Int32} {g h : Nat} (hh : h < 8) (hhe : hd T (k + 1) = nI h) (hl : Ln k = nI g) (h9 : (∀ i : Nat, i ≤ k → F i = py T Ln i) ∧ F (k + 1) = py T Ln k + nI g * noT h) : ∀ i : Nat, i ≤ k + 1 → F i = py T Ln i := by
  intro i hi
  by_cases hik : i = k + 1
  · subst hik
    rw [h9.2, py, hhe, hl, show ix (nI h) = h from nI_clamp (by omega)]
  · exact h9.1 i (by omega)
theorem or_t (h : P o = true) : (b2i (exB P o) ||| 1) = b2i (exB P (o + 1)) := by rw [exB, h, Bool.or_true]; cases exB P o <;> decide
theorem or_f (h : P o = false) : (b2i (exB P o) ||| 0) = b2i (exB P (o + 1)) := by rw [exB, h, Bool.or_false]; cases exB P o <;> decide
theorem sung_s {F : Nat → Int32} {x0 : Nat} (hx0 : x0 < 10) (hxe : v 3 (ix (v 2 k)) = nI x0) (h : ∀ x : Nat, x < 10 → F x = sung v (nI x) k) : ∀ x : Nat, x < 10 → upd F x0 (F x0 + 1) x = sung v (nI x) (k + 1) := by
  intro x hx
  by_cases hxx : x = x0
  · subst hxx
    rw [show upd F x (F x + 1) x = F x + 1 by simp [upd], h x hx]
    unfold sung
    rw [ctB_t (sgP_t hxe)]
  · rw [show upd F x0 (F x0 + 1) x = F x by simp [upd, hxx], h x hx]
    unfold sung
    rw [ctB_f (sgP_f (fun e => hxx (by
      rw [hxe] at e
      have h1 := congrArg Int32.toInt e
      rw [nI_toInt (by omega), nI_toInt (by omega)] at h1
      omega)))]
set_option maxRecDepth 100000 in
theorem dc_fin : ∀ a, a < 385 → ∀ b, b < 16 → Op.cmpValue (FP.dcmp (FP.ddiv (FP.i2d (nI a)) (FP.i2d (nI (b + 1)))) (FP.ddiv (FP.i2d (nI a)) (FP.i2d (nI (b + 1))))) .l = 0 := by decide +kernel
theorem mean_c1 (h : Ok N st v) (h0 : ¬ N = 0) : Op.cmpValue (FP.dcmp (mean v st N) (FP.ddiv (FP.i2d (sumI (fun k => nt (v 0) st (k + 1)) N)) (FP.i2d (nI N)))) .l = 0 := by
  rw [← mean_1 (by omega)]
  obtain ⟨a, ha, ea⟩ := sum_nat h N
  obtain ⟨M, rfl⟩ : ∃ M, N = M + 1 := ⟨N - 1, by omega⟩
  have hN := h.1
  rw [ea]
  exact dc_fin a (by omega) M (by omega)
theorem mean_c0 (h0 : N = 0) : Op.cmpValue (FP.dcmp (mean v st N) 0) .l = 0 := by
  rw [← mean_0 h0]
  decide +kernel
theorem C0.upS {D : va_G} {cyI cyZ : ClassId} {q : Nat → Nat} {n st : Int32} {v : Nat → Nat → Int32} {mk : Nat → Bool} {w : Nat → Nat → Int32} {s : State} {H : Heap} {locs : List Loc} (h : C0 D cyI cyZ q n st v mk w s s.heap) (hS : va_S (fun q => s.heap.size ≤ q) s.heap H locs) : C0 D cyI cyZ q n st v mk w s H := h.kept (fun b hb => hS.2.1 b (h.lt hb) (Nat.not_le.mpr (h.lt hb)))
end SAME

section P33
variable {l : Launch} {D : va_G} {cyI cyZ cyA : ClassId} {q : Nat → Nat} {sm wd lg n N : Nat} {a : Nat → Nat} {st : Int32} {wv : Nat → Int32} {r : Nat → Nat → Int32} {v w : Nat → Nat → Int32} {mk : Nat → Bool}
variable {B : Nat}
set_option maxHeartbeats 4000000 in
set_option maxRecDepth 100000 in
theorem mX0_meanNote (hok : Ok N st v) (hde : Der N st v w) : Met l yX0_meanNote (wm yX0_meanNote cX0_meanNote 3 (some .double)) ({ frames := 0, cells := 0, slots := 0, locals := 0 } : Room) (va_Pc [.ref (q 0)] (fun U => C0 D cyI cyZ q (nI N) st v mk w U U.heap)) (vp_Sd (fun r => r = mean v st N)) 0 0 (fun _ => False) := by
  refine mt (by decide) (Nat.le_of_ble_eq_true rfl) ?_
  intro p ev s m below meth c ls hF hr hlocks hnm hX hl
  have hF : CallFix p m c cX0_meanNote 3 s _ wA RX0 := hF
  obtain ⟨hx, hb, hml, hown, hts⟩ := id hF
  have hX : C0 D cyI cyZ q (nI N) st v mk w s s.heap := hX
  have hl : lv_has ls 3 [(0, .ref (q 0))] := hl
  have hN := hok.1
  refine lv_aload_n hx hb dX0_meanNote_0 rfl (lv_at hl 0 rfl) ?_
  refine C0.get hF hX 5 (by decide) rfl rfl kf_RX0_59 dX0_meanNote_1 ?_
  refine lv_if_gt (tgt := 9) hx hb dX0_meanNote_4 (by decide) (fun c4 => ?_) (fun c4 => ?_)
  · have c4n : 0 < N := (nI_ltI (a := 0) (b := N) (by omega) (by omega)).mp c4
    refine lv_iconst (v := 0) hx hb dX0_meanNote_9 (by decide) ?_
    refine lv_istore_n (lv' := [(1, .int 0), (0, .ref (q 0))]) hx hb dX0_meanNote_10 rfl hl (by decide) rfl (fun ls hl => ?_)
    refine lv_iconst (v := 0) hx hb dX0_meanNote_11 (by decide) ?_
    refine lv_istore_n (lv' := [(2, .int 0), (1, .int 0), (0, .ref (q 0))]) hx hb dX0_meanNote_12 rfl hl (by decide) rfl (fun ls hl => ?_)
    refine lpW (σ := Nat) (fun j ls => (j ≤ N) ∧ lv_has ls 3 [(0, .ref (q 0)), (1, .int (sumI (fun k => nt (v 0) st (k + 1)) j)), (2, .int (nI j))]) (fun j => N - j) (fun j ls hI ih => ?_) (0) ⟨Nat.zero_le _, lv_sub hl [2, 1, 0] rfl⟩
    obtain ⟨hj, hl⟩ := hI
    refine lv_iload_n hx hb dX0_meanNote_13 rfl (lv_at hl 2 rfl) ?_
    refine lv_aload_n hx hb dX0_meanNote_14 rfl (lv_at hl 0 rfl) ?_
    refine C0.get hF hX 5 (by decide) rfl rfl kf_RX0_59 dX0_meanNote_15 ?_
    refine lv_icmp_ge (tgt := 36) hx hb dX0_meanNote_18 (by decide) (fun c18 => ?_) (fun c18 => ?_)
    · have c18n : N ≤ j := (nI_leI (a := N) (b := j) (by omega) (by omega)).mp c18
      have hjN : j = N := by omega
      rw [hjN] at hl
      refine lv_iload_n hx hb dX0_meanNote_36 rfl (lv_at hl 1 rfl) ?_
      refine lv_i2d hx hb dX0_meanNote_37 ?_
      refine lv_aload_n hx hb dX0_meanNote_38 rfl (lv_at hl 0 rfl) ?_
      refine C0.get hF hX 5 (by decide) rfl rfl kf_RX0_59 dX0_meanNote_39 ?_
      refine lv_i2d hx hb dX0_meanNote_42 ?_
      refine lv_ddiv hx hb dX0_meanNote_43 (mean_fin hok (by omega)) ?_
      exact W.dret hx hb hr (fun t ht hW => ⟨_, rfl, (mean_1 (by omega)), ht⟩) (fun q hq => absurd hq List.not_mem_nil) dX0_meanNote_44
    · have c18n : ¬ N ≤ j := fun h9 => c18 ((nI_leI (a := N) (b := j) (by omega) (by omega)).mpr h9)
      refine lv_iload_n hx hb dX0_meanNote_21 rfl (lv_at hl 1 rfl) ?_
      refine lv_aload_n hx hb dX0_meanNote_22 rfl (lv_at hl 0 rfl) ?_
      refine C0.get hF hX 10 (by decide) rfl rfl kf_RX0_35 dX0_meanNote_23 ?_
      refine lv_iload_n hx hb dX0_meanNote_26 rfl (lv_at hl 2 rfl) ?_
      refine aldI hF hX.2.1 hX.1 9 0 rfl rfl j (by omega) (by decide) rfl dX0_meanNote_27 ?_
      refine topI (show (w 3 j) = nt (v 0) st (j + 1) from (hde j (by omega)).2.2.2) ?_
      refine lv_iadd hx hb dX0_meanNote_28 ?_
      refine lv_istore_n (lv' := [(1, .int ((sumI (fun k => nt (v 0) st (k + 1)) j) + (nt (v 0) st (j + 1)))), (0, .ref (q 0)), (2, .int (nI j))]) hx hb dX0_meanNote_29 rfl hl (by decide) rfl (fun ls hl => ?_)
      refine lv_iinc (v := (nI (j + 1))) (lv' := [(2, .int (nI (j + 1))), (1, .int ((sumI (fun k => nt (v 0) st (k + 1)) j) + (nt (v 0) st (j + 1)))), (0, .ref (q 0))]) hx hb dX0_meanNote_30 hl (k := 2) rfl (nI_1 _) (by decide) rfl (fun ls hl => ?_)
      refine lv_goto (tgt := 13) hx hb dX0_meanNote_33 (by decide) ?_
      exact ih (j + 1) ls (by omega) ⟨by omega, by exact lv_sub hl [2, 1, 0] rfl⟩
  · have c4n : ¬ 0 < N := fun h9 => c4 ((nI_ltI (a := 0) (b := N) (by omega) (by omega)).mpr h9)
    refine lv_dconst0 hx hb dX0_meanNote_7 ?_
    exact W.dret hx hb hr (fun t ht hW => ⟨_, rfl, (mean_0 (by omega)), ht⟩) (fun q hq => absurd hq List.not_mem_nil) dX0_meanNote_8
def YRd (cyI : ClassId) (m r : Int32) (sz : Nat) (_ : Unit) (z : Nat) : State → Heap → Prop := fun _ H => IA cyI z 2 (rd2 m r) H ∧ sz ≤ z
theorem YRd.mv {cyI : ClassId} {m r : Int32} {sz : Nat} {u : Unit} {z : Nat} : Mv (YRd cyI m r sz u z) := fun _ _ _ _ h => h
set_option maxHeartbeats 4000000 in
set_option maxRecDepth 100000 in
theorem mX1_readingsF {sz : Nat} (hok : Ok N st v) (k : Nat) (hk : k < N) : Met l yX1_readings (wm yX1_readings cX1_readings 6 (some (.array .int))) ({ frames := 1, cells := 1, slots := 2, locals := 21 } : Room) (va_Pc [.ref sm, .int (nI k)] (fun U => XSz D cyI cyA sm wd lg a N st (v 3) (rowV v st mk) sz U U.heap)) (va_Qr (fun (_ : Unit) => True) (fun u z U => YRd cyI (rdn v st k) (rrn v st k) sz u z U U.heap) (fun _ => False)) 1 2 (fun _ => False) := by
  refine mt (by decide) (Nat.le_of_ble_eq_true rfl) ?_
  intro p ev s m below meth c ls hF hr hlocks hnm hX hl
  have hF : CallFix p m c cX1_readings 6 s _ wA RX1 := hF
  obtain ⟨hx, hb, hml, hown, hts⟩ := id hF
  have hX : XSz D cyI cyA sm wd lg a N st (v 3) (rowV v st mk) sz s s.heap := hX
  have hl : lv_has ls 6 [(0, .ref sm), (1, .int (nI k))] := hl
  have hS : va_S (fun q => s.heap.size ≤ q) s.heap s.heap [] := va_S.rf
  obtain ⟨hX9, hsz⟩ := hX
  subst hsz
  have hX := hX9
  have hn16 := hX.n16
  obtain ⟨e0, he, hve⟩ := hok.2.2.1 k
  refine lv_iconst (v := 0) hx hb dX1_readings_0 (by decide) ?_
  refine topI (show 0 = rdM v st k 0 0 from rdM_0.symm) ?_
  refine lv_istore_n (lv' := [(2, .int (rdM v st k 0 0)), (0, .ref sm), (1, .int (nI k))]) hx hb dX1_readings_1 rfl hl (by decide) rfl (fun ls hl => ?_)
  refine lv_iconst (v := (-1)) hx hb dX1_readings_2 (by decide) ?_
  refine topI (show (-1) = rdR v st k e0 0 0 from rdR_0.symm) ?_
  refine lv_istore_n (lv' := [(3, .int (rdR v st k e0 0 0)), (2, .int (rdM v st k 0 0)), (0, .ref sm), (1, .int (nI k))]) hx hb dX1_readings_3 rfl hl (by decide) rfl (fun ls hl => ?_)
  refine lv_bipush (v := (nI 0 - 3)) hx hb dX1_readings_4 (by decide) ?_
  refine lv_istore (lv' := [(4, .int (nI 0 - 3)), (3, .int (rdR v st k e0 0 0)), (2, .int (rdM v st k 0 0)), (0, .ref sm), (1, .int (nI k))]) hx hb dX1_readings_6 hl (by decide) rfl (fun ls hl => ?_)
  refine lpW (σ := Nat) (fun e ls => (e ≤ 7) ∧ lv_has ls 6 [(0, .ref sm), (1, .int (nI k)), (2, .int (rdM v st k e 0)), (3, .int (rdR v st k e0 e 0)), (4, .int (nI e - 3))]) (fun e => 7 - e) (fun e ls hI ih1 => ?_) (0) ⟨Nat.zero_le _, lv_sub hl [3, 4, 2, 1, 0] rfl⟩
  obtain ⟨he9, hl⟩ := hI
  refine lv_iload hx hb dX1_readings_8 (lv_at hl 4 rfl) ?_
  refine lv_iconst (v := (nI 7 - 3)) hx hb dX1_readings_10 (by decide) ?_
  refine lv_icmp_ge (tgt := 119) hx hb dX1_readings_11 (by decide) (fun c11 => ?_) (fun c11 => ?_)
  · have h9 : 7 ≤ e := (nI_3le (by omega) (by omega)).mp c11
    have hx9 : e = 7 := by omega
    rw [hx9] at hl
    refine lv_iconst (v := 2) hx hb dX1_readings_119 (by decide) ?_
    refine newIr hF hX.2.1 hS 2 (by decide) rfl (by show _ ≤ 1; omega) (by show _ ≤ 2; omega) dX1_readings_120 (fun x1 H hq h_x1 hz ho hS1 => ?_)
    have nX_x1 : ∀ q : Nat, sown sm wd lg a N q → q ≠ x1 := fun q h9 => by rw [hq]; exact Nat.ne_of_lt (hX.lt h9)
    have hA_x1 : s.heap.size ≤ x1 := by rw [hq]; exact hS.1
    have hS := hS1
    have hX := hX.upK ho
    refine lv_dup hx hb dX1_readings_122 rfl ?_
    refine lv_iconst (v := 0) hx hb dX1_readings_123 (by decide) ?_
    refine lv_iload_n hx hb dX1_readings_124 rfl (lv_at hl 2 rfl) ?_
    refine stI hF hX.2.1 h_x1 hS hA_x1 0 (by decide) (by decide) rfl dX1_readings_125 (fun H locs h_x1 hz oq hS => ?_)
    have hX := hX.kept (fun q h9 => oq q (nX_x1 q h9))
    refine lv_dup hx hb dX1_readings_126 rfl ?_
    refine lv_iconst (v := 1) hx hb dX1_readings_127 (by decide) ?_
    refine lv_iload_n hx hb dX1_readings_128 rfl (lv_at hl 3 rfl) ?_
    refine stI hF hX.2.1 h_x1 hS hA_x1 1 (by decide) (by decide) rfl dX1_readings_129 (fun H locs h_x1 hz oq hS => ?_)
    have hX := hX.kept (fun q h9 => oq q (nX_x1 q h9))
    refine W.widen (k := 1) (n := 2) (by omega) (by omega) ?_
    refine va_forget (fun q hq => hS.2.2 q hq) ?_
    exact W.aret hx hb hr (Or.inr ⟨_, rfl⟩) (Or.inr ⟨_, rfl⟩) (fun t ht hW => ⟨⟨(), _, rfl, trivial, ⟨by show IA cyI _ 2 (rd2 _ _) t.heap; rw [ht, ← rdM_7 hok, ← rdR_7 he]; exact rd2_c h_x1, hA_x1⟩⟩, sF hS ht⟩) (fun q hq => absurd hq List.not_mem_nil) dX1_readings_130
  · have h9 : ¬ 7 ≤ e := fun h => c11 ((nI_3le (by omega) (by omega)).mpr h)
    refine lv_iconst (v := 0) hx hb dX1_readings_14 (by decide) ?_
    refine lv_istore (lv' := [(5, .int 0), (0, .ref sm), (1, .int (nI k)), (2, .int (rdM v st k e 0)), (3, .int (rdR v st k e0 e 0)), (4, .int (nI e - 3))]) hx hb dX1_readings_15 hl (by decide) rfl (fun ls hl => ?_)
    refine lpW (σ := Nat) (fun j ls => (j ≤ 10 ∧ e < 7) ∧ lv_has ls 6 [(0, .ref sm), (1, .int (nI k)), (2, .int (rdM v st k e j)), (3, .int (rdR v st k e0 e j)), (4, .int (nI e - 3)), (5, .int (nI j))]) (fun j => 10 - j) (fun j ls hI ih2 => ?_) (0) ⟨⟨Nat.zero_le _, by omega⟩, lv_sub hl [1, 2, 3, 4, 5, 0] rfl⟩
    obtain ⟨he1, hl⟩ := hI
    refine lv_iload hx hb dX1_readings_17 (lv_at hl 5 rfl) ?_
    refine lv_bipush (v := (nI 10)) hx hb dX1_readings_19 (by decide) ?_
    refine lv_icmp_ge (tgt := 113) hx hb dX1_readings_21 (by decide) (fun c21 => ?_) (fun c21 => ?_)
    · have c21n : 10 ≤ j := (nI_leI (a := 10) (b := j) (by omega) (by omega)).mp c21
      have hx9 : j = 10 := by omega
      rw [hx9] at hl
      refine lv_iinc (v := (nI (e + 1) - 3)) (lv' := [(4, .int (nI (e + 1) - 3)), (0, .ref sm), (1, .int (nI k)), (2, .int (rdM v st k e 10)), (3, .int (rdR v st k e0 e 10)), (5, .int (nI 10))]) hx hb dX1_readings_113 hl (k := 4) rfl (nI_3 _) (by decide) rfl (fun ls hl => ?_)
      refine lv_goto (tgt := 8) hx hb dX1_readings_116 (by decide) ?_
      exact ih1 (e + 1) ls (by omega) ⟨by omega, by rw [← rdM_e, ← rdR_e (okM10 hok k)]; exact lv_sub hl [1, 2, 3, 4, 0] rfl⟩
    · have c21n : ¬ 10 ≤ j := fun h9 => c21 ((nI_leI (a := 10) (b := j) (by omega) (by omega)).mpr h9)
      refine lv_aload_n hx hb dX1_readings_24 rfl (lv_at hl 0 rfl) ?_
      refine lv_iload_n hx hb dX1_readings_25 rfl (lv_at hl 1 rfl) ?_
      refine cVi (As := [.int (nI k)]) (rest := []) hF (mX1_ahead k (by omega)) S0.mv hX hX.rc jyX1_ahead kl_RX1_27 ⟨rfl, rfl⟩ ⟨Nat.le_of_ble_eq_true rfl, Nat.le_of_ble_eq_true rfl⟩ rfl hl.1 rfl (Nat.le_of_ble_eq_true rfl) ⟨(by show _ ≤ 1; omega), (by show _ ≤ 2; omega)⟩ dX1_readings_26 (fun r9 hr9 => ?_)
      rw [hr9, rv_ahd]
      refine lv_iload hx hb dX1_readings_29 (lv_at hl 4 rfl) ?_
      refine lv_aload_n hx hb dX1_readings_31 rfl (lv_at hl 0 rfl) ?_
      refine S0.gS hF hX kf_RX1_18 dX1_readings_32 ?_
      refine lv_imul hx hb dX1_readings_35 ?_
      refine cSi (As := [.int (nt (v 0) st k), .int ((nI e - 3) * st)]) (rest := []) hF (mX1_sung (nt (v 0) st k) ((nI e - 3) * st)) Mv.const trivial jyX1_sung kl_RX1_31 ⟨rfl, rfl⟩ ⟨Nat.le_of_ble_eq_true rfl, Nat.le_of_ble_eq_true rfl⟩ rfl hl.1 rfl (Nat.le_of_ble_eq_true rfl) ⟨Nat.zero_le _, Nat.zero_le _⟩ dX1_readings_36 (fun r hr9 => ?_)
      subst hr9
      refine lv_aload_n hx hb dX1_readings_39 rfl (lv_at hl 0 rfl) ?_
      refine S0.gL hF hX kf_RX1_9 dX1_readings_40 ?_
      refine lv_iload_n hx hb dX1_readings_43 rfl (lv_at hl 1 rfl) ?_
      refine S0.ldA hF hX k hk rfl dX1_readings_44 ?_
      refine lv_iconst (v := 3) hx hb dX1_readings_45 (by decide) ?_
      refine S0.ldR hF hX k hk 3 (by decide) rfl dX1_readings_46 ?_
      refine topI (show (rowV v st mk) k 3 = nt (v 0) st (k + 1) from rfl) ?_
      refine lv_icmp_ne (tgt := 107) hx hb dX1_readings_47 (by decide) (fun c47 => ?_) (fun c47 => ?_)
      · refine lv_iinc (v := (nI (j + 1))) (lv' := [(5, .int (nI (j + 1))), (0, .ref sm), (1, .int (nI k)), (2, .int (rdM v st k e j)), (3, .int (rdR v st k e0 e j)), (4, .int (nI e - 3))]) hx hb dX1_readings_107 hl (k := 5) rfl (nI_1 _) (by decide) rfl (fun ls hl => ?_)
        refine lv_goto (tgt := 17) hx hb dX1_readings_110 (by decide) ?_
        exact ih2 (j + 1) ls (by omega) ⟨⟨by omega, he1.2⟩, by rw [rdM_n c47, rdR_m (rd_m1 hve c47)]; exact lv_sub hl [1, 2, 3, 4, 5, 0] rfl⟩
      · refine lv_aload_n hx hb dX1_readings_50 rfl (lv_at hl 0 rfl) ?_
        refine S0.gW hF hX kf_RX1_15 dX1_readings_51 ?_
        refine lv_iload hx hb dX1_readings_54 (lv_at hl 5 rfl) ?_
        refine S0.ldW hF hX j (by omega) rfl dX1_readings_56 ?_
        refine lv_aload_n hx hb dX1_readings_57 rfl (lv_at hl 0 rfl) ?_
        refine S0.gW hF hX kf_RX1_15 dX1_readings_58 ?_
        refine lv_aload_n hx hb dX1_readings_61 rfl (lv_at hl 0 rfl) ?_
        refine S0.gL hF hX kf_RX1_9 dX1_readings_62 ?_
        refine lv_iload_n hx hb dX1_readings_65 rfl (lv_at hl 1 rfl) ?_
        refine S0.ldA hF hX k hk rfl dX1_readings_66 ?_
        refine lv_iconst (v := 2) hx hb dX1_readings_67 (by decide) ?_
        refine S0.ldR hF hX k hk 2 (by decide) rfl dX1_readings_68 ?_
        refine topI (show (rowV v st mk) k 2 = v 2 k from rfl) ?_
        refine S0.ldW hF hX (ix (v 2 k)) (okM10 hok k) (okM hok k) dX1_readings_69 ?_
        refine lv_icmp_eq (tgt := 76) hx hb dX1_readings_70 (by decide) (fun c70 => ?_) (fun c70 => ?_)
        · refine lv_iload hx hb dX1_readings_76 (lv_at hl 4 rfl) ?_
          refine lv_aload_n hx hb dX1_readings_78 rfl (lv_at hl 0 rfl) ?_
          refine S0.gL hF hX kf_RX1_9 dX1_readings_79 ?_
          refine lv_iload_n hx hb dX1_readings_82 rfl (lv_at hl 1 rfl) ?_
          refine S0.ldA hF hX k hk rfl dX1_readings_83 ?_
          refine lv_iconst (v := 0) hx hb dX1_readings_84 (by decide) ?_
          refine S0.ldR hF hX k hk 0 (by decide) rfl dX1_readings_85 ?_
          refine topI (show (rowV v st mk) k 0 = v 0 k from rfl) ?_
          refine lv_icmp_ne (tgt := 104) hx hb dX1_readings_86 (by decide) (fun c86 => ?_) (fun c86 => ?_)
          · refine lv_iinc (v := ((rdM v st k e j) + 1)) (lv' := [(2, .int ((rdM v st k e j) + 1)), (0, .ref sm), (1, .int (nI k)), (3, .int (rdR v st k e0 e j)), (4, .int (nI e - 3)), (5, .int (nI j))]) hx hb dX1_readings_104 hl (k := 2) rfl (rfl) (by decide) rfl (fun ls hl => ?_)
            refine lv_iinc (v := (nI (j + 1))) (lv' := [(5, .int (nI (j + 1))), (2, .int ((rdM v st k e j) + 1)), (0, .ref sm), (1, .int (nI k)), (3, .int (rdR v st k e0 e j)), (4, .int (nI e - 3))]) hx hb dX1_readings_107 hl (k := 5) rfl (nI_1 _) (by decide) rfl (fun ls hl => ?_)
            refine lv_goto (tgt := 17) hx hb dX1_readings_110 (by decide) ?_
            exact ih2 (j + 1) ls (by omega) ⟨⟨by omega, he1.2⟩, by rw [rdR_m (rd_m3 hve c86), rdM_y c47 c70]; exact lv_sub hl [2, 3, 1, 4, 5, 0] rfl⟩
          · refine lv_iload hx hb dX1_readings_89 (lv_at hl 5 rfl) ?_
            refine lv_aload_n hx hb dX1_readings_91 rfl (lv_at hl 0 rfl) ?_
            refine S0.gL hF hX kf_RX1_9 dX1_readings_92 ?_
            refine lv_iload_n hx hb dX1_readings_95 rfl (lv_at hl 1 rfl) ?_
            refine S0.ldA hF hX k hk rfl dX1_readings_96 ?_
            refine lv_iconst (v := 2) hx hb dX1_readings_97 (by decide) ?_
            refine S0.ldR hF hX k hk 2 (by decide) rfl dX1_readings_98 ?_
            refine topI (show (rowV v st mk) k 2 = v 2 k from rfl) ?_
            refine lv_icmp_ne (tgt := 104) hx hb dX1_readings_99 (by decide) (fun c99 => ?_) (fun c99 => ?_)
            · refine lv_iinc (v := ((rdM v st k e j) + 1)) (lv' := [(2, .int ((rdM v st k e j) + 1)), (0, .ref sm), (1, .int (nI k)), (3, .int (rdR v st k e0 e j)), (4, .int (nI e - 3)), (5, .int (nI j))]) hx hb dX1_readings_104 hl (k := 2) rfl (rfl) (by decide) rfl (fun ls hl => ?_)
              refine lv_iinc (v := (nI (j + 1))) (lv' := [(5, .int (nI (j + 1))), (2, .int ((rdM v st k e j) + 1)), (0, .ref sm), (1, .int (nI k)), (3, .int (rdR v st k e0 e j)), (4, .int (nI e - 3))]) hx hb dX1_readings_107 hl (k := 5) rfl (nI_1 _) (by decide) rfl (fun ls hl => ?_)
              refine lv_goto (tgt := 17) hx hb dX1_readings_110 (by decide) ?_
              exact ih2 (j + 1) ls (by omega) ⟨⟨by omega, he1.2⟩, by rw [rdR_m (rd_m4 hok c99), rdM_y c47 c70]; exact lv_sub hl [2, 3, 1, 4, 5, 0] rfl⟩
            · refine lv_iload_n hx hb dX1_readings_102 rfl (lv_at hl 2 rfl) ?_
              refine lv_istore_n (lv' := [(3, .int (rdM v st k e j)), (0, .ref sm), (1, .int (nI k)), (2, .int (rdM v st k e j)), (4, .int (nI e - 3)), (5, .int (nI j))]) hx hb dX1_readings_103 rfl hl (by decide) rfl (fun ls hl => ?_)
              refine lv_iinc (v := ((rdM v st k e j) + 1)) (lv' := [(2, .int ((rdM v st k e j) + 1)), (3, .int (rdM v st k e j)), (0, .ref sm), (1, .int (nI k)), (4, .int (nI e - 3)), (5, .int (nI j))]) hx hb dX1_readings_104 hl (k := 3) rfl (rfl) (by decide) rfl (fun ls hl => ?_)
              refine lv_iinc (v := (nI (j + 1))) (lv' := [(5, .int (nI (j + 1))), (2, .int ((rdM v st k e j) + 1)), (3, .int (rdM v st k e j)), (0, .ref sm), (1, .int (nI k)), (4, .int (nI e - 3))]) hx hb dX1_readings_107 hl (k := 5) rfl (nI_1 _) (by decide) rfl (fun ls hl => ?_)
              refine lv_goto (tgt := 17) hx hb dX1_readings_110 (by decide) ?_
              exact ih2 (j + 1) ls (by omega) ⟨⟨by omega, he1.2⟩, by rw [rdR_h hok he hve (rd_e he1.2 he hve c86) (rd_j (by omega) c99), rdM_y c47 c70]; exact lv_sub hl [3, 4, 1, 2, 5, 0] rfl⟩
        · refine lv_goto (tgt := 107) hx hb dX1_readings_73 (by decide) ?_
          refine lv_iinc (v := (nI (j + 1))) (lv' := [(5, .int (nI (j + 1))), (0, .ref sm), (1, .int (nI k)), (2, .int (rdM v st k e j)), (3, .int (rdR v st k e0 e j)), (4, .int (nI e - 3))]) hx hb dX1_readings_107 hl (k := 5) rfl (nI_1 _) (by decide) rfl (fun ls hl => ?_)
          refine lv_goto (tgt := 17) hx hb dX1_readings_110 (by decide) ?_
          exact ih2 (j + 1) ls (by omega) ⟨⟨by omega, he1.2⟩, by rw [rdM_w c70, rdR_m (rd_m2 c70)]; exact lv_sub hl [1, 2, 3, 4, 5, 0] rfl⟩
set_option maxHeartbeats 32000000 in
set_option maxRecDepth 100000 in
theorem mX1_isSame : Met l yX1_isSame (wm yX1_isSame cX1_isSame 19 (some .boolean)) ({ frames := 6, cells := 130, slots := 320, locals := 133 } : Room) (va_Pc [.ref sm, .ref (q 0)] (fun U => LW D cyI cyZ cyA q sm wd B U U.heap)) (va_Qi (fun r9 (_ : Unit) => r9 = 1) (fun u U => (fun (_ : Unit) => (fun _ _ => True : State → Heap → Prop)) u U U.heap) (fun _ => False)) 130 320 (fun _ => False) := by
  refine mt (by decide) (Nat.le_of_ble_eq_true rfl) ?_
  intro p ev s m below meth c ls hF hr hlocks hnm hX hl
  have hF : CallFix p m c cX1_isSame 19 s _ wA RX1 := hF
  obtain ⟨hx, hb, hml, hown, hts⟩ := id hF
  obtain ⟨N, st, v, mk, w, lg, a, ⟨hC0, hX0⟩, ⟨hinv, hde⟩, -⟩ := hX
  have hX := hX0
  have hC := hC0
  have hok := hinv.1
  have hl : lv_has ls 19 [(0, .ref sm), (1, .ref (q 0))] := hl
  have hS : va_S (fun q => s.heap.size ≤ q) s.heap s.heap [] := va_S.rf
  have hn16 : N ≤ 16 := hinv.1.1
  refine lv_aload_n hx hb dX1_isSame_0 rfl (lv_at hl 0 rfl) ?_
  refine S0.gL hF hX kf_RX1_9 dX1_isSame_1 ?_
  refine S0.len hF hX dX1_isSame_4 ?_
  refine lv_istore_n (lv' := [(2, .int (nI N)), (0, .ref sm), (1, .ref (q 0))]) hx hb dX1_isSame_5 rfl hl (by decide) rfl (fun ls hl => ?_)
  refine lv_iload_n hx hb dX1_isSame_6 rfl (lv_at hl 0 rfl) ?_
  refine lv_iconst (v := 1) hx hb dX1_isSame_7 (by decide) ?_
  refine lv_iadd hx hb dX1_isSame_8 ?_
  refine topI (show ((nI N) + 1) = nI (N + 1) from nI_1 N) ?_
  refine newIr hF hX.2.1 hS (N + 1) (by omega) rfl (by show _ ≤ 130; omega) (by show _ ≤ 320; omega) dX1_isSame_9 (fun x1 H hq h_x1 hz ho hS1 => ?_)
  have hA_x1 : s.heap.size ≤ x1 := by rw [hq]; exact hS.1
  have hS := hS1
  have hX := hX0.up hS
  have hC := C0.upS hC0 hS
  refine lv_astore_n (lv' := [(3, .ref x1), (2, .int (nI N)), (0, .ref sm), (1, .ref (q 0))]) hx hb dX1_isSame_11 rfl hl (by decide) rfl (fun ls hl => ?_)
  refine lv_iload_n hx hb dX1_isSame_12 rfl (lv_at hl 1 rfl) ?_
  refine lv_iconst (v := 1) hx hb dX1_isSame_13 (by decide) ?_
  refine lv_iadd hx hb dX1_isSame_14 ?_
  refine topI (show ((nI N) + 1) = nI (N + 1) from nI_1 N) ?_
  refine newIr hF hX.2.1 hS (N + 1) (by omega) rfl (by show _ ≤ 130; omega) (by show _ ≤ 320; omega) dX1_isSame_15 (fun x2 H hq h_x2 hz ho hS1 => ?_)
  have n_x1_x2 : x1 ≠ x2 := by rw [hq]; exact Nat.ne_of_lt h_x1.lt
  have n_x2_x1 := Ne.symm n_x1_x2
  have hA_x2 : s.heap.size ≤ x2 := by rw [hq]; exact hS.1
  have hS := hS1
  have hX := hX0.up hS
  have hC := C0.upS hC0 hS
  have h_x1 := h_x1.upK ho
  refine lv_astore (lv' := [(4, .ref x2), (3, .ref x1), (2, .int (nI N)), (0, .ref sm), (1, .ref (q 0))]) hx hb dX1_isSame_17 hl (by decide) rfl (fun ls hl => ?_)
  refine lv_iconst (v := 0) hx hb dX1_isSame_19 (by decide) ?_
  refine lv_istore (lv' := [(5, .int 0), (4, .ref x2), (3, .ref x1), (2, .int (nI N)), (0, .ref sm), (1, .ref (q 0))]) hx hb dX1_isSame_20 hl (by decide) rfl (fun ls hl => ?_)
  refine lv_iconst (v := 0) hx hb dX1_isSame_22 (by decide) ?_
  refine lv_istore (lv' := [(6, .int 0), (5, .int 0), (4, .ref x2), (3, .ref x1), (2, .int (nI N)), (0, .ref sm), (1, .ref (q 0))]) hx hb dX1_isSame_23 hl (by decide) rfl (fun ls hl => ?_)
  refine lv_iconst (v := 0) hx hb dX1_isSame_25 (by decide) ?_
  refine lv_istore (lv' := [(7, .int 0), (6, .int 0), (5, .int 0), (4, .ref x2), (3, .ref x1), (2, .int (nI N)), (0, .ref sm), (1, .ref (q 0))]) hx hb dX1_isSame_26 hl (by decide) rfl (fun ls hl => ?_)
  refine lv_iconst (v := 0) hx hb dX1_isSame_28 (by decide) ?_
  refine lv_istore (lv' := [(8, .int 0), (7, .int 0), (6, .int 0), (5, .int 0), (4, .ref x2), (3, .ref x1), (2, .int (nI N)), (0, .ref sm), (1, .ref (q 0))]) hx hb dX1_isSame_29 hl (by decide) rfl (fun ls hl => ?_)
  refine lv_bipush (v := 99) hx hb dX1_isSame_31 (by decide) ?_
  refine lv_istore (lv' := [(9, .int 99), (8, .int 0), (7, .int 0), (6, .int 0), (5, .int 0), (4, .ref x2), (3, .ref x1), (2, .int (nI N)), (0, .ref sm), (1, .ref (q 0))]) hx hb dX1_isSame_33 hl (by decide) rfl (fun ls hl => ?_)
  refine lv_iconst (v := 0) hx hb dX1_isSame_35 (by decide) ?_
  refine lv_istore (lv' := [(10, .int 0), (9, .int 99), (8, .int 0), (7, .int 0), (6, .int 0), (5, .int 0), (4, .ref x2), (3, .ref x1), (2, .int (nI N)), (0, .ref sm), (1, .ref (q 0))]) hx hb dX1_isSame_36 hl (by decide) rfl (fun ls hl => ?_)
  refine lv_iconst (v := 0) hx hb dX1_isSame_38 (by decide) ?_
  refine lv_istore (lv' := [(11, .int 0), (10, .int 0), (9, .int 99), (8, .int 0), (7, .int 0), (6, .int 0), (5, .int 0), (4, .ref x2), (3, .ref x1), (2, .int (nI N)), (0, .ref sm), (1, .ref (q 0))]) hx hb dX1_isSame_39 hl (by decide) rfl (fun ls hl => ?_)
  refine lv_iconst (v := (-1)) hx hb dX1_isSame_41 (by decide) ?_
  refine lv_istore (lv' := [(12, .int (-1)), (11, .int 0), (10, .int 0), (9, .int 99), (8, .int 0), (7, .int 0), (6, .int 0), (5, .int 0), (4, .ref x2), (3, .ref x1), (2, .int (nI N)), (0, .ref sm), (1, .ref (q 0))]) hx hb dX1_isSame_42 hl (by decide) rfl (fun ls hl => ?_)
  refine lv_bipush (v := 10) hx hb dX1_isSame_44 (by decide) ?_
  refine newIr hF hX.2.1 hS 10 (by decide) rfl (by show _ ≤ 130; omega) (by show _ ≤ 320; omega) dX1_isSame_46 (fun x3 H hq h_x3 hz ho hS1 => ?_)
  have n_x1_x3 : x1 ≠ x3 := by rw [hq]; exact Nat.ne_of_lt h_x1.lt
  have n_x3_x1 := Ne.symm n_x1_x3
  have n_x2_x3 : x2 ≠ x3 := by rw [hq]; exact Nat.ne_of_lt h_x2.lt
  have n_x3_x2 := Ne.symm n_x2_x3
  have hA_x3 : s.heap.size ≤ x3 := by rw [hq]; exact hS.1
  have hS := hS1
  have hX := hX0.up hS
  have hC := C0.upS hC0 hS
  have h_x1 := h_x1.upK ho
  have h_x2 := h_x2.upK ho
  refine lv_astore (lv' := [(13, .ref x3), (12, .int (-1)), (11, .int 0), (10, .int 0), (9, .int 99), (8, .int 0), (7, .int 0), (6, .int 0), (5, .int 0), (4, .ref x2), (3, .ref x1), (2, .int (nI N)), (0, .ref sm), (1, .ref (q 0))]) hx hb dX1_isSame_48 hl (by decide) rfl (fun ls hl => ?_)
  refine lv_iconst (v := 0) hx hb dX1_isSame_50 (by decide) ?_
  refine lv_istore (lv' := [(14, .int 0), (13, .ref x3), (12, .int (-1)), (11, .int 0), (10, .int 0), (9, .int 99), (8, .int 0), (7, .int 0), (6, .int 0), (5, .int 0), (4, .ref x2), (3, .ref x1), (2, .int (nI N)), (0, .ref sm), (1, .ref (q 0))]) hx hb dX1_isSame_51 hl (by decide) rfl (fun ls hl => ?_)
  refine W.widen (k := 3 + 4 * 0) (n := 60 + 8 * 0) (by omega) (by omega) ?_
  refine lpC (σ := Nat) (τ := (Nat → Int32) × (Nat → Int32) × (Nat → Int32)) (fun k u8 ls H locs => (k ≤ N ∧ (∀ i : Nat, i ≤ k → u8.1 i = px (v 0) (v 1) i) ∧ (∀ i : Nat, i ≤ k → u8.2.1 i = py (v 0) (v 1) i) ∧ ∀ x : Nat, x < 10 → u8.2.2 x = sung v (nI x) k) ∧ (S0 D cyI cyA sm wd lg a N st (v 3) (rowV v st mk) s H) ∧ (C0 D cyI cyZ q (nI N) st v mk w s H) ∧ (IA cyI x1 (N + 1) u8.1 H) ∧ (IA cyI x2 (N + 1) u8.2.1 H) ∧ (IA cyI x3 10 u8.2.2 H) ∧ va_S (fun q => s.heap.size ≤ q) s.heap H locs ∧ lv_has ls 19 [(0, .ref sm), (1, .ref (q 0)), (2, .int (nI N)), (3, .ref x1), (4, .ref x2), (5, .int (hd (v 0) k)), (6, .int (sumI (v 1) k)), (7, .int (ctB (fold1 v st) k)), (8, .int (ctB (rtP v) k)), (9, .int (lo99 (v 0) st k)), (10, .int (hi9 (v 0) st k)), (11, .int (sumI (fun i => nt (v 0) st (i + 1)) k)), (12, .int (fam v st mk k)), (13, .ref x3), (14, .int (nI k))]) (fun k u8 => N - k) (fun k => 3 + 4 * k) (fun k => 60 + 8 * k) (fun k u8 ls H locs hI ih1 => ?_) (0) ((fun _ => 0), (fun _ => 0), (fun _ => 0)) ⟨⟨Nat.zero_le _, fun i hi => by rw [Nat.le_zero.mp hi]; rfl, fun i hi => by rw [Nat.le_zero.mp hi]; rfl, fun _ _ => rfl⟩, hX, hC, h_x1, h_x2, h_x3, hS, lv_sub hl [13, 14, 12, 11, 10, 9, 8, 7, 6, 5, 4, 3, 2, 1, 0] rfl⟩
  obtain ⟨hk1, hX, hC, h_x1, h_x2, h_x3, hS, hl⟩ := hI
  refine lv_iload hx hb dX1_isSame_53 (lv_at hl 14 rfl) ?_
  refine lv_iload_n hx hb dX1_isSame_55 rfl (lv_at hl 2 rfl) ?_
  refine lv_icmp_ge (tgt := 527) hx hb dX1_isSame_56 (by decide) (fun c56 => ?_) (fun c56 => ?_)
  · have c56n : N ≤ k := (nI_leI (a := N) (b := k) (by omega) (by omega)).mp c56
    obtain rfl : N = k := by omega
    refine lv_iconst (v := 0) hx hb dX1_isSame_527 (by decide) ?_
    refine lv_istore (lv' := [(14, .int 0), (0, .ref sm), (1, .ref (q 0)), (2, .int (nI N)), (3, .ref x1), (4, .ref x2), (5, .int (hd (v 0) N)), (6, .int (sumI (v 1) N)), (7, .int (ctB (fold1 v st) N)), (8, .int (ctB (rtP v) N)), (9, .int (lo99 (v 0) st N)), (10, .int (hi9 (v 0) st N)), (11, .int (sumI (fun i => nt (v 0) st (i + 1)) N)), (12, .int (fam v st mk N)), (13, .ref x3)]) hx hb dX1_isSame_528 hl (by decide) rfl (fun ls hl => ?_)
    refine lpW (σ := Nat) (fun j ls => (j ≤ 10) ∧ lv_has ls 19 [(0, .ref sm), (1, .ref (q 0)), (2, .int (nI N)), (3, .ref x1), (4, .ref x2), (6, .int (sumI (v 1) N)), (7, .int (ctB (fold1 v st) N)), (8, .int (ctB (rtP v) N)), (9, .int (lo99 (v 0) st N)), (10, .int (hi9 (v 0) st N)), (11, .int (sumI (fun i => nt (v 0) st (i + 1)) N)), (12, .int (fam v st mk N)), (13, .ref x3), (14, .int (nI j))]) (fun j => 10 - j) (fun j ls hI ih4 => ?_) (0) ⟨Nat.zero_le _, lv_sub hl [1, 2, 3, 4, 5, 7, 8, 9, 10, 11, 12, 13, 14, 0] rfl⟩
    obtain ⟨hj1, hl⟩ := hI
    refine lv_iload hx hb dX1_isSame_530 (lv_at hl 13 rfl) ?_
    refine lv_bipush (v := 10) hx hb dX1_isSame_532 (by decide) ?_
    refine lv_icmp_ge (tgt := 575) hx hb dX1_isSame_534 (by decide) (fun c534 => ?_) (fun c534 => ?_)
    · have c534n : 10 ≤ j := (nI_leI (a := 10) (b := j) (by omega) (by omega)).mp c534
      refine lv_aload_n hx hb dX1_isSame_575 rfl (lv_at hl 1 rfl) ?_
      refine cVi (As := []) (rest := []) hF (mX0_legs ) C0.mv hC (C0.rc hC) jyX0_legs kl_RX1_102 ⟨rfl, rfl⟩ ⟨Nat.le_of_ble_eq_true rfl, Nat.le_of_ble_eq_true rfl⟩ rfl hl.1 rfl (Nat.le_of_ble_eq_true rfl) ⟨(by show _ ≤ 130; omega), (by show _ ≤ 320; omega)⟩ dX1_isSame_576 (fun r9 hr9 => ?_)
      subst hr9
      refine lv_iload_n hx hb dX1_isSame_579 rfl (lv_at hl 2 rfl) ?_
      refine lv_icmp_ne (tgt := 743) hx hb dX1_isSame_580 (by decide) (fun c580 => ?_) (fun c580 => ?_)
      · have c580n : ¬ N = N := fun h9 => c580 ((nI_eq (a := N) (b := N) (by omega) (by omega)).mpr h9)
        exact absurd rfl c580
      · have c580n : N = N := (nI_eq (a := N) (b := N) (by omega) (by omega)).mp c580
        refine lv_aload_n hx hb dX1_isSame_583 rfl (lv_at hl 1 rfl) ?_
        refine cVi (As := []) (rest := []) hF (mX0_step ) C0.mv hC (C0.rc hC) jyX0_step kl_RX1_104 ⟨rfl, rfl⟩ ⟨Nat.le_of_ble_eq_true rfl, Nat.le_of_ble_eq_true rfl⟩ rfl hl.1 rfl (Nat.le_of_ble_eq_true rfl) ⟨(by show _ ≤ 130; omega), (by show _ ≤ 320; omega)⟩ dX1_isSame_584 (fun r9 hr9 => ?_)
        rw [hr9]
        refine lv_aload_n hx hb dX1_isSame_587 rfl (lv_at hl 0 rfl) ?_
        refine S0.gS hF hX kf_RX1_18 dX1_isSame_588 ?_
        refine lv_icmp_ne (tgt := 743) hx hb dX1_isSame_591 (by decide) (fun c591 => ?_) (fun c591 => ?_)
        · exact absurd rfl c591
        · refine lv_aload_n hx hb dX1_isSame_594 rfl (lv_at hl 1 rfl) ?_
          refine cVi (As := []) (rest := []) hF (mX0_endX hinv.1 hde) C0.mv hC (C0.rc hC) jyX0_endX kl_RX1_106 ⟨rfl, rfl⟩ ⟨Nat.le_of_ble_eq_true rfl, Nat.le_of_ble_eq_true rfl⟩ rfl hl.1 rfl (Nat.le_of_ble_eq_true rfl) ⟨(by show _ ≤ 130; omega), (by show _ ≤ 320; omega)⟩ dX1_isSame_595 (fun r9 hr9 => ?_)
          subst hr9
          refine lv_aload_n hx hb dX1_isSame_598 rfl (lv_at hl 3 rfl) ?_
          refine lv_iload_n hx hb dX1_isSame_599 rfl (lv_at hl 2 rfl) ?_
          refine ldI hF hX.2.1 h_x1 N (by omega) (by omega) rfl dX1_isSame_600 ?_
          refine lv_icmp_ne (tgt := 743) hx hb dX1_isSame_601 (by decide) (fun c601 => ?_) (fun c601 => ?_)
          · exact absurd (hk1.2.1 N (Nat.le_refl N)).symm c601
          · refine lv_aload_n hx hb dX1_isSame_604 rfl (lv_at hl 1 rfl) ?_
            refine cVi (As := []) (rest := []) hF (mX0_endY hinv.1 hde) C0.mv hC (C0.rc hC) jyX0_endY kl_RX1_109 ⟨rfl, rfl⟩ ⟨Nat.le_of_ble_eq_true rfl, Nat.le_of_ble_eq_true rfl⟩ rfl hl.1 rfl (Nat.le_of_ble_eq_true rfl) ⟨(by show _ ≤ 130; omega), (by show _ ≤ 320; omega)⟩ dX1_isSame_605 (fun r9 hr9 => ?_)
            subst hr9
            refine lv_aload hx hb dX1_isSame_608 (lv_at hl 4 rfl) ?_
            refine lv_iload_n hx hb dX1_isSame_610 rfl (lv_at hl 2 rfl) ?_
            refine ldI hF hX.2.1 h_x2 N (by omega) (by omega) rfl dX1_isSame_611 ?_
            refine lv_icmp_ne (tgt := 743) hx hb dX1_isSame_612 (by decide) (fun c612 => ?_) (fun c612 => ?_)
            · exact absurd (hk1.2.2.1 N (Nat.le_refl N)).symm c612
            · refine lv_aload_n hx hb dX1_isSame_615 rfl (lv_at hl 1 rfl) ?_
              refine cVi (As := []) (rest := []) hF (mX0_stepsHome hinv.1 hde) C0.mv hC (C0.rc hC) jyX0_stepsHome kl_RX1_112 ⟨rfl, rfl⟩ ⟨Nat.le_of_ble_eq_true rfl, Nat.le_of_ble_eq_true rfl⟩ rfl hl.1 rfl (Nat.le_of_ble_eq_true rfl) ⟨(by show _ ≤ 130; omega), (by show _ ≤ 320; omega)⟩ dX1_isSame_616 (fun r9 hr9 => ?_)
              subst hr9
              refine lv_aload_n hx hb dX1_isSame_619 rfl (lv_at hl 3 rfl) ?_
              refine lv_iload_n hx hb dX1_isSame_620 rfl (lv_at hl 2 rfl) ?_
              refine ldI hF hX.2.1 h_x1 N (by omega) (by omega) rfl dX1_isSame_621 ?_
              refine topI (show (u8.1 N) = px (v 0) (v 1) N from hk1.2.1 N (Nat.le_refl N)) ?_
              refine va_mabs hx hb (hml.trans hl.1.symm) hown (hts _ kl_RX1_115) (hts _ ks_LM_abs_name) (hts _ kn_Math) (hts _ kd_LM_abs_name) (Nat.le_of_ble_eq_true rfl) (Nat.le_of_ble_eq_true rfl) (by show _ ≤ 130; omega) (by show _ ≤ 320; omega) dX1_isSame_622 ?_
              refine lv_aload hx hb dX1_isSame_625 (lv_at hl 4 rfl) ?_
              refine lv_iload_n hx hb dX1_isSame_627 rfl (lv_at hl 2 rfl) ?_
              refine ldI hF hX.2.1 h_x2 N (by omega) (by omega) rfl dX1_isSame_628 ?_
              refine topI (show (u8.2.1 N) = py (v 0) (v 1) N from hk1.2.2.1 N (Nat.le_refl N)) ?_
              refine va_mabs hx hb (hml.trans hl.1.symm) hown (hts _ kl_RX1_115) (hts _ ks_LM_abs_name) (hts _ kn_Math) (hts _ kd_LM_abs_name) (Nat.le_of_ble_eq_true rfl) (Nat.le_of_ble_eq_true rfl) (by show _ ≤ 130; omega) (by show _ ≤ 320; omega) dX1_isSame_629 ?_
              refine va_mmax hx hb (hml.trans hl.1.symm) hown (hts _ kl_RX1_62) (hts _ ks_LM_max_name) (hts _ kn_Math) (hts _ kd_LM_max_name) (Nat.le_of_ble_eq_true rfl) (Nat.le_of_ble_eq_true rfl) (by show _ ≤ 130; omega) (by show _ ≤ 320; omega) dX1_isSame_632 ?_
              refine lv_icmp_ne (tgt := 743) hx hb dX1_isSame_635 (by decide) (fun c635 => ?_) (fun c635 => ?_)
              · exact absurd rfl c635
              · refine lv_aload_n hx hb dX1_isSame_638 rfl (lv_at hl 1 rfl) ?_
                refine cVi (As := []) (rest := []) hF (mX0_returns hinv.1 hde) C0.mv hC (C0.rc hC) jyX0_returns kl_RX1_118 ⟨rfl, rfl⟩ ⟨Nat.le_of_ble_eq_true rfl, Nat.le_of_ble_eq_true rfl⟩ rfl hl.1 rfl (Nat.le_of_ble_eq_true rfl) ⟨(by show _ ≤ 130; omega), (by show _ ≤ 320; omega)⟩ dX1_isSame_639 (fun r9 hr9 => ?_)
                subst hr9
                refine lv_iload hx hb dX1_isSame_642 (lv_at hl 7 rfl) ?_
                refine lv_icmp_ne (tgt := 743) hx hb dX1_isSame_644 (by decide) (fun c644 => ?_) (fun c644 => ?_)
                · exact absurd rfl c644
                · refine lv_aload_n hx hb dX1_isSame_647 rfl (lv_at hl 1 rfl) ?_
                  refine cVi (As := []) (rest := []) hF (mX0_beats hinv.1 hde) C0.mv hC (C0.rc hC) jyX0_beats kl_RX1_121 ⟨rfl, rfl⟩ ⟨Nat.le_of_ble_eq_true rfl, Nat.le_of_ble_eq_true rfl⟩ rfl hl.1 rfl (Nat.le_of_ble_eq_true rfl) ⟨(by show _ ≤ 130; omega), (by show _ ≤ 320; omega)⟩ dX1_isSame_648 (fun r9 hr9 => ?_)
                  subst hr9
                  refine lv_iload hx hb dX1_isSame_651 (lv_at hl 5 rfl) ?_
                  refine lv_icmp_ne (tgt := 743) hx hb dX1_isSame_653 (by decide) (fun c653 => ?_) (fun c653 => ?_)
                  · exact absurd rfl c653
                  · refine lv_aload_n hx hb dX1_isSame_656 rfl (lv_at hl 1 rfl) ?_
                    refine cVi (As := []) (rest := []) hF (mX0_folded hinv.1 hde) C0.mv hC (C0.rc hC) jyX0_folded kl_RX1_124 ⟨rfl, rfl⟩ ⟨Nat.le_of_ble_eq_true rfl, Nat.le_of_ble_eq_true rfl⟩ rfl hl.1 rfl (Nat.le_of_ble_eq_true rfl) ⟨(by show _ ≤ 130; omega), (by show _ ≤ 320; omega)⟩ dX1_isSame_657 (fun r9 hr9 => ?_)
                    subst hr9
                    refine lv_iload hx hb dX1_isSame_660 (lv_at hl 6 rfl) ?_
                    refine lv_icmp_ne (tgt := 743) hx hb dX1_isSame_662 (by decide) (fun c662 => ?_) (fun c662 => ?_)
                    · exact absurd rfl c662
                    · refine lv_aload_n hx hb dX1_isSame_665 rfl (lv_at hl 1 rfl) ?_
                      refine cVi (As := []) (rest := []) hF (mX0_range hinv.1 hde) C0.mv hC (C0.rc hC) jyX0_range kl_RX1_127 ⟨rfl, rfl⟩ ⟨Nat.le_of_ble_eq_true rfl, Nat.le_of_ble_eq_true rfl⟩ rfl hl.1 rfl (Nat.le_of_ble_eq_true rfl) ⟨(by show _ ≤ 130; omega), (by show _ ≤ 320; omega)⟩ dX1_isSame_666 (fun r9 hr9 => ?_)
                      subst hr9
                      refine lv_iload_n hx hb dX1_isSame_669 rfl (lv_at hl 2 rfl) ?_
                      refine lv_if_ne (tgt := 677) hx hb dX1_isSame_670 (by decide) (fun c670 => ?_) (fun c670 => ?_)
                      · have c670n : ¬ N = 0 := fun h9 => c670 ((nI_eq (a := N) (b := 0) (by omega) (by omega)).mpr h9)
                        refine lv_iload hx hb dX1_isSame_677 (lv_at hl 9 rfl) ?_
                        refine lv_iload hx hb dX1_isSame_679 (lv_at hl 8 rfl) ?_
                        refine lv_isub hx hb dX1_isSame_681 ?_
                        refine lv_icmp_ne (tgt := 743) hx hb dX1_isSame_682 (by decide) (fun c682 => ?_) (fun c682 => ?_)
                        · exact absurd (by rw [lo99_n c670n]; exact (rng_1 (by omega)).symm) c682
                        · refine lv_aload_n hx hb dX1_isSame_685 rfl (lv_at hl 1 rfl) ?_
                          refine cVi (As := []) (rest := []) hF (mX0_ambiguous hinv.1 hde) C0.mv hC (C0.rc hC) jyX0_ambiguous kl_RX1_130 ⟨rfl, rfl⟩ ⟨Nat.le_of_ble_eq_true rfl, Nat.le_of_ble_eq_true rfl⟩ rfl hl.1 rfl (Nat.le_of_ble_eq_true rfl) ⟨(by show _ ≤ 130; omega), (by show _ ≤ 320; omega)⟩ dX1_isSame_686 (fun r9 hr9 => ?_)
                          subst hr9
                          refine lv_aload_n hx hb dX1_isSame_689 rfl (lv_at hl 0 rfl) ?_
                          refine wVi (mc := 16) (ms := 32) (As := []) (rest := [.int (ctB (amb v st mk) N)]) hF (mX1_open hok) S0.mv (fun _ => Mv.const) hX hX.rc jyX1_open kl_RX1_53 ⟨rfl, rfl⟩ ⟨Nat.le_of_ble_eq_true rfl, Nat.le_of_ble_eq_true rfl⟩ rfl hl.1 rfl (Nat.le_of_ble_eq_true rfl) ⟨by show _ + 16 ≤ 130; omega, by show _ + 32 ≤ 320; omega⟩ hS (fun _ _ h => h.elim) (fun _ h => h.elim) dX1_isSame_690 (fun r9 u9 H locs hp9 hB9 hz hk hS => ?_)
                          have ho : ∀ q : Nat, q < _ → H[q]? = _ := fun q h9 => hk q h9 (fun h => h)
                          have hX := hX0.up hS
                          have hC := C0.upS hC0 hS
                          have h_x1 := h_x1.upK ho
                          have h_x2 := h_x2.upK ho
                          have h_x3 := h_x3.upK ho
                          subst hp9
                          refine lv_icmp_ne (tgt := 743) hx hb dX1_isSame_693 (by decide) (fun c693 => ?_) (fun c693 => ?_)
                          · exact absurd rfl c693
                          · refine lv_aload_n hx hb dX1_isSame_696 rfl (lv_at hl 1 rfl) ?_
                            refine cVl (As := []) (rest := []) hF (mX0_ways hinv.1 hde) C0.mv hC (C0.rc hC) jyX0_ways kl_RX1_133 ⟨rfl, rfl⟩ ⟨Nat.le_of_ble_eq_true rfl, Nat.le_of_ble_eq_true rfl⟩ rfl hl.1 rfl (Nat.le_of_ble_eq_true rfl) ⟨(by show _ ≤ 130; omega), (by show _ ≤ 320; omega)⟩ dX1_isSame_697 (fun r9 hr9 => ?_)
                            subst hr9
                            refine lv_aload_n hx hb dX1_isSame_700 rfl (lv_at hl 0 rfl) ?_
                            refine wVl (mc := 32) (ms := 64) (As := []) (rest := [.long (wys v st mk N)]) hF (mX1_ways hok) S0.mv (fun _ => Mv.const) hX hX.rc jyX1_ways kl_RX1_137 ⟨rfl, rfl⟩ ⟨Nat.le_of_ble_eq_true rfl, Nat.le_of_ble_eq_true rfl⟩ rfl hl.1 rfl (Nat.le_of_ble_eq_true rfl) ⟨by show _ + 32 ≤ 130; omega, by show _ + 64 ≤ 320; omega⟩ hS (fun _ _ h => h.elim) (fun _ h => h.elim) dX1_isSame_701 (fun r9 u9 H locs hp9 hB9 hz hk hS => ?_)
                            have ho : ∀ q : Nat, q < _ → H[q]? = _ := fun q h9 => hk q h9 (fun h => h)
                            have hX := hX0.up hS
                            have hC := C0.upS hC0 hS
                            have h_x1 := h_x1.upK ho
                            have h_x2 := h_x2.upK ho
                            have h_x3 := h_x3.upK ho
                            subst hp9
                            refine W.lcmp hx hb dX1_isSame_704 ?_
                            refine lv_if_ne (tgt := 743) hx hb dX1_isSame_705 (by decide) (fun c705 => ?_) (fun c705 => ?_)
                            · exact absurd ((lg_cmp_eq _ _).mpr rfl) c705
                            · refine lv_aload_n hx hb dX1_isSame_708 rfl (lv_at hl 1 rfl) ?_
                              refine cVi (As := []) (rest := []) hF (mX0_firstAmbiguous hinv.1 hde) C0.mv hC (C0.rc hC) jyX0_firstAmbiguous kl_RX1_138 ⟨rfl, rfl⟩ ⟨Nat.le_of_ble_eq_true rfl, Nat.le_of_ble_eq_true rfl⟩ rfl hl.1 rfl (Nat.le_of_ble_eq_true rfl) ⟨(by show _ ≤ 130; omega), (by show _ ≤ 320; omega)⟩ dX1_isSame_709 (fun r9 hr9 => ?_)
                              subst hr9
                              refine lv_iload hx hb dX1_isSame_712 (lv_at hl 11 rfl) ?_
                              refine lv_icmp_ne (tgt := 743) hx hb dX1_isSame_714 (by decide) (fun c714 => ?_) (fun c714 => ?_)
                              · exact absurd rfl c714
                              · refine lv_aload_n hx hb dX1_isSame_717 rfl (lv_at hl 1 rfl) ?_
                                refine cVd (As := []) (rest := []) hF (mX0_meanNote hinv.1 hde) C0.mv hC (C0.rc hC) jyX0_meanNote kl_RX1_141 ⟨rfl, rfl⟩ ⟨Nat.le_of_ble_eq_true rfl, Nat.le_of_ble_eq_true rfl⟩ rfl hl.1 rfl (Nat.le_of_ble_eq_true rfl) ⟨(by show _ ≤ 130; omega), (by show _ ≤ 320; omega)⟩ dX1_isSame_718 (fun r9 hr9 => ?_)
                                subst hr9
                                refine lv_iload_n hx hb dX1_isSame_721 rfl (lv_at hl 2 rfl) ?_
                                refine lv_if_ne (tgt := 729) hx hb dX1_isSame_722 (by decide) (fun c722 => ?_) (fun c722 => ?_)
                                · have c722n : ¬ N = 0 := fun h9 => c722 ((nI_eq (a := N) (b := 0) (by omega) (by omega)).mpr h9)
                                  refine lv_iload hx hb dX1_isSame_729 (lv_at hl 10 rfl) ?_
                                  refine lv_i2d hx hb dX1_isSame_731 ?_
                                  refine lv_iload_n hx hb dX1_isSame_732 rfl (lv_at hl 2 rfl) ?_
                                  refine lv_i2d hx hb dX1_isSame_733 ?_
                                  refine lv_ddiv hx hb dX1_isSame_734 (mean_fin hinv.1 (by omega)) ?_
                                  refine lv_dcmp hx hb dX1_isSame_735 ?_
                                  refine lv_if_ne (tgt := 743) hx hb dX1_isSame_736 (by decide) (fun c736 => ?_) (fun c736 => ?_)
                                  · exact absurd (mean_c1 hinv.1 c722n) c736
                                  · refine lv_iconst (v := 1) hx hb dX1_isSame_739 (by decide) ?_
                                    refine lv_goto (tgt := 744) hx hb dX1_isSame_740 (by decide) ?_
                                    refine W.widen (k := 130) (n := 320) (by omega) (by omega) ?_
                                    refine va_forget (fun q hq => hS.2.2 q hq) ?_
                                    exact W.zret hx hb hr rfl (fun t ht hW => ⟨⟨_, (), rfl, rfl, trivial⟩, sF hS ht⟩) (fun q hq => absurd hq List.not_mem_nil) dX1_isSame_744
                                · have c722n : N = 0 := (nI_eq (a := N) (b := 0) (by omega) (by omega)).mp c722
                                  refine lv_dconst0 hx hb dX1_isSame_725 ?_
                                  refine lv_goto (tgt := 735) hx hb dX1_isSame_726 (by decide) ?_
                                  refine lv_dcmp hx hb dX1_isSame_735 ?_
                                  refine lv_if_ne (tgt := 743) hx hb dX1_isSame_736 (by decide) (fun c736 => ?_) (fun c736 => ?_)
                                  · exact absurd (mean_c0 c722n) c736
                                  · refine lv_iconst (v := 1) hx hb dX1_isSame_739 (by decide) ?_
                                    refine lv_goto (tgt := 744) hx hb dX1_isSame_740 (by decide) ?_
                                    refine W.widen (k := 130) (n := 320) (by omega) (by omega) ?_
                                    refine va_forget (fun q hq => hS.2.2 q hq) ?_
                                    exact W.zret hx hb hr rfl (fun t ht hW => ⟨⟨_, (), rfl, rfl, trivial⟩, sF hS ht⟩) (fun q hq => absurd hq List.not_mem_nil) dX1_isSame_744
                      · have c670n : N = 0 := (nI_eq (a := N) (b := 0) (by omega) (by omega)).mp c670
                        refine lv_iconst (v := 0) hx hb dX1_isSame_673 (by decide) ?_
                        refine lv_goto (tgt := 682) hx hb dX1_isSame_674 (by decide) ?_
                        refine lv_icmp_ne (tgt := 743) hx hb dX1_isSame_682 (by decide) (fun c682 => ?_) (fun c682 => ?_)
                        · exact absurd (rng_0 c670n).symm c682
                        · refine lv_aload_n hx hb dX1_isSame_685 rfl (lv_at hl 1 rfl) ?_
                          refine cVi (As := []) (rest := []) hF (mX0_ambiguous hinv.1 hde) C0.mv hC (C0.rc hC) jyX0_ambiguous kl_RX1_130 ⟨rfl, rfl⟩ ⟨Nat.le_of_ble_eq_true rfl, Nat.le_of_ble_eq_true rfl⟩ rfl hl.1 rfl (Nat.le_of_ble_eq_true rfl) ⟨(by show _ ≤ 130; omega), (by show _ ≤ 320; omega)⟩ dX1_isSame_686 (fun r9 hr9 => ?_)
                          subst hr9
                          refine lv_aload_n hx hb dX1_isSame_689 rfl (lv_at hl 0 rfl) ?_
                          refine wVi (mc := 16) (ms := 32) (As := []) (rest := [.int (ctB (amb v st mk) N)]) hF (mX1_open hok) S0.mv (fun _ => Mv.const) hX hX.rc jyX1_open kl_RX1_53 ⟨rfl, rfl⟩ ⟨Nat.le_of_ble_eq_true rfl, Nat.le_of_ble_eq_true rfl⟩ rfl hl.1 rfl (Nat.le_of_ble_eq_true rfl) ⟨by show _ + 16 ≤ 130; omega, by show _ + 32 ≤ 320; omega⟩ hS (fun _ _ h => h.elim) (fun _ h => h.elim) dX1_isSame_690 (fun r9 u9 H locs hp9 hB9 hz hk hS => ?_)
                          have ho : ∀ q : Nat, q < _ → H[q]? = _ := fun q h9 => hk q h9 (fun h => h)
                          have hX := hX0.up hS
                          have hC := C0.upS hC0 hS
                          have h_x1 := h_x1.upK ho
                          have h_x2 := h_x2.upK ho
                          have h_x3 := h_x3.upK ho
                          subst hp9
                          refine lv_icmp_ne (tgt := 743) hx hb dX1_isSame_693 (by decide) (fun c693 => ?_) (fun c693 => ?_)
                          · exact absurd rfl c693
                          · refine lv_aload_n hx hb dX1_isSame_696 rfl (lv_at hl 1 rfl) ?_
                            refine cVl (As := []) (rest := []) hF (mX0_ways hinv.1 hde) C0.mv hC (C0.rc hC) jyX0_ways kl_RX1_133 ⟨rfl, rfl⟩ ⟨Nat.le_of_ble_eq_true rfl, Nat.le_of_ble_eq_true rfl⟩ rfl hl.1 rfl (Nat.le_of_ble_eq_true rfl) ⟨(by show _ ≤ 130; omega), (by show _ ≤ 320; omega)⟩ dX1_isSame_697 (fun r9 hr9 => ?_)
                            subst hr9
                            refine lv_aload_n hx hb dX1_isSame_700 rfl (lv_at hl 0 rfl) ?_
                            refine wVl (mc := 32) (ms := 64) (As := []) (rest := [.long (wys v st mk N)]) hF (mX1_ways hok) S0.mv (fun _ => Mv.const) hX hX.rc jyX1_ways kl_RX1_137 ⟨rfl, rfl⟩ ⟨Nat.le_of_ble_eq_true rfl, Nat.le_of_ble_eq_true rfl⟩ rfl hl.1 rfl (Nat.le_of_ble_eq_true rfl) ⟨by show _ + 32 ≤ 130; omega, by show _ + 64 ≤ 320; omega⟩ hS (fun _ _ h => h.elim) (fun _ h => h.elim) dX1_isSame_701 (fun r9 u9 H locs hp9 hB9 hz hk hS => ?_)
                            have ho : ∀ q : Nat, q < _ → H[q]? = _ := fun q h9 => hk q h9 (fun h => h)
                            have hX := hX0.up hS
                            have hC := C0.upS hC0 hS
                            have h_x1 := h_x1.upK ho
                            have h_x2 := h_x2.upK ho
                            have h_x3 := h_x3.upK ho
                            subst hp9
                            refine W.lcmp hx hb dX1_isSame_704 ?_
                            refine lv_if_ne (tgt := 743) hx hb dX1_isSame_705 (by decide) (fun c705 => ?_) (fun c705 => ?_)
                            · exact absurd ((lg_cmp_eq _ _).mpr rfl) c705
                            · refine lv_aload_n hx hb dX1_isSame_708 rfl (lv_at hl 1 rfl) ?_
                              refine cVi (As := []) (rest := []) hF (mX0_firstAmbiguous hinv.1 hde) C0.mv hC (C0.rc hC) jyX0_firstAmbiguous kl_RX1_138 ⟨rfl, rfl⟩ ⟨Nat.le_of_ble_eq_true rfl, Nat.le_of_ble_eq_true rfl⟩ rfl hl.1 rfl (Nat.le_of_ble_eq_true rfl) ⟨(by show _ ≤ 130; omega), (by show _ ≤ 320; omega)⟩ dX1_isSame_709 (fun r9 hr9 => ?_)
                              subst hr9
                              refine lv_iload hx hb dX1_isSame_712 (lv_at hl 11 rfl) ?_
                              refine lv_icmp_ne (tgt := 743) hx hb dX1_isSame_714 (by decide) (fun c714 => ?_) (fun c714 => ?_)
                              · exact absurd rfl c714
                              · refine lv_aload_n hx hb dX1_isSame_717 rfl (lv_at hl 1 rfl) ?_
                                refine cVd (As := []) (rest := []) hF (mX0_meanNote hinv.1 hde) C0.mv hC (C0.rc hC) jyX0_meanNote kl_RX1_141 ⟨rfl, rfl⟩ ⟨Nat.le_of_ble_eq_true rfl, Nat.le_of_ble_eq_true rfl⟩ rfl hl.1 rfl (Nat.le_of_ble_eq_true rfl) ⟨(by show _ ≤ 130; omega), (by show _ ≤ 320; omega)⟩ dX1_isSame_718 (fun r9 hr9 => ?_)
                                subst hr9
                                refine lv_iload_n hx hb dX1_isSame_721 rfl (lv_at hl 2 rfl) ?_
                                refine lv_if_ne (tgt := 729) hx hb dX1_isSame_722 (by decide) (fun c722 => ?_) (fun c722 => ?_)
                                · have c722n : ¬ N = 0 := fun h9 => c722 ((nI_eq (a := N) (b := 0) (by omega) (by omega)).mpr h9)
                                  refine lv_iload hx hb dX1_isSame_729 (lv_at hl 10 rfl) ?_
                                  refine lv_i2d hx hb dX1_isSame_731 ?_
                                  refine lv_iload_n hx hb dX1_isSame_732 rfl (lv_at hl 2 rfl) ?_
                                  refine lv_i2d hx hb dX1_isSame_733 ?_
                                  refine lv_ddiv hx hb dX1_isSame_734 (mean_fin hinv.1 (by omega)) ?_
                                  refine lv_dcmp hx hb dX1_isSame_735 ?_
                                  refine lv_if_ne (tgt := 743) hx hb dX1_isSame_736 (by decide) (fun c736 => ?_) (fun c736 => ?_)
                                  · exact absurd (mean_c1 hinv.1 c722n) c736
                                  · refine lv_iconst (v := 1) hx hb dX1_isSame_739 (by decide) ?_
                                    refine lv_goto (tgt := 744) hx hb dX1_isSame_740 (by decide) ?_
                                    refine W.widen (k := 130) (n := 320) (by omega) (by omega) ?_
                                    refine va_forget (fun q hq => hS.2.2 q hq) ?_
                                    exact W.zret hx hb hr rfl (fun t ht hW => ⟨⟨_, (), rfl, rfl, trivial⟩, sF hS ht⟩) (fun q hq => absurd hq List.not_mem_nil) dX1_isSame_744
                                · have c722n : N = 0 := (nI_eq (a := N) (b := 0) (by omega) (by omega)).mp c722
                                  refine lv_dconst0 hx hb dX1_isSame_725 ?_
                                  refine lv_goto (tgt := 735) hx hb dX1_isSame_726 (by decide) ?_
                                  refine lv_dcmp hx hb dX1_isSame_735 ?_
                                  refine lv_if_ne (tgt := 743) hx hb dX1_isSame_736 (by decide) (fun c736 => ?_) (fun c736 => ?_)
                                  · exact absurd (mean_c0 c722n) c736
                                  · refine lv_iconst (v := 1) hx hb dX1_isSame_739 (by decide) ?_
                                    refine lv_goto (tgt := 744) hx hb dX1_isSame_740 (by decide) ?_
                                    refine W.widen (k := 130) (n := 320) (by omega) (by omega) ?_
                                    refine va_forget (fun q hq => hS.2.2 q hq) ?_
                                    exact W.zret hx hb hr rfl (fun t ht hW => ⟨⟨_, (), rfl, rfl, trivial⟩, sF hS ht⟩) (fun q hq => absurd hq List.not_mem_nil) dX1_isSame_744
    · have c534n : ¬ 10 ≤ j := fun h9 => c534 ((nI_leI (a := 10) (b := j) (by omega) (by omega)).mpr h9)
      refine lv_aload_n hx hb dX1_isSame_537 rfl (lv_at hl 1 rfl) ?_
      refine lv_iload hx hb dX1_isSame_538 (lv_at hl 13 rfl) ?_
      refine cVi (As := [.int (nI j)]) (rest := []) hF (mX0_wordOf j (by omega)) C0.mv hC (C0.rc hC) jyX0_wordOf kl_RX1_96 ⟨rfl, rfl⟩ ⟨Nat.le_of_ble_eq_true rfl, Nat.le_of_ble_eq_true rfl⟩ rfl hl.1 rfl (Nat.le_of_ble_eq_true rfl) ⟨(by show _ ≤ 130; omega), (by show _ ≤ 320; omega)⟩ dX1_isSame_540 (fun r9 hr9 => ?_)
      subst hr9
      refine lv_aload_n hx hb dX1_isSame_543 rfl (lv_at hl 0 rfl) ?_
      refine S0.gW hF hX kf_RX1_15 dX1_isSame_544 ?_
      refine lv_iload hx hb dX1_isSame_547 (lv_at hl 13 rfl) ?_
      refine S0.ldW hF hX j (by omega) rfl dX1_isSame_549 ?_
      refine lv_icmp_ne (tgt := 567) hx hb dX1_isSame_550 (by decide) (fun c550 => ?_) (fun c550 => ?_)
      · exact absurd rfl c550
      · refine lv_aload_n hx hb dX1_isSame_553 rfl (lv_at hl 1 rfl) ?_
        refine lv_iload hx hb dX1_isSame_554 (lv_at hl 13 rfl) ?_
        refine cVi (As := [.int (nI j)]) (rest := []) hF (mX0_sungWith hinv.1 hde j (by omega)) C0.mv hC (C0.rc hC) jyX0_sungWith kl_RX1_99 ⟨rfl, rfl⟩ ⟨Nat.le_of_ble_eq_true rfl, Nat.le_of_ble_eq_true rfl⟩ rfl hl.1 rfl (Nat.le_of_ble_eq_true rfl) ⟨(by show _ ≤ 130; omega), (by show _ ≤ 320; omega)⟩ dX1_isSame_556 (fun r9 hr9 => ?_)
        subst hr9
        refine lv_aload hx hb dX1_isSame_559 (lv_at hl 12 rfl) ?_
        refine lv_iload hx hb dX1_isSame_561 (lv_at hl 13 rfl) ?_
        refine ldI hF hX.2.1 h_x3 j (by omega) (by decide) rfl dX1_isSame_563 ?_
        refine lv_icmp_eq (tgt := 569) hx hb dX1_isSame_564 (by decide) (fun c564 => ?_) (fun c564 => ?_)
        · refine lv_iinc (v := (nI (j + 1))) (lv' := [(14, .int (nI (j + 1))), (0, .ref sm), (1, .ref (q 0)), (2, .int (nI N)), (3, .ref x1), (4, .ref x2), (6, .int (sumI (v 1) N)), (7, .int (ctB (fold1 v st) N)), (8, .int (ctB (rtP v) N)), (9, .int (lo99 (v 0) st N)), (10, .int (hi9 (v 0) st N)), (11, .int (sumI (fun i => nt (v 0) st (i + 1)) N)), (12, .int (fam v st mk N)), (13, .ref x3)]) hx hb dX1_isSame_569 hl (k := 13) rfl (nI_1 _) (by decide) rfl (fun ls hl => ?_)
          refine lv_goto (tgt := 530) hx hb dX1_isSame_572 (by decide) ?_
          exact ih4 (j + 1) ls (by omega) ⟨by omega, by exact lv_sub hl [1, 2, 3, 4, 5, 6, 7, 8, 9, 10, 11, 12, 13, 0] rfl⟩
        · exact absurd (hk1.2.2.2 j (by omega)).symm c564
  · have c56n : ¬ N ≤ k := fun h9 => c56 ((nI_leI (a := N) (b := k) (by omega) (by omega)).mpr h9)
    obtain ⟨h, hh8, hhe⟩ : ∃ h : Nat, h < 8 ∧ hd (v 0) (k + 1) = nI h := ⟨ix (hd (v 0) (k + 1)), hd_ix8 hinv.1 _, hd_ix hinv.1 _⟩
    obtain ⟨l0, hl0, hle⟩ := hinv.2.1 k (by omega)
    obtain ⟨x0, hx0, hxe⟩ := hinv.2.2.1 (ix (v 2 k)) (okM10 hinv.1 k)
    refine lv_aload_n hx hb dX1_isSame_59 rfl (lv_at hl 0 rfl) ?_
    refine S0.gL hF hX kf_RX1_9 dX1_isSame_60 ?_
    refine lv_iload hx hb dX1_isSame_63 (lv_at hl 14 rfl) ?_
    refine S0.ldA hF hX k (by omega) rfl dX1_isSame_65 ?_
    refine lv_astore (lv' := [(15, .ref (a k)), (0, .ref sm), (1, .ref (q 0)), (2, .int (nI N)), (3, .ref x1), (4, .ref x2), (5, .int (hd (v 0) k)), (6, .int (sumI (v 1) k)), (7, .int (ctB (fold1 v st) k)), (8, .int (ctB (rtP v) k)), (9, .int (lo99 (v 0) st k)), (10, .int (hi9 (v 0) st k)), (11, .int (sumI (fun i => nt (v 0) st (i + 1)) k)), (12, .int (fam v st mk k)), (13, .ref x3), (14, .int (nI k))]) hx hb dX1_isSame_66 hl (by decide) rfl (fun ls hl => ?_)
    refine lv_aload_n hx hb dX1_isSame_68 rfl (lv_at hl 1 rfl) ?_
    refine lv_iload hx hb dX1_isSame_69 (lv_at hl 15 rfl) ?_
    have hlt_x1 := h_x1.lt
    have hlt_x2 := h_x2.lt
    have hlt_x3 := h_x3.lt
    refine wVr (mc := 1) (ms := 2) (As := [.int (nI k)]) (rest := []) hF (mX1_readingsF (sz := _) hok k (by omega)) XSz.mv (fun _ _ => YRd.mv) ⟨hX, rfl⟩ hX.rc jyX1_readings kl_RX1_35 ⟨rfl, rfl⟩ ⟨Nat.le_of_ble_eq_true rfl, Nat.le_of_ble_eq_true rfl⟩ rfl hl.1 rfl (Nat.le_of_ble_eq_true rfl) ⟨by show _ + 1 ≤ 130; omega, by show _ + 2 ≤ 320; omega⟩ hS (fun _ _ h => h.elim) (fun _ h => h.elim) dX1_isSame_71 (fun u9 x4 H locs hp9 hB9 hz hk hS => ?_)
    have ho : ∀ q : Nat, q < _ → H[q]? = _ := fun q h9 => hk q h9 (fun h => h)
    have hX := hX0.up hS
    have hC := C0.upS hC0 hS
    have h_x1 := h_x1.upK ho
    have h_x2 := h_x2.upK ho
    have h_x3 := h_x3.upK ho
    have h_x4 := hB9.1
    have n_x1_x4 : x1 ≠ x4 := Nat.ne_of_lt (Nat.lt_of_lt_of_le hlt_x1 hB9.2)
    have n_x4_x1 := Ne.symm n_x1_x4
    have n_x2_x4 : x2 ≠ x4 := Nat.ne_of_lt (Nat.lt_of_lt_of_le hlt_x2 hB9.2)
    have n_x4_x2 := Ne.symm n_x2_x4
    have n_x3_x4 : x3 ≠ x4 := Nat.ne_of_lt (Nat.lt_of_lt_of_le hlt_x3 hB9.2)
    have n_x4_x3 := Ne.symm n_x3_x4
    refine lv_astore (lv' := [(16, .ref x4), (15, .ref (a k)), (0, .ref sm), (1, .ref (q 0)), (2, .int (nI N)), (3, .ref x1), (4, .ref x2), (5, .int (hd (v 0) k)), (6, .int (sumI (v 1) k)), (7, .int (ctB (fold1 v st) k)), (8, .int (ctB (rtP v) k)), (9, .int (lo99 (v 0) st k)), (10, .int (hi9 (v 0) st k)), (11, .int (sumI (fun i => nt (v 0) st (i + 1)) k)), (12, .int (fam v st mk k)), (13, .ref x3), (14, .int (nI k))]) hx hb dX1_isSame_74 hl (by decide) rfl (fun ls hl => ?_)
    refine lv_iload hx hb dX1_isSame_76 (lv_at hl 7 rfl) ?_
    refine lv_aload hx hb dX1_isSame_78 (lv_at hl 1 rfl) ?_
    refine lv_iconst (v := 0) hx hb dX1_isSame_80 (by decide) ?_
    refine S0.ldR hF hX k (by omega) 0 (by decide) rfl dX1_isSame_81 ?_
    refine topI (show (rowV v st mk) k 0 = v 0 k from rfl) ?_
    refine lv_iadd hx hb dX1_isSame_82 ?_
    refine lv_bipush (v := 8) hx hb dX1_isSame_83 (by decide) ?_
    refine lv_iadd hx hb dX1_isSame_85 ?_
    refine lv_bipush (v := 8) hx hb dX1_isSame_86 (by decide) ?_
    refine lv_irem hx hb dX1_isSame_88 (by decide) ?_
    refine topI (show ((((hd (v 0) k) + (v 0 k)) + 8) - (((hd (v 0) k) + (v 0 k)) + 8) / 8 * 8) = nI h from (hd_s hinv.1 k).trans hhe) ?_
    refine lv_istore (lv' := [(5, .int (nI h)), (16, .ref x4), (15, .ref (a k)), (0, .ref sm), (1, .ref (q 0)), (2, .int (nI N)), (3, .ref x1), (4, .ref x2), (6, .int (sumI (v 1) k)), (7, .int (ctB (fold1 v st) k)), (8, .int (ctB (rtP v) k)), (9, .int (lo99 (v 0) st k)), (10, .int (hi9 (v 0) st k)), (11, .int (sumI (fun i => nt (v 0) st (i + 1)) k)), (12, .int (fam v st mk k)), (13, .ref x3), (14, .int (nI k))]) hx hb dX1_isSame_89 hl (by decide) rfl (fun ls hl => ?_)
    refine lv_aload_n hx hb dX1_isSame_91 rfl (lv_at hl 6 rfl) ?_
    refine lv_iload hx hb dX1_isSame_92 (lv_at hl 16 rfl) ?_
    refine lv_iconst (v := 1) hx hb dX1_isSame_94 (by decide) ?_
    refine lv_iadd hx hb dX1_isSame_95 ?_
    refine topI (show ((nI k) + 1) = nI (k + 1) from nI_1 k) ?_
    refine lv_aload_n hx hb dX1_isSame_96 rfl (lv_at hl 6 rfl) ?_
    refine lv_iload hx hb dX1_isSame_97 (lv_at hl 16 rfl) ?_
    refine ldI hF hX.2.1 h_x1 k (by omega) (by omega) rfl dX1_isSame_99 ?_
    refine stI hF hX.2.1 h_x1 hS hA_x1 (k + 1) (by omega) (by omega) rfl dX1_isSame_100 (fun H locs h_x1 hz oq hS => ?_)
    have hX := hX0.up hS
    have hC := C0.upS hC0 hS
    have h_x2 := h_x2.k (oq _ n_x2_x1)
    have h_x3 := h_x3.k (oq _ n_x3_x1)
    have h_x4 := h_x4.k (oq _ n_x4_x1)
    refine lv_aload hx hb dX1_isSame_101 (lv_at hl 7 rfl) ?_
    refine lv_iload hx hb dX1_isSame_103 (lv_at hl 16 rfl) ?_
    refine lv_iconst (v := 1) hx hb dX1_isSame_105 (by decide) ?_
    refine lv_iadd hx hb dX1_isSame_106 ?_
    refine topI (show ((nI k) + 1) = nI (k + 1) from nI_1 k) ?_
    refine lv_aload hx hb dX1_isSame_107 (lv_at hl 7 rfl) ?_
    refine lv_iload hx hb dX1_isSame_109 (lv_at hl 16 rfl) ?_
    refine ldI hF hX.2.1 h_x2 k (by omega) (by omega) rfl dX1_isSame_111 ?_
    refine stI hF hX.2.1 h_x2 hS hA_x2 (k + 1) (by omega) (by omega) rfl dX1_isSame_112 (fun H locs h_x2 hz oq hS => ?_)
    have hX := hX0.up hS
    have hC := C0.upS hC0 hS
    have h_x1 := h_x1.k (oq _ n_x1_x2)
    have h_x3 := h_x3.k (oq _ n_x3_x2)
    have h_x4 := h_x4.k (oq _ n_x4_x2)
    refine lv_iconst (v := 0) hx hb dX1_isSame_113 (by decide) ?_
    refine lv_istore (lv' := [(17, .int 0), (5, .int (nI h)), (16, .ref x4), (15, .ref (a k)), (0, .ref sm), (1, .ref (q 0)), (2, .int (nI N)), (3, .ref x1), (4, .ref x2), (6, .int (sumI (v 1) k)), (7, .int (ctB (fold1 v st) k)), (8, .int (ctB (rtP v) k)), (9, .int (lo99 (v 0) st k)), (10, .int (hi9 (v 0) st k)), (11, .int (sumI (fun i => nt (v 0) st (i + 1)) k)), (12, .int (fam v st mk k)), (13, .ref x3), (14, .int (nI k))]) hx hb dX1_isSame_114 hl (by decide) rfl (fun ls hl => ?_)
    refine W.widen (k := 3 + 4 * k + 1) (n := 60 + 8 * k + 2) (by omega) (by omega) ?_
    refine lpC (σ := Nat) (τ := (Nat → Int32) × (Nat → Int32)) (fun g0 g8 ls H locs => (g0 ≤ l0 + 1 ∧ (∀ i : Nat, i ≤ k → g8.1 i = px (v 0) (v 1) i) ∧ (∀ i : Nat, i ≤ k → g8.2 i = py (v 0) (v 1) i) ∧ g8.1 (k + 1) = px (v 0) (v 1) k + nI g0 * eaT h ∧ g8.2 (k + 1) = py (v 0) (v 1) k + nI g0 * noT h) ∧ (S0 D cyI cyA sm wd lg a N st (v 3) (rowV v st mk) s H) ∧ (C0 D cyI cyZ q (nI N) st v mk w s H) ∧ (IA cyI x1 (N + 1) g8.1 H) ∧ (IA cyI x2 (N + 1) g8.2 H) ∧ (IA cyI x3 10 u8.2.2 H) ∧ (IA cyI x4 2 (rd2 (rdn v st k) (rrn v st k)) H) ∧ va_S (fun q => s.heap.size ≤ q) s.heap H locs ∧ lv_has ls 19 [(0, .ref sm), (1, .ref (q 0)), (2, .int (nI N)), (3, .ref x1), (4, .ref x2), (5, .int (nI h)), (6, .int (sumI (v 1) k)), (7, .int (ctB (fold1 v st) k)), (8, .int (ctB (rtP v) k)), (9, .int (lo99 (v 0) st k)), (10, .int (hi9 (v 0) st k)), (11, .int (sumI (fun i => nt (v 0) st (i + 1)) k)), (12, .int (fam v st mk k)), (13, .ref x3), (14, .int (nI k)), (15, .ref (a k)), (16, .ref x4), (17, .int (nI g0))]) (fun g0 g8 => l0 + 1 - g0) (fun g0 => 3 + 4 * k + 1) (fun g0 => 60 + 8 * k + 2) (fun g0 g8 ls H locs hI ih2 => ?_) (0) (upd u8.1 (k + 1) (u8.1 k), upd u8.2.1 (k + 1) (u8.2.1 k)) ⟨⟨Nat.zero_le _, (go_0 (e := eaT h) hk1.2.1).1, (go_0 (e := noT h) hk1.2.2.1).1, (go_0 hk1.2.1).2, (go_0 hk1.2.2.1).2⟩, hX, hC, h_x1, h_x2, h_x3, h_x4, hS, lv_sub hl [4, 5, 6, 7, 8, 1, 9, 10, 11, 12, 13, 14, 15, 16, 17, 3, 2, 0] rfl⟩
    obtain ⟨hg, hX, hC, h_x1, h_x2, h_x3, h_x4, hS, hl⟩ := hI
    refine lv_iload hx hb dX1_isSame_116 (lv_at hl 17 rfl) ?_
    refine lv_aload hx hb dX1_isSame_118 (lv_at hl 15 rfl) ?_
    refine lv_iconst (v := 1) hx hb dX1_isSame_120 (by decide) ?_
    refine S0.ldR hF hX k (by omega) 1 (by decide) rfl dX1_isSame_121 ?_
    refine topI (show (rowV v st mk) k 1 = v 1 k from rfl) ?_
    refine topI (show (v 1 k) = nI (l0 + 1) from hle) ?_
    refine lv_icmp_ge (tgt := 211) hx hb dX1_isSame_122 (by decide) (fun c122 => ?_) (fun c122 => ?_)
    · have c122n : (l0 + 1) ≤ g0 := (nI_leI (a := (l0 + 1)) (b := g0) (by omega) (by omega)).mp c122
      have hg9 : g0 = l0 + 1 := by omega
      subst hg9
      have hG1 := go_ex hh8 hhe hle ⟨hg.2.1, hg.2.2.2.1⟩
      have hG2 := go_ey hh8 hhe hle ⟨hg.2.2.1, hg.2.2.2.2⟩
      refine lv_iconst (v := 0) hx hb dX1_isSame_211 (by decide) ?_
      refine lv_istore (lv' := [(17, .int 0), (0, .ref sm), (1, .ref (q 0)), (2, .int (nI N)), (3, .ref x1), (4, .ref x2), (5, .int (nI h)), (6, .int (sumI (v 1) k)), (7, .int (ctB (fold1 v st) k)), (8, .int (ctB (rtP v) k)), (9, .int (lo99 (v 0) st k)), (10, .int (hi9 (v 0) st k)), (11, .int (sumI (fun i => nt (v 0) st (i + 1)) k)), (12, .int (fam v st mk k)), (13, .ref x3), (14, .int (nI k)), (15, .ref (a k)), (16, .ref x4)]) hx hb dX1_isSame_212 hl (by decide) rfl (fun ls hl => ?_)
      refine lv_iconst (v := 0) hx hb dX1_isSame_214 (by decide) ?_
      refine lv_istore (lv' := [(18, .int 0), (17, .int 0), (0, .ref sm), (1, .ref (q 0)), (2, .int (nI N)), (3, .ref x1), (4, .ref x2), (5, .int (nI h)), (6, .int (sumI (v 1) k)), (7, .int (ctB (fold1 v st) k)), (8, .int (ctB (rtP v) k)), (9, .int (lo99 (v 0) st k)), (10, .int (hi9 (v 0) st k)), (11, .int (sumI (fun i => nt (v 0) st (i + 1)) k)), (12, .int (fam v st mk k)), (13, .ref x3), (14, .int (nI k)), (15, .ref (a k)), (16, .ref x4)]) hx hb dX1_isSame_215 hl (by decide) rfl (fun ls hl => ?_)
      refine lpW (σ := Nat) (fun o ls => (o ≤ k + 1) ∧ lv_has ls 19 [(0, .ref sm), (1, .ref (q 0)), (2, .int (nI N)), (3, .ref x1), (4, .ref x2), (5, .int (nI h)), (6, .int (sumI (v 1) k)), (7, .int (ctB (fold1 v st) k)), (8, .int (ctB (rtP v) k)), (9, .int (lo99 (v 0) st k)), (10, .int (hi9 (v 0) st k)), (11, .int (sumI (fun i => nt (v 0) st (i + 1)) k)), (12, .int (fam v st mk k)), (13, .ref x3), (14, .int (nI k)), (15, .ref (a k)), (16, .ref x4), (17, .int (b2i (exB (rtE v k) o))), (18, .int (nI o))]) (fun o => k + 1 - o) (fun o ls hI ih3 => ?_) (0) ⟨Nat.zero_le _, lv_sub hl [2, 3, 4, 5, 6, 7, 8, 9, 10, 11, 12, 13, 14, 15, 16, 17, 18, 1, 0] rfl⟩
      obtain ⟨ho9, hl⟩ := hI
      refine lv_iload hx hb dX1_isSame_217 (lv_at hl 18 rfl) ?_
      refine lv_iload hx hb dX1_isSame_219 (lv_at hl 14 rfl) ?_
      refine lv_icmp_gt (tgt := 268) hx hb dX1_isSame_221 (by decide) (fun c221 => ?_) (fun c221 => ?_)
      · have c221n : k < o := (nI_ltI (a := k) (b := o) (by omega) (by omega)).mp c221
        have ho9 : o = k + 1 := by omega
        subst ho9
        refine lv_iload hx hb dX1_isSame_268 (lv_at hl 8 rfl) ?_
        refine lv_iload hx hb dX1_isSame_270 (lv_at hl 17 rfl) ?_
        refine lv_if_eq (tgt := 279) hx hb dX1_isSame_272 (by decide) (fun c272 => ?_) (fun c272 => ?_)
        · have c272b := b2i_f c272
          refine lv_iconst (v := 0) hx hb dX1_isSame_279 (by decide) ?_
          refine lv_iadd hx hb dX1_isSame_280 ?_
          refine topI (show ((ctB (rtP v) k) + 0) = ctB (rtP v) (k + 1) from ctB_f' c272b) ?_
          refine lv_istore (lv' := [(8, .int (ctB (rtP v) (k + 1))), (0, .ref sm), (1, .ref (q 0)), (2, .int (nI N)), (3, .ref x1), (4, .ref x2), (5, .int (nI h)), (6, .int (sumI (v 1) k)), (7, .int (ctB (fold1 v st) k)), (9, .int (lo99 (v 0) st k)), (10, .int (hi9 (v 0) st k)), (11, .int (sumI (fun i => nt (v 0) st (i + 1)) k)), (12, .int (fam v st mk k)), (13, .ref x3), (14, .int (nI k)), (15, .ref (a k)), (16, .ref x4), (17, .int (b2i (exB (rtE v k) (k + 1)))), (18, .int (nI (k + 1)))]) hx hb dX1_isSame_281 hl (by decide) rfl (fun ls hl => ?_)
          refine lv_iload hx hb dX1_isSame_283 (lv_at hl 7 rfl) ?_
          refine lv_aload hx hb dX1_isSame_285 (lv_at hl 15 rfl) ?_
          refine lv_iconst (v := 1) hx hb dX1_isSame_287 (by decide) ?_
          refine S0.ldR hF hX k (by omega) 1 (by decide) rfl dX1_isSame_288 ?_
          refine topI (show (rowV v st mk) k 1 = v 1 k from rfl) ?_
          refine lv_iadd hx hb dX1_isSame_289 ?_
          refine lv_istore (lv' := [(6, .int ((sumI (v 1) k) + (v 1 k))), (8, .int (ctB (rtP v) (k + 1))), (0, .ref sm), (1, .ref (q 0)), (2, .int (nI N)), (3, .ref x1), (4, .ref x2), (5, .int (nI h)), (7, .int (ctB (fold1 v st) k)), (9, .int (lo99 (v 0) st k)), (10, .int (hi9 (v 0) st k)), (11, .int (sumI (fun i => nt (v 0) st (i + 1)) k)), (12, .int (fam v st mk k)), (13, .ref x3), (14, .int (nI k)), (15, .ref (a k)), (16, .ref x4), (17, .int (b2i (exB (rtE v k) (k + 1)))), (18, .int (nI (k + 1)))]) hx hb dX1_isSame_290 hl (by decide) rfl (fun ls hl => ?_)
          refine lv_iload hx hb dX1_isSame_292 (lv_at hl 8 rfl) ?_
          refine lv_aload hx hb dX1_isSame_294 (lv_at hl 15 rfl) ?_
          refine lv_iconst (v := 4) hx hb dX1_isSame_296 (by decide) ?_
          refine S0.ldR hF hX k (by omega) 4 (by decide) rfl dX1_isSame_297 ?_
          refine topI (show (rowV v st mk) k 4 = b2i (fold1 v st k) from rfl) ?_
          refine lv_iadd hx hb dX1_isSame_298 ?_
          refine topI (show ((ctB (fold1 v st) k) + (b2i (fold1 v st k))) = ctB (fold1 v st) (k + 1) from ct_b2i _ _) ?_
          refine lv_istore (lv' := [(7, .int (ctB (fold1 v st) (k + 1))), (6, .int ((sumI (v 1) k) + (v 1 k))), (8, .int (ctB (rtP v) (k + 1))), (0, .ref sm), (1, .ref (q 0)), (2, .int (nI N)), (3, .ref x1), (4, .ref x2), (5, .int (nI h)), (9, .int (lo99 (v 0) st k)), (10, .int (hi9 (v 0) st k)), (11, .int (sumI (fun i => nt (v 0) st (i + 1)) k)), (12, .int (fam v st mk k)), (13, .ref x3), (14, .int (nI k)), (15, .ref (a k)), (16, .ref x4), (17, .int (b2i (exB (rtE v k) (k + 1)))), (18, .int (nI (k + 1)))]) hx hb dX1_isSame_299 hl (by decide) rfl (fun ls hl => ?_)
          refine lv_iload hx hb dX1_isSame_301 (lv_at hl 9 rfl) ?_
          refine lv_aload hx hb dX1_isSame_303 (lv_at hl 15 rfl) ?_
          refine lv_iconst (v := 3) hx hb dX1_isSame_305 (by decide) ?_
          refine S0.ldR hF hX k (by omega) 3 (by decide) rfl dX1_isSame_306 ?_
          refine topI (show (rowV v st mk) k 3 = nt (v 0) st (k + 1) from rfl) ?_
          refine va_mmin hx hb (hml.trans hl.1.symm) hown (hts _ kl_RX1_57) (hts _ ks_LM_min_name) (hts _ kn_Math) (hts _ kd_LM_min_name) (Nat.le_of_ble_eq_true rfl) (Nat.le_of_ble_eq_true rfl) (by show _ ≤ 130; omega) (by show _ ≤ 320; omega) dX1_isSame_307 ?_
          refine topI (show (mn (lo99 (v 0) st k) (nt (v 0) st (k + 1))) = lo99 (v 0) st (k + 1) from lo99_s hinv.1 k) ?_
          refine lv_istore (lv' := [(9, .int (lo99 (v 0) st (k + 1))), (7, .int (ctB (fold1 v st) (k + 1))), (6, .int ((sumI (v 1) k) + (v 1 k))), (8, .int (ctB (rtP v) (k + 1))), (0, .ref sm), (1, .ref (q 0)), (2, .int (nI N)), (3, .ref x1), (4, .ref x2), (5, .int (nI h)), (10, .int (hi9 (v 0) st k)), (11, .int (sumI (fun i => nt (v 0) st (i + 1)) k)), (12, .int (fam v st mk k)), (13, .ref x3), (14, .int (nI k)), (15, .ref (a k)), (16, .ref x4), (17, .int (b2i (exB (rtE v k) (k + 1)))), (18, .int (nI (k + 1)))]) hx hb dX1_isSame_310 hl (by decide) rfl (fun ls hl => ?_)
          refine lv_iload hx hb dX1_isSame_312 (lv_at hl 10 rfl) ?_
          refine lv_aload hx hb dX1_isSame_314 (lv_at hl 15 rfl) ?_
          refine lv_iconst (v := 3) hx hb dX1_isSame_316 (by decide) ?_
          refine S0.ldR hF hX k (by omega) 3 (by decide) rfl dX1_isSame_317 ?_
          refine topI (show (rowV v st mk) k 3 = nt (v 0) st (k + 1) from rfl) ?_
          refine va_mmax hx hb (hml.trans hl.1.symm) hown (hts _ kl_RX1_62) (hts _ ks_LM_max_name) (hts _ kn_Math) (hts _ kd_LM_max_name) (Nat.le_of_ble_eq_true rfl) (Nat.le_of_ble_eq_true rfl) (by show _ ≤ 130; omega) (by show _ ≤ 320; omega) dX1_isSame_318 ?_
          refine lv_istore (lv' := [(10, .int (mx (hi9 (v 0) st k) (nt (v 0) st (k + 1)))), (9, .int (lo99 (v 0) st (k + 1))), (7, .int (ctB (fold1 v st) (k + 1))), (6, .int ((sumI (v 1) k) + (v 1 k))), (8, .int (ctB (rtP v) (k + 1))), (0, .ref sm), (1, .ref (q 0)), (2, .int (nI N)), (3, .ref x1), (4, .ref x2), (5, .int (nI h)), (11, .int (sumI (fun i => nt (v 0) st (i + 1)) k)), (12, .int (fam v st mk k)), (13, .ref x3), (14, .int (nI k)), (15, .ref (a k)), (16, .ref x4), (17, .int (b2i (exB (rtE v k) (k + 1)))), (18, .int (nI (k + 1)))]) hx hb dX1_isSame_321 hl (by decide) rfl (fun ls hl => ?_)
          refine lv_iload hx hb dX1_isSame_323 (lv_at hl 11 rfl) ?_
          refine lv_aload hx hb dX1_isSame_325 (lv_at hl 15 rfl) ?_
          refine lv_iconst (v := 3) hx hb dX1_isSame_327 (by decide) ?_
          refine S0.ldR hF hX k (by omega) 3 (by decide) rfl dX1_isSame_328 ?_
          refine topI (show (rowV v st mk) k 3 = nt (v 0) st (k + 1) from rfl) ?_
          refine lv_iadd hx hb dX1_isSame_329 ?_
          refine lv_istore (lv' := [(11, .int ((sumI (fun i => nt (v 0) st (i + 1)) k) + (nt (v 0) st (k + 1)))), (10, .int (mx (hi9 (v 0) st k) (nt (v 0) st (k + 1)))), (9, .int (lo99 (v 0) st (k + 1))), (7, .int (ctB (fold1 v st) (k + 1))), (6, .int ((sumI (v 1) k) + (v 1 k))), (8, .int (ctB (rtP v) (k + 1))), (0, .ref sm), (1, .ref (q 0)), (2, .int (nI N)), (3, .ref x1), (4, .ref x2), (5, .int (nI h)), (12, .int (fam v st mk k)), (13, .ref x3), (14, .int (nI k)), (15, .ref (a k)), (16, .ref x4), (17, .int (b2i (exB (rtE v k) (k + 1)))), (18, .int (nI (k + 1)))]) hx hb dX1_isSame_330 hl (by decide) rfl (fun ls hl => ?_)
          refine lv_aload hx hb dX1_isSame_332 (lv_at hl 13 rfl) ?_
          refine lv_aload_n hx hb dX1_isSame_334 rfl (lv_at hl 6 rfl) ?_
          refine S0.gW hF hX kf_RX1_15 dX1_isSame_335 ?_
          refine lv_aload hx hb dX1_isSame_338 (lv_at hl 15 rfl) ?_
          refine lv_iconst (v := 2) hx hb dX1_isSame_340 (by decide) ?_
          refine S0.ldR hF hX k (by omega) 2 (by decide) rfl dX1_isSame_341 ?_
          refine topI (show (rowV v st mk) k 2 = v 2 k from rfl) ?_
          refine S0.ldW hF hX (ix (v 2 k)) (okM10 hok k) (okM hok k) dX1_isSame_342 ?_
          refine topI (show ((v 3) (ix (v 2 k))) = nI x0 from hxe) ?_
          refine lv_dup2_11 hx hb dX1_isSame_343 rfl rfl ?_
          refine ldI hF hX.2.1 h_x3 x0 (by omega) (by decide) rfl dX1_isSame_344 ?_
          refine lv_iconst (v := 1) hx hb dX1_isSame_345 (by decide) ?_
          refine lv_iadd hx hb dX1_isSame_346 ?_
          refine stI hF hX.2.1 h_x3 hS hA_x3 x0 (by omega) (by decide) rfl dX1_isSame_347 (fun H locs h_x3 hz oq hS => ?_)
          have hX := hX0.up hS
          have hC := C0.upS hC0 hS
          have h_x1 := h_x1.k (oq _ n_x1_x3)
          have h_x2 := h_x2.k (oq _ n_x2_x3)
          have h_x4 := h_x4.k (oq _ n_x4_x3)
          refine lv_iload hx hb dX1_isSame_348 (lv_at hl 12 rfl) ?_
          refine lv_if_ge (tgt := 366) hx hb dX1_isSame_350 (by decide) (fun c350 => ?_) (fun c350 => ?_)
          · refine lv_aload_n hx hb dX1_isSame_366 rfl (lv_at hl 7 rfl) ?_
            refine lv_iload hx hb dX1_isSame_367 (lv_at hl 14 rfl) ?_
            refine cVi (As := [.int (nI k)]) (rest := []) hF (mX0_turnOf hinv.1 hde k (by omega)) C0.mv hC (C0.rc hC) jyX0_turnOf kl_RX1_65 ⟨rfl, rfl⟩ ⟨Nat.le_of_ble_eq_true rfl, Nat.le_of_ble_eq_true rfl⟩ rfl hl.1 rfl (Nat.le_of_ble_eq_true rfl) ⟨(by show _ ≤ 130; omega), (by show _ ≤ 320; omega)⟩ dX1_isSame_369 (fun r9 hr9 => ?_)
            subst hr9
            refine lv_aload hx hb dX1_isSame_372 (lv_at hl 15 rfl) ?_
            refine lv_iconst (v := 0) hx hb dX1_isSame_374 (by decide) ?_
            refine S0.ldR hF hX k (by omega) 0 (by decide) rfl dX1_isSame_375 ?_
            refine topI (show (rowV v st mk) k 0 = v 0 k from rfl) ?_
            refine lv_icmp_ne (tgt := 519) hx hb dX1_isSame_376 (by decide) (fun c376 => ?_) (fun c376 => ?_)
            · exact absurd rfl c376
            · refine lv_aload_n hx hb dX1_isSame_379 rfl (lv_at hl 7 rfl) ?_
              refine lv_iload hx hb dX1_isSame_380 (lv_at hl 14 rfl) ?_
              refine cVi (As := [.int (nI k)]) (rest := []) hF (mX0_headingOf hinv.1 hde k (by omega)) C0.mv hC (C0.rc hC) jyX0_headingOf kl_RX1_70 ⟨rfl, rfl⟩ ⟨Nat.le_of_ble_eq_true rfl, Nat.le_of_ble_eq_true rfl⟩ rfl hl.1 rfl (Nat.le_of_ble_eq_true rfl) ⟨(by show _ ≤ 130; omega), (by show _ ≤ 320; omega)⟩ dX1_isSame_382 (fun r9 hr9 => ?_)
              subst hr9
              rw [hhe]
              refine lv_iload hx hb dX1_isSame_385 (lv_at hl 11 rfl) ?_
              refine lv_icmp_ne (tgt := 519) hx hb dX1_isSame_387 (by decide) (fun c387 => ?_) (fun c387 => ?_)
              · have c387n : ¬ h = h := fun h9 => c387 ((nI_eq (a := h) (b := h) (by omega) (by omega)).mpr h9)
                exact absurd rfl c387
              · have c387n : h = h := (nI_eq (a := h) (b := h) (by omega) (by omega)).mp c387
                refine lv_aload_n hx hb dX1_isSame_390 rfl (lv_at hl 7 rfl) ?_
                refine lv_iload hx hb dX1_isSame_391 (lv_at hl 14 rfl) ?_
                refine cVi (As := [.int (nI k)]) (rest := []) hF (mX0_landmarkOf hinv.1 hde k (by omega)) C0.mv hC (C0.rc hC) jyX0_landmarkOf kl_RX1_73 ⟨rfl, rfl⟩ ⟨Nat.le_of_ble_eq_true rfl, Nat.le_of_ble_eq_true rfl⟩ rfl hl.1 rfl (Nat.le_of_ble_eq_true rfl) ⟨(by show _ ≤ 130; omega), (by show _ ≤ 320; omega)⟩ dX1_isSame_393 (fun r9 hr9 => ?_)
                subst hr9
                refine lv_aload hx hb dX1_isSame_396 (lv_at hl 15 rfl) ?_
                refine lv_iconst (v := 2) hx hb dX1_isSame_398 (by decide) ?_
                refine S0.ldR hF hX k (by omega) 2 (by decide) rfl dX1_isSame_399 ?_
                refine topI (show (rowV v st mk) k 2 = v 2 k from rfl) ?_
                refine lv_icmp_ne (tgt := 519) hx hb dX1_isSame_400 (by decide) (fun c400 => ?_) (fun c400 => ?_)
                · exact absurd rfl c400
                · refine lv_aload_n hx hb dX1_isSame_403 rfl (lv_at hl 7 rfl) ?_
                  refine lv_iload hx hb dX1_isSame_404 (lv_at hl 14 rfl) ?_
                  refine cVi (As := [.int (nI k)]) (rest := []) hF (mX0_noteOf hinv.1 hde k (by omega)) C0.mv hC (C0.rc hC) jyX0_noteOf kl_RX1_76 ⟨rfl, rfl⟩ ⟨Nat.le_of_ble_eq_true rfl, Nat.le_of_ble_eq_true rfl⟩ rfl hl.1 rfl (Nat.le_of_ble_eq_true rfl) ⟨(by show _ ≤ 130; omega), (by show _ ≤ 320; omega)⟩ dX1_isSame_406 (fun r9 hr9 => ?_)
                  subst hr9
                  refine lv_aload hx hb dX1_isSame_409 (lv_at hl 15 rfl) ?_
                  refine lv_iconst (v := 3) hx hb dX1_isSame_411 (by decide) ?_
                  refine S0.ldR hF hX k (by omega) 3 (by decide) rfl dX1_isSame_412 ?_
                  refine topI (show (rowV v st mk) k 3 = nt (v 0) st (k + 1) from rfl) ?_
                  refine lv_icmp_ne (tgt := 519) hx hb dX1_isSame_413 (by decide) (fun c413 => ?_) (fun c413 => ?_)
                  · exact absurd rfl c413
                  · refine lv_aload_n hx hb dX1_isSame_416 rfl (lv_at hl 7 rfl) ?_
                    refine lv_iload hx hb dX1_isSame_417 (lv_at hl 14 rfl) ?_
                    refine cVi (As := [.int (nI k)]) (rest := []) hF (mX0_isFolded hinv.1 hde k (by omega)) C0.mv hC (C0.rc hC) jyX0_isFolded kl_RX1_79 ⟨rfl, rfl⟩ ⟨Nat.le_of_ble_eq_true rfl, Nat.le_of_ble_eq_true rfl⟩ rfl hl.1 rfl (Nat.le_of_ble_eq_true rfl) ⟨(by show _ ≤ 130; omega), (by show _ ≤ 320; omega)⟩ dX1_isSame_419 (fun r9 hr9 => ?_)
                    subst hr9
                    refine lv_aload hx hb dX1_isSame_422 (lv_at hl 15 rfl) ?_
                    refine lv_iconst (v := 4) hx hb dX1_isSame_424 (by decide) ?_
                    refine S0.ldR hF hX k (by omega) 4 (by decide) rfl dX1_isSame_425 ?_
                    refine topI (show (rowV v st mk) k 4 = b2i (fold1 v st k) from rfl) ?_
                    refine lv_iconst (v := 1) hx hb dX1_isSame_426 (by decide) ?_
                    refine lv_icmp_ne (tgt := 434) hx hb dX1_isSame_427 (by decide) (fun c427 => ?_) (fun c427 => ?_)
                    · refine lv_iconst (v := 0) hx hb dX1_isSame_434 (by decide) ?_
                      refine lv_icmp_ne (tgt := 519) hx hb dX1_isSame_435 (by decide) (fun c435 => ?_) (fun c435 => ?_)
                      · have c435b := b2i_t c435
                        exact absurd (by rw [b2i_n1 c427]; rfl) c435
                      · have c435b := b2i_f c435
                        refine lv_aload_n hx hb dX1_isSame_438 rfl (lv_at hl 7 rfl) ?_
                        refine lv_iload hx hb dX1_isSame_439 (lv_at hl 14 rfl) ?_
                        refine cVi (As := [.int (nI k)]) (rest := []) hF (mX0_wordIn hinv.1 hde k (by omega)) C0.mv hC (C0.rc hC) jyX0_wordIn kl_RX1_82 ⟨rfl, rfl⟩ ⟨Nat.le_of_ble_eq_true rfl, Nat.le_of_ble_eq_true rfl⟩ rfl hl.1 rfl (Nat.le_of_ble_eq_true rfl) ⟨(by show _ ≤ 130; omega), (by show _ ≤ 320; omega)⟩ dX1_isSame_441 (fun r9 hr9 => ?_)
                        subst hr9
                        refine lv_aload_n hx hb dX1_isSame_444 rfl (lv_at hl 6 rfl) ?_
                        refine S0.gW hF hX kf_RX1_15 dX1_isSame_445 ?_
                        refine lv_aload hx hb dX1_isSame_448 (lv_at hl 15 rfl) ?_
                        refine lv_iconst (v := 2) hx hb dX1_isSame_450 (by decide) ?_
                        refine S0.ldR hF hX k (by omega) 2 (by decide) rfl dX1_isSame_451 ?_
                        refine topI (show (rowV v st mk) k 2 = v 2 k from rfl) ?_
                        refine S0.ldW hF hX (ix (v 2 k)) (okM10 hok k) (okM hok k) dX1_isSame_452 ?_
                        refine lv_icmp_ne (tgt := 519) hx hb dX1_isSame_453 (by decide) (fun c453 => ?_) (fun c453 => ?_)
                        · exact absurd rfl c453
                        · refine lv_aload_n hx hb dX1_isSame_456 rfl (lv_at hl 7 rfl) ?_
                          refine lv_iload hx hb dX1_isSame_457 (lv_at hl 14 rfl) ?_
                          refine cVi (As := [.int (nI k)]) (rest := []) hF (mX0_readings hinv.1 hde k (by omega)) C0.mv hC (C0.rc hC) jyX0_readings kl_RX1_85 ⟨rfl, rfl⟩ ⟨Nat.le_of_ble_eq_true rfl, Nat.le_of_ble_eq_true rfl⟩ rfl hl.1 rfl (Nat.le_of_ble_eq_true rfl) ⟨(by show _ ≤ 130; omega), (by show _ ≤ 320; omega)⟩ dX1_isSame_459 (fun r9 hr9 => ?_)
                          subst hr9
                          refine lv_aload hx hb dX1_isSame_462 (lv_at hl 16 rfl) ?_
                          refine lv_iconst (v := 0) hx hb dX1_isSame_464 (by decide) ?_
                          refine ldI hF hX.2.1 h_x4 0 (by decide) (by decide) rfl dX1_isSame_465 ?_
                          refine lv_icmp_ne (tgt := 519) hx hb dX1_isSame_466 (by decide) (fun c466 => ?_) (fun c466 => ?_)
                          · exact absurd rfl c466
                          · refine lv_aload_n hx hb dX1_isSame_469 rfl (lv_at hl 7 rfl) ?_
                            refine lv_iload hx hb dX1_isSame_470 (lv_at hl 14 rfl) ?_
                            refine cVi (As := [.int (nI k)]) (rest := []) hF (mX0_rightReading hinv.1 hde k (by omega)) C0.mv hC (C0.rc hC) jyX0_rightReading kl_RX1_87 ⟨rfl, rfl⟩ ⟨Nat.le_of_ble_eq_true rfl, Nat.le_of_ble_eq_true rfl⟩ rfl hl.1 rfl (Nat.le_of_ble_eq_true rfl) ⟨(by show _ ≤ 130; omega), (by show _ ≤ 320; omega)⟩ dX1_isSame_472 (fun r9 hr9 => ?_)
                            subst hr9
                            refine lv_aload hx hb dX1_isSame_475 (lv_at hl 16 rfl) ?_
                            refine lv_iconst (v := 1) hx hb dX1_isSame_477 (by decide) ?_
                            refine ldI hF hX.2.1 h_x4 1 (by decide) (by decide) rfl dX1_isSame_478 ?_
                            refine lv_icmp_ne (tgt := 519) hx hb dX1_isSame_479 (by decide) (fun c479 => ?_) (fun c479 => ?_)
                            · exact absurd rfl c479
                            · refine lv_aload_n hx hb dX1_isSame_482 rfl (lv_at hl 7 rfl) ?_
                              refine lv_iload hx hb dX1_isSame_483 (lv_at hl 14 rfl) ?_
                              refine cVi (As := [.int (nI k)]) (rest := []) hF (mX0_isAmbiguous hinv.1 hde k (by omega)) C0.mv hC (C0.rc hC) jyX0_isAmbiguous kl_RX1_90 ⟨rfl, rfl⟩ ⟨Nat.le_of_ble_eq_true rfl, Nat.le_of_ble_eq_true rfl⟩ rfl hl.1 rfl (Nat.le_of_ble_eq_true rfl) ⟨(by show _ ≤ 130; omega), (by show _ ≤ 320; omega)⟩ dX1_isSame_485 (fun r9 hr9 => ?_)
                              subst hr9
                              refine lv_aload_n hx hb dX1_isSame_488 rfl (lv_at hl 6 rfl) ?_
                              refine lv_iload hx hb dX1_isSame_489 (lv_at hl 14 rfl) ?_
                              refine wVi (mc := 1) (ms := 2) (As := [.int (nI k)]) (rest := [.int (b2i (amb v st mk k))]) hF (mX1_isOpen hok k (by omega)) S0.mv (fun _ => Mv.const) hX hX.rc jyX1_isOpen kl_RX1_39 ⟨rfl, rfl⟩ ⟨Nat.le_of_ble_eq_true rfl, Nat.le_of_ble_eq_true rfl⟩ rfl hl.1 rfl (Nat.le_of_ble_eq_true rfl) ⟨by show _ + 1 ≤ 130; omega, by show _ + 2 ≤ 320; omega⟩ hS (fun _ _ h => h.elim) (fun _ h => h.elim) dX1_isSame_491 (fun r9 u9 H locs hp9 hB9 hz hk hS => ?_)
                              have ho : ∀ q : Nat, q < _ → H[q]? = _ := fun q h9 => hk q h9 (fun h => h)
                              have hX := hX0.up hS
                              have hC := C0.upS hC0 hS
                              have h_x1 := h_x1.upK ho
                              have h_x2 := h_x2.upK ho
                              have h_x3 := h_x3.upK ho
                              have h_x4 := h_x4.upK ho
                              subst hp9
                              refine lv_icmp_ne (tgt := 519) hx hb dX1_isSame_494 (by decide) (fun c494 => ?_) (fun c494 => ?_)
                              · exact absurd rfl c494
                              · refine lv_aload_n hx hb dX1_isSame_497 rfl (lv_at hl 7 rfl) ?_
                                refine lv_iload hx hb dX1_isSame_498 (lv_at hl 14 rfl) ?_
                                refine cVi (As := [.int (nI k)]) (rest := []) hF (mX0_isMended hinv.1 hde k (by omega)) C0.mv hC (C0.rc hC) jyX0_isMended kl_RX1_93 ⟨rfl, rfl⟩ ⟨Nat.le_of_ble_eq_true rfl, Nat.le_of_ble_eq_true rfl⟩ rfl hl.1 rfl (Nat.le_of_ble_eq_true rfl) ⟨(by show _ ≤ 130; omega), (by show _ ≤ 320; omega)⟩ dX1_isSame_500 (fun r9 hr9 => ?_)
                                subst hr9
                                refine lv_aload hx hb dX1_isSame_503 (lv_at hl 15 rfl) ?_
                                refine lv_iconst (v := 5) hx hb dX1_isSame_505 (by decide) ?_
                                refine S0.ldR hF hX k (by omega) 5 (by decide) rfl dX1_isSame_506 ?_
                                refine topI (show (rowV v st mk) k 5 = b2i (mk k) from rfl) ?_
                                refine lv_iconst (v := 1) hx hb dX1_isSame_507 (by decide) ?_
                                refine lv_icmp_ne (tgt := 515) hx hb dX1_isSame_508 (by decide) (fun c508 => ?_) (fun c508 => ?_)
                                · refine lv_iconst (v := 0) hx hb dX1_isSame_515 (by decide) ?_
                                  refine lv_icmp_eq (tgt := 521) hx hb dX1_isSame_516 (by decide) (fun c516 => ?_) (fun c516 => ?_)
                                  · have c516b := b2i_f c516
                                    refine lv_iinc (v := (nI (k + 1))) (lv' := [(14, .int (nI (k + 1))), (11, .int ((sumI (fun i => nt (v 0) st (i + 1)) k) + (nt (v 0) st (k + 1)))), (10, .int (mx (hi9 (v 0) st k) (nt (v 0) st (k + 1)))), (9, .int (lo99 (v 0) st (k + 1))), (7, .int (ctB (fold1 v st) (k + 1))), (6, .int ((sumI (v 1) k) + (v 1 k))), (8, .int (ctB (rtP v) (k + 1))), (0, .ref sm), (1, .ref (q 0)), (2, .int (nI N)), (3, .ref x1), (4, .ref x2), (5, .int (nI h)), (12, .int (fam v st mk k)), (13, .ref x3), (15, .ref (a k)), (16, .ref x4), (17, .int (b2i (exB (rtE v k) (k + 1)))), (18, .int (nI (k + 1)))]) hx hb dX1_isSame_521 hl (k := 14) rfl (nI_1 _) (by decide) rfl (fun ls hl => ?_)
                                    refine lv_goto (tgt := 53) hx hb dX1_isSame_524 (by decide) ?_
                                    refine W.widen (k := 3 + 4 * (k + 1)) (n := 60 + 8 * (k + 1)) (by omega) (by omega) ?_
                                    exact ih1 (k + 1) (g8.1, g8.2, (upd u8.2.2 x0 ((u8.2.2 x0) + 1))) ls H locs (by omega) ⟨⟨by omega, hG1, hG2, sung_s hx0 hxe hk1.2.2.2⟩, hX, hC, h_x1, h_x2, h_x3, hS, by rw [hhe, fam_s1 (by omega) c350]; exact lv_sub hl [7, 8, 9, 10, 11, 12, 5, 4, 6, 3, 2, 1, 13, 14, 0] rfl⟩
                                  · have c516b := b2i_t c516
                                    exact absurd (by rw [b2i_n1 c508]; rfl) c516
                                · refine lv_iconst (v := 1) hx hb dX1_isSame_511 (by decide) ?_
                                  refine lv_goto (tgt := 516) hx hb dX1_isSame_512 (by decide) ?_
                                  refine lv_icmp_eq (tgt := 521) hx hb dX1_isSame_516 (by decide) (fun c516 => ?_) (fun c516 => ?_)
                                  · refine lv_iinc (v := (nI (k + 1))) (lv' := [(14, .int (nI (k + 1))), (11, .int ((sumI (fun i => nt (v 0) st (i + 1)) k) + (nt (v 0) st (k + 1)))), (10, .int (mx (hi9 (v 0) st k) (nt (v 0) st (k + 1)))), (9, .int (lo99 (v 0) st (k + 1))), (7, .int (ctB (fold1 v st) (k + 1))), (6, .int ((sumI (v 1) k) + (v 1 k))), (8, .int (ctB (rtP v) (k + 1))), (0, .ref sm), (1, .ref (q 0)), (2, .int (nI N)), (3, .ref x1), (4, .ref x2), (5, .int (nI h)), (12, .int (fam v st mk k)), (13, .ref x3), (15, .ref (a k)), (16, .ref x4), (17, .int (b2i (exB (rtE v k) (k + 1)))), (18, .int (nI (k + 1)))]) hx hb dX1_isSame_521 hl (k := 14) rfl (nI_1 _) (by decide) rfl (fun ls hl => ?_)
                                    refine lv_goto (tgt := 53) hx hb dX1_isSame_524 (by decide) ?_
                                    refine W.widen (k := 3 + 4 * (k + 1)) (n := 60 + 8 * (k + 1)) (by omega) (by omega) ?_
                                    exact ih1 (k + 1) (g8.1, g8.2, (upd u8.2.2 x0 ((u8.2.2 x0) + 1))) ls H locs (by omega) ⟨⟨by omega, hG1, hG2, sung_s hx0 hxe hk1.2.2.2⟩, hX, hC, h_x1, h_x2, h_x3, hS, by rw [hhe, fam_s1 (by omega) c350]; exact lv_sub hl [7, 8, 9, 10, 11, 12, 5, 4, 6, 3, 2, 1, 13, 14, 0] rfl⟩
                                  · exact absurd c508 c516
                    · refine lv_iconst (v := 1) hx hb dX1_isSame_430 (by decide) ?_
                      refine lv_goto (tgt := 435) hx hb dX1_isSame_431 (by decide) ?_
                      refine lv_icmp_ne (tgt := 519) hx hb dX1_isSame_435 (by decide) (fun c435 => ?_) (fun c435 => ?_)
                      · exact absurd c427 c435
                      · refine lv_aload_n hx hb dX1_isSame_438 rfl (lv_at hl 7 rfl) ?_
                        refine lv_iload hx hb dX1_isSame_439 (lv_at hl 14 rfl) ?_
                        refine cVi (As := [.int (nI k)]) (rest := []) hF (mX0_wordIn hinv.1 hde k (by omega)) C0.mv hC (C0.rc hC) jyX0_wordIn kl_RX1_82 ⟨rfl, rfl⟩ ⟨Nat.le_of_ble_eq_true rfl, Nat.le_of_ble_eq_true rfl⟩ rfl hl.1 rfl (Nat.le_of_ble_eq_true rfl) ⟨(by show _ ≤ 130; omega), (by show _ ≤ 320; omega)⟩ dX1_isSame_441 (fun r9 hr9 => ?_)
                        subst hr9
                        refine lv_aload_n hx hb dX1_isSame_444 rfl (lv_at hl 6 rfl) ?_
                        refine S0.gW hF hX kf_RX1_15 dX1_isSame_445 ?_
                        refine lv_aload hx hb dX1_isSame_448 (lv_at hl 15 rfl) ?_
                        refine lv_iconst (v := 2) hx hb dX1_isSame_450 (by decide) ?_
                        refine S0.ldR hF hX k (by omega) 2 (by decide) rfl dX1_isSame_451 ?_
                        refine topI (show (rowV v st mk) k 2 = v 2 k from rfl) ?_
                        refine S0.ldW hF hX (ix (v 2 k)) (okM10 hok k) (okM hok k) dX1_isSame_452 ?_
                        refine lv_icmp_ne (tgt := 519) hx hb dX1_isSame_453 (by decide) (fun c453 => ?_) (fun c453 => ?_)
                        · exact absurd rfl c453
                        · refine lv_aload_n hx hb dX1_isSame_456 rfl (lv_at hl 7 rfl) ?_
                          refine lv_iload hx hb dX1_isSame_457 (lv_at hl 14 rfl) ?_
                          refine cVi (As := [.int (nI k)]) (rest := []) hF (mX0_readings hinv.1 hde k (by omega)) C0.mv hC (C0.rc hC) jyX0_readings kl_RX1_85 ⟨rfl, rfl⟩ ⟨Nat.le_of_ble_eq_true rfl, Nat.le_of_ble_eq_true rfl⟩ rfl hl.1 rfl (Nat.le_of_ble_eq_true rfl) ⟨(by show _ ≤ 130; omega), (by show _ ≤ 320; omega)⟩ dX1_isSame_459 (fun r9 hr9 => ?_)
                          subst hr9
                          refine lv_aload hx hb dX1_isSame_462 (lv_at hl 16 rfl) ?_
                          refine lv_iconst (v := 0) hx hb dX1_isSame_464 (by decide) ?_
                          refine ldI hF hX.2.1 h_x4 0 (by decide) (by decide) rfl dX1_isSame_465 ?_
                          refine lv_icmp_ne (tgt := 519) hx hb dX1_isSame_466 (by decide) (fun c466 => ?_) (fun c466 => ?_)
                          · exact absurd rfl c466
                          · refine lv_aload_n hx hb dX1_isSame_469 rfl (lv_at hl 7 rfl) ?_
                            refine lv_iload hx hb dX1_isSame_470 (lv_at hl 14 rfl) ?_
                            refine cVi (As := [.int (nI k)]) (rest := []) hF (mX0_rightReading hinv.1 hde k (by omega)) C0.mv hC (C0.rc hC) jyX0_rightReading kl_RX1_87 ⟨rfl, rfl⟩ ⟨Nat.le_of_ble_eq_true rfl, Nat.le_of_ble_eq_true rfl⟩ rfl hl.1 rfl (Nat.le_of_ble_eq_true rfl) ⟨(by show _ ≤ 130; omega), (by show _ ≤ 320; omega)⟩ dX1_isSame_472 (fun r9 hr9 => ?_)
                            subst hr9
                            refine lv_aload hx hb dX1_isSame_475 (lv_at hl 16 rfl) ?_
                            refine lv_iconst (v := 1) hx hb dX1_isSame_477 (by decide) ?_
                            refine ldI hF hX.2.1 h_x4 1 (by decide) (by decide) rfl dX1_isSame_478 ?_
                            refine lv_icmp_ne (tgt := 519) hx hb dX1_isSame_479 (by decide) (fun c479 => ?_) (fun c479 => ?_)
                            · exact absurd rfl c479
                            · refine lv_aload_n hx hb dX1_isSame_482 rfl (lv_at hl 7 rfl) ?_
                              refine lv_iload hx hb dX1_isSame_483 (lv_at hl 14 rfl) ?_
                              refine cVi (As := [.int (nI k)]) (rest := []) hF (mX0_isAmbiguous hinv.1 hde k (by omega)) C0.mv hC (C0.rc hC) jyX0_isAmbiguous kl_RX1_90 ⟨rfl, rfl⟩ ⟨Nat.le_of_ble_eq_true rfl, Nat.le_of_ble_eq_true rfl⟩ rfl hl.1 rfl (Nat.le_of_ble_eq_true rfl) ⟨(by show _ ≤ 130; omega), (by show _ ≤ 320; omega)⟩ dX1_isSame_485 (fun r9 hr9 => ?_)
                              subst hr9
                              refine lv_aload_n hx hb dX1_isSame_488 rfl (lv_at hl 6 rfl) ?_
                              refine lv_iload hx hb dX1_isSame_489 (lv_at hl 14 rfl) ?_
                              refine wVi (mc := 1) (ms := 2) (As := [.int (nI k)]) (rest := [.int (b2i (amb v st mk k))]) hF (mX1_isOpen hok k (by omega)) S0.mv (fun _ => Mv.const) hX hX.rc jyX1_isOpen kl_RX1_39 ⟨rfl, rfl⟩ ⟨Nat.le_of_ble_eq_true rfl, Nat.le_of_ble_eq_true rfl⟩ rfl hl.1 rfl (Nat.le_of_ble_eq_true rfl) ⟨by show _ + 1 ≤ 130; omega, by show _ + 2 ≤ 320; omega⟩ hS (fun _ _ h => h.elim) (fun _ h => h.elim) dX1_isSame_491 (fun r9 u9 H locs hp9 hB9 hz hk hS => ?_)
                              have ho : ∀ q : Nat, q < _ → H[q]? = _ := fun q h9 => hk q h9 (fun h => h)
                              have hX := hX0.up hS
                              have hC := C0.upS hC0 hS
                              have h_x1 := h_x1.upK ho
                              have h_x2 := h_x2.upK ho
                              have h_x3 := h_x3.upK ho
                              have h_x4 := h_x4.upK ho
                              subst hp9
                              refine lv_icmp_ne (tgt := 519) hx hb dX1_isSame_494 (by decide) (fun c494 => ?_) (fun c494 => ?_)
                              · exact absurd rfl c494
                              · refine lv_aload_n hx hb dX1_isSame_497 rfl (lv_at hl 7 rfl) ?_
                                refine lv_iload hx hb dX1_isSame_498 (lv_at hl 14 rfl) ?_
                                refine cVi (As := [.int (nI k)]) (rest := []) hF (mX0_isMended hinv.1 hde k (by omega)) C0.mv hC (C0.rc hC) jyX0_isMended kl_RX1_93 ⟨rfl, rfl⟩ ⟨Nat.le_of_ble_eq_true rfl, Nat.le_of_ble_eq_true rfl⟩ rfl hl.1 rfl (Nat.le_of_ble_eq_true rfl) ⟨(by show _ ≤ 130; omega), (by show _ ≤ 320; omega)⟩ dX1_isSame_500 (fun r9 hr9 => ?_)
                                subst hr9
                                refine lv_aload hx hb dX1_isSame_503 (lv_at hl 15 rfl) ?_
                                refine lv_iconst (v := 5) hx hb dX1_isSame_505 (by decide) ?_
                                refine S0.ldR hF hX k (by omega) 5 (by decide) rfl dX1_isSame_506 ?_
                                refine topI (show (rowV v st mk) k 5 = b2i (mk k) from rfl) ?_
                                refine lv_iconst (v := 1) hx hb dX1_isSame_507 (by decide) ?_
                                refine lv_icmp_ne (tgt := 515) hx hb dX1_isSame_508 (by decide) (fun c508 => ?_) (fun c508 => ?_)
                                · refine lv_iconst (v := 0) hx hb dX1_isSame_515 (by decide) ?_
                                  refine lv_icmp_eq (tgt := 521) hx hb dX1_isSame_516 (by decide) (fun c516 => ?_) (fun c516 => ?_)
                                  · have c516b := b2i_f c516
                                    refine lv_iinc (v := (nI (k + 1))) (lv' := [(14, .int (nI (k + 1))), (11, .int ((sumI (fun i => nt (v 0) st (i + 1)) k) + (nt (v 0) st (k + 1)))), (10, .int (mx (hi9 (v 0) st k) (nt (v 0) st (k + 1)))), (9, .int (lo99 (v 0) st (k + 1))), (7, .int (ctB (fold1 v st) (k + 1))), (6, .int ((sumI (v 1) k) + (v 1 k))), (8, .int (ctB (rtP v) (k + 1))), (0, .ref sm), (1, .ref (q 0)), (2, .int (nI N)), (3, .ref x1), (4, .ref x2), (5, .int (nI h)), (12, .int (fam v st mk k)), (13, .ref x3), (15, .ref (a k)), (16, .ref x4), (17, .int (b2i (exB (rtE v k) (k + 1)))), (18, .int (nI (k + 1)))]) hx hb dX1_isSame_521 hl (k := 14) rfl (nI_1 _) (by decide) rfl (fun ls hl => ?_)
                                    refine lv_goto (tgt := 53) hx hb dX1_isSame_524 (by decide) ?_
                                    refine W.widen (k := 3 + 4 * (k + 1)) (n := 60 + 8 * (k + 1)) (by omega) (by omega) ?_
                                    exact ih1 (k + 1) (g8.1, g8.2, (upd u8.2.2 x0 ((u8.2.2 x0) + 1))) ls H locs (by omega) ⟨⟨by omega, hG1, hG2, sung_s hx0 hxe hk1.2.2.2⟩, hX, hC, h_x1, h_x2, h_x3, hS, by rw [hhe, fam_s1 (by omega) c350]; exact lv_sub hl [7, 8, 9, 10, 11, 12, 5, 4, 6, 3, 2, 1, 13, 14, 0] rfl⟩
                                  · have c516b := b2i_t c516
                                    exact absurd (by rw [b2i_n1 c508]; rfl) c516
                                · refine lv_iconst (v := 1) hx hb dX1_isSame_511 (by decide) ?_
                                  refine lv_goto (tgt := 516) hx hb dX1_isSame_512 (by decide) ?_
                                  refine lv_icmp_eq (tgt := 521) hx hb dX1_isSame_516 (by decide) (fun c516 => ?_) (fun c516 => ?_)
                                  · refine lv_iinc (v := (nI (k + 1))) (lv' := [(14, .int (nI (k + 1))), (11, .int ((sumI (fun i => nt (v 0) st (i + 1)) k) + (nt (v 0) st (k + 1)))), (10, .int (mx (hi9 (v 0) st k) (nt (v 0) st (k + 1)))), (9, .int (lo99 (v 0) st (k + 1))), (7, .int (ctB (fold1 v st) (k + 1))), (6, .int ((sumI (v 1) k) + (v 1 k))), (8, .int (ctB (rtP v) (k + 1))), (0, .ref sm), (1, .ref (q 0)), (2, .int (nI N)), (3, .ref x1), (4, .ref x2), (5, .int (nI h)), (12, .int (fam v st mk k)), (13, .ref x3), (15, .ref (a k)), (16, .ref x4), (17, .int (b2i (exB (rtE v k) (k + 1)))), (18, .int (nI (k + 1)))]) hx hb dX1_isSame_521 hl (k := 14) rfl (nI_1 _) (by decide) rfl (fun ls hl => ?_)
                                    refine lv_goto (tgt := 53) hx hb dX1_isSame_524 (by decide) ?_
                                    refine W.widen (k := 3 + 4 * (k + 1)) (n := 60 + 8 * (k + 1)) (by omega) (by omega) ?_
                                    exact ih1 (k + 1) (g8.1, g8.2, (upd u8.2.2 x0 ((u8.2.2 x0) + 1))) ls H locs (by omega) ⟨⟨by omega, hG1, hG2, sung_s hx0 hxe hk1.2.2.2⟩, hX, hC, h_x1, h_x2, h_x3, hS, by rw [hhe, fam_s1 (by omega) c350]; exact lv_sub hl [7, 8, 9, 10, 11, 12, 5, 4, 6, 3, 2, 1, 13, 14, 0] rfl⟩
                                  · exact absurd c508 c516
          · refine lv_aload_n hx hb dX1_isSame_353 rfl (lv_at hl 6 rfl) ?_
            refine lv_iload hx hb dX1_isSame_354 (lv_at hl 14 rfl) ?_
            refine wVi (mc := 1) (ms := 2) (As := [.int (nI k)]) (rest := []) hF (mX1_isOpen hok k (by omega)) S0.mv (fun _ => Mv.const) hX hX.rc jyX1_isOpen kl_RX1_39 ⟨rfl, rfl⟩ ⟨Nat.le_of_ble_eq_true rfl, Nat.le_of_ble_eq_true rfl⟩ rfl hl.1 rfl (Nat.le_of_ble_eq_true rfl) ⟨by show _ + 1 ≤ 130; omega, by show _ + 2 ≤ 320; omega⟩ hS (fun _ _ h => h.elim) (fun _ h => h.elim) dX1_isSame_356 (fun r9 u9 H locs hp9 hB9 hz hk hS => ?_)
            have ho : ∀ q : Nat, q < _ → H[q]? = _ := fun q h9 => hk q h9 (fun h => h)
            have hX := hX0.up hS
            have hC := C0.upS hC0 hS
            have h_x1 := h_x1.upK ho
            have h_x2 := h_x2.upK ho
            have h_x3 := h_x3.upK ho
            have h_x4 := h_x4.upK ho
            subst hp9
            refine lv_if_eq (tgt := 366) hx hb dX1_isSame_359 (by decide) (fun c359 => ?_) (fun c359 => ?_)
            · have c359b := b2i_f c359
              refine lv_aload_n hx hb dX1_isSame_366 rfl (lv_at hl 7 rfl) ?_
              refine lv_iload hx hb dX1_isSame_367 (lv_at hl 14 rfl) ?_
              refine cVi (As := [.int (nI k)]) (rest := []) hF (mX0_turnOf hinv.1 hde k (by omega)) C0.mv hC (C0.rc hC) jyX0_turnOf kl_RX1_65 ⟨rfl, rfl⟩ ⟨Nat.le_of_ble_eq_true rfl, Nat.le_of_ble_eq_true rfl⟩ rfl hl.1 rfl (Nat.le_of_ble_eq_true rfl) ⟨(by show _ ≤ 130; omega), (by show _ ≤ 320; omega)⟩ dX1_isSame_369 (fun r9 hr9 => ?_)
              subst hr9
              refine lv_aload hx hb dX1_isSame_372 (lv_at hl 15 rfl) ?_
              refine lv_iconst (v := 0) hx hb dX1_isSame_374 (by decide) ?_
              refine S0.ldR hF hX k (by omega) 0 (by decide) rfl dX1_isSame_375 ?_
              refine topI (show (rowV v st mk) k 0 = v 0 k from rfl) ?_
              refine lv_icmp_ne (tgt := 519) hx hb dX1_isSame_376 (by decide) (fun c376 => ?_) (fun c376 => ?_)
              · exact absurd rfl c376
              · refine lv_aload_n hx hb dX1_isSame_379 rfl (lv_at hl 7 rfl) ?_
                refine lv_iload hx hb dX1_isSame_380 (lv_at hl 14 rfl) ?_
                refine cVi (As := [.int (nI k)]) (rest := []) hF (mX0_headingOf hinv.1 hde k (by omega)) C0.mv hC (C0.rc hC) jyX0_headingOf kl_RX1_70 ⟨rfl, rfl⟩ ⟨Nat.le_of_ble_eq_true rfl, Nat.le_of_ble_eq_true rfl⟩ rfl hl.1 rfl (Nat.le_of_ble_eq_true rfl) ⟨(by show _ ≤ 130; omega), (by show _ ≤ 320; omega)⟩ dX1_isSame_382 (fun r9 hr9 => ?_)
                subst hr9
                rw [hhe]
                refine lv_iload hx hb dX1_isSame_385 (lv_at hl 11 rfl) ?_
                refine lv_icmp_ne (tgt := 519) hx hb dX1_isSame_387 (by decide) (fun c387 => ?_) (fun c387 => ?_)
                · have c387n : ¬ h = h := fun h9 => c387 ((nI_eq (a := h) (b := h) (by omega) (by omega)).mpr h9)
                  exact absurd rfl c387
                · have c387n : h = h := (nI_eq (a := h) (b := h) (by omega) (by omega)).mp c387
                  refine lv_aload_n hx hb dX1_isSame_390 rfl (lv_at hl 7 rfl) ?_
                  refine lv_iload hx hb dX1_isSame_391 (lv_at hl 14 rfl) ?_
                  refine cVi (As := [.int (nI k)]) (rest := []) hF (mX0_landmarkOf hinv.1 hde k (by omega)) C0.mv hC (C0.rc hC) jyX0_landmarkOf kl_RX1_73 ⟨rfl, rfl⟩ ⟨Nat.le_of_ble_eq_true rfl, Nat.le_of_ble_eq_true rfl⟩ rfl hl.1 rfl (Nat.le_of_ble_eq_true rfl) ⟨(by show _ ≤ 130; omega), (by show _ ≤ 320; omega)⟩ dX1_isSame_393 (fun r9 hr9 => ?_)
                  subst hr9
                  refine lv_aload hx hb dX1_isSame_396 (lv_at hl 15 rfl) ?_
                  refine lv_iconst (v := 2) hx hb dX1_isSame_398 (by decide) ?_
                  refine S0.ldR hF hX k (by omega) 2 (by decide) rfl dX1_isSame_399 ?_
                  refine topI (show (rowV v st mk) k 2 = v 2 k from rfl) ?_
                  refine lv_icmp_ne (tgt := 519) hx hb dX1_isSame_400 (by decide) (fun c400 => ?_) (fun c400 => ?_)
                  · exact absurd rfl c400
                  · refine lv_aload_n hx hb dX1_isSame_403 rfl (lv_at hl 7 rfl) ?_
                    refine lv_iload hx hb dX1_isSame_404 (lv_at hl 14 rfl) ?_
                    refine cVi (As := [.int (nI k)]) (rest := []) hF (mX0_noteOf hinv.1 hde k (by omega)) C0.mv hC (C0.rc hC) jyX0_noteOf kl_RX1_76 ⟨rfl, rfl⟩ ⟨Nat.le_of_ble_eq_true rfl, Nat.le_of_ble_eq_true rfl⟩ rfl hl.1 rfl (Nat.le_of_ble_eq_true rfl) ⟨(by show _ ≤ 130; omega), (by show _ ≤ 320; omega)⟩ dX1_isSame_406 (fun r9 hr9 => ?_)
                    subst hr9
                    refine lv_aload hx hb dX1_isSame_409 (lv_at hl 15 rfl) ?_
                    refine lv_iconst (v := 3) hx hb dX1_isSame_411 (by decide) ?_
                    refine S0.ldR hF hX k (by omega) 3 (by decide) rfl dX1_isSame_412 ?_
                    refine topI (show (rowV v st mk) k 3 = nt (v 0) st (k + 1) from rfl) ?_
                    refine lv_icmp_ne (tgt := 519) hx hb dX1_isSame_413 (by decide) (fun c413 => ?_) (fun c413 => ?_)
                    · exact absurd rfl c413
                    · refine lv_aload_n hx hb dX1_isSame_416 rfl (lv_at hl 7 rfl) ?_
                      refine lv_iload hx hb dX1_isSame_417 (lv_at hl 14 rfl) ?_
                      refine cVi (As := [.int (nI k)]) (rest := []) hF (mX0_isFolded hinv.1 hde k (by omega)) C0.mv hC (C0.rc hC) jyX0_isFolded kl_RX1_79 ⟨rfl, rfl⟩ ⟨Nat.le_of_ble_eq_true rfl, Nat.le_of_ble_eq_true rfl⟩ rfl hl.1 rfl (Nat.le_of_ble_eq_true rfl) ⟨(by show _ ≤ 130; omega), (by show _ ≤ 320; omega)⟩ dX1_isSame_419 (fun r9 hr9 => ?_)
                      subst hr9
                      refine lv_aload hx hb dX1_isSame_422 (lv_at hl 15 rfl) ?_
                      refine lv_iconst (v := 4) hx hb dX1_isSame_424 (by decide) ?_
                      refine S0.ldR hF hX k (by omega) 4 (by decide) rfl dX1_isSame_425 ?_
                      refine topI (show (rowV v st mk) k 4 = b2i (fold1 v st k) from rfl) ?_
                      refine lv_iconst (v := 1) hx hb dX1_isSame_426 (by decide) ?_
                      refine lv_icmp_ne (tgt := 434) hx hb dX1_isSame_427 (by decide) (fun c427 => ?_) (fun c427 => ?_)
                      · refine lv_iconst (v := 0) hx hb dX1_isSame_434 (by decide) ?_
                        refine lv_icmp_ne (tgt := 519) hx hb dX1_isSame_435 (by decide) (fun c435 => ?_) (fun c435 => ?_)
                        · have c435b := b2i_t c435
                          exact absurd (by rw [b2i_n1 c427]; rfl) c435
                        · have c435b := b2i_f c435
                          refine lv_aload_n hx hb dX1_isSame_438 rfl (lv_at hl 7 rfl) ?_
                          refine lv_iload hx hb dX1_isSame_439 (lv_at hl 14 rfl) ?_
                          refine cVi (As := [.int (nI k)]) (rest := []) hF (mX0_wordIn hinv.1 hde k (by omega)) C0.mv hC (C0.rc hC) jyX0_wordIn kl_RX1_82 ⟨rfl, rfl⟩ ⟨Nat.le_of_ble_eq_true rfl, Nat.le_of_ble_eq_true rfl⟩ rfl hl.1 rfl (Nat.le_of_ble_eq_true rfl) ⟨(by show _ ≤ 130; omega), (by show _ ≤ 320; omega)⟩ dX1_isSame_441 (fun r9 hr9 => ?_)
                          subst hr9
                          refine lv_aload_n hx hb dX1_isSame_444 rfl (lv_at hl 6 rfl) ?_
                          refine S0.gW hF hX kf_RX1_15 dX1_isSame_445 ?_
                          refine lv_aload hx hb dX1_isSame_448 (lv_at hl 15 rfl) ?_
                          refine lv_iconst (v := 2) hx hb dX1_isSame_450 (by decide) ?_
                          refine S0.ldR hF hX k (by omega) 2 (by decide) rfl dX1_isSame_451 ?_
                          refine topI (show (rowV v st mk) k 2 = v 2 k from rfl) ?_
                          refine S0.ldW hF hX (ix (v 2 k)) (okM10 hok k) (okM hok k) dX1_isSame_452 ?_
                          refine lv_icmp_ne (tgt := 519) hx hb dX1_isSame_453 (by decide) (fun c453 => ?_) (fun c453 => ?_)
                          · exact absurd rfl c453
                          · refine lv_aload_n hx hb dX1_isSame_456 rfl (lv_at hl 7 rfl) ?_
                            refine lv_iload hx hb dX1_isSame_457 (lv_at hl 14 rfl) ?_
                            refine cVi (As := [.int (nI k)]) (rest := []) hF (mX0_readings hinv.1 hde k (by omega)) C0.mv hC (C0.rc hC) jyX0_readings kl_RX1_85 ⟨rfl, rfl⟩ ⟨Nat.le_of_ble_eq_true rfl, Nat.le_of_ble_eq_true rfl⟩ rfl hl.1 rfl (Nat.le_of_ble_eq_true rfl) ⟨(by show _ ≤ 130; omega), (by show _ ≤ 320; omega)⟩ dX1_isSame_459 (fun r9 hr9 => ?_)
                            subst hr9
                            refine lv_aload hx hb dX1_isSame_462 (lv_at hl 16 rfl) ?_
                            refine lv_iconst (v := 0) hx hb dX1_isSame_464 (by decide) ?_
                            refine ldI hF hX.2.1 h_x4 0 (by decide) (by decide) rfl dX1_isSame_465 ?_
                            refine lv_icmp_ne (tgt := 519) hx hb dX1_isSame_466 (by decide) (fun c466 => ?_) (fun c466 => ?_)
                            · exact absurd rfl c466
                            · refine lv_aload_n hx hb dX1_isSame_469 rfl (lv_at hl 7 rfl) ?_
                              refine lv_iload hx hb dX1_isSame_470 (lv_at hl 14 rfl) ?_
                              refine cVi (As := [.int (nI k)]) (rest := []) hF (mX0_rightReading hinv.1 hde k (by omega)) C0.mv hC (C0.rc hC) jyX0_rightReading kl_RX1_87 ⟨rfl, rfl⟩ ⟨Nat.le_of_ble_eq_true rfl, Nat.le_of_ble_eq_true rfl⟩ rfl hl.1 rfl (Nat.le_of_ble_eq_true rfl) ⟨(by show _ ≤ 130; omega), (by show _ ≤ 320; omega)⟩ dX1_isSame_472 (fun r9 hr9 => ?_)
                              subst hr9
                              refine lv_aload hx hb dX1_isSame_475 (lv_at hl 16 rfl) ?_
                              refine lv_iconst (v := 1) hx hb dX1_isSame_477 (by decide) ?_
                              refine ldI hF hX.2.1 h_x4 1 (by decide) (by decide) rfl dX1_isSame_478 ?_
                              refine lv_icmp_ne (tgt := 519) hx hb dX1_isSame_479 (by decide) (fun c479 => ?_) (fun c479 => ?_)
                              · exact absurd rfl c479
                              · refine lv_aload_n hx hb dX1_isSame_482 rfl (lv_at hl 7 rfl) ?_
                                refine lv_iload hx hb dX1_isSame_483 (lv_at hl 14 rfl) ?_
                                refine cVi (As := [.int (nI k)]) (rest := []) hF (mX0_isAmbiguous hinv.1 hde k (by omega)) C0.mv hC (C0.rc hC) jyX0_isAmbiguous kl_RX1_90 ⟨rfl, rfl⟩ ⟨Nat.le_of_ble_eq_true rfl, Nat.le_of_ble_eq_true rfl⟩ rfl hl.1 rfl (Nat.le_of_ble_eq_true rfl) ⟨(by show _ ≤ 130; omega), (by show _ ≤ 320; omega)⟩ dX1_isSame_485 (fun r9 hr9 => ?_)
                                subst hr9
                                refine lv_aload_n hx hb dX1_isSame_488 rfl (lv_at hl 6 rfl) ?_
                                refine lv_iload hx hb dX1_isSame_489 (lv_at hl 14 rfl) ?_
                                refine wVi (mc := 1) (ms := 2) (As := [.int (nI k)]) (rest := [.int (b2i (amb v st mk k))]) hF (mX1_isOpen hok k (by omega)) S0.mv (fun _ => Mv.const) hX hX.rc jyX1_isOpen kl_RX1_39 ⟨rfl, rfl⟩ ⟨Nat.le_of_ble_eq_true rfl, Nat.le_of_ble_eq_true rfl⟩ rfl hl.1 rfl (Nat.le_of_ble_eq_true rfl) ⟨by show _ + 1 ≤ 130; omega, by show _ + 2 ≤ 320; omega⟩ hS (fun _ _ h => h.elim) (fun _ h => h.elim) dX1_isSame_491 (fun r9 u9 H locs hp9 hB9 hz hk hS => ?_)
                                have ho : ∀ q : Nat, q < _ → H[q]? = _ := fun q h9 => hk q h9 (fun h => h)
                                have hX := hX0.up hS
                                have hC := C0.upS hC0 hS
                                have h_x1 := h_x1.upK ho
                                have h_x2 := h_x2.upK ho
                                have h_x3 := h_x3.upK ho
                                have h_x4 := h_x4.upK ho
                                subst hp9
                                refine lv_icmp_ne (tgt := 519) hx hb dX1_isSame_494 (by decide) (fun c494 => ?_) (fun c494 => ?_)
                                · exact absurd rfl c494
                                · refine lv_aload_n hx hb dX1_isSame_497 rfl (lv_at hl 7 rfl) ?_
                                  refine lv_iload hx hb dX1_isSame_498 (lv_at hl 14 rfl) ?_
                                  refine cVi (As := [.int (nI k)]) (rest := []) hF (mX0_isMended hinv.1 hde k (by omega)) C0.mv hC (C0.rc hC) jyX0_isMended kl_RX1_93 ⟨rfl, rfl⟩ ⟨Nat.le_of_ble_eq_true rfl, Nat.le_of_ble_eq_true rfl⟩ rfl hl.1 rfl (Nat.le_of_ble_eq_true rfl) ⟨(by show _ ≤ 130; omega), (by show _ ≤ 320; omega)⟩ dX1_isSame_500 (fun r9 hr9 => ?_)
                                  subst hr9
                                  refine lv_aload hx hb dX1_isSame_503 (lv_at hl 15 rfl) ?_
                                  refine lv_iconst (v := 5) hx hb dX1_isSame_505 (by decide) ?_
                                  refine S0.ldR hF hX k (by omega) 5 (by decide) rfl dX1_isSame_506 ?_
                                  refine topI (show (rowV v st mk) k 5 = b2i (mk k) from rfl) ?_
                                  refine lv_iconst (v := 1) hx hb dX1_isSame_507 (by decide) ?_
                                  refine lv_icmp_ne (tgt := 515) hx hb dX1_isSame_508 (by decide) (fun c508 => ?_) (fun c508 => ?_)
                                  · refine lv_iconst (v := 0) hx hb dX1_isSame_515 (by decide) ?_
                                    refine lv_icmp_eq (tgt := 521) hx hb dX1_isSame_516 (by decide) (fun c516 => ?_) (fun c516 => ?_)
                                    · have c516b := b2i_f c516
                                      refine lv_iinc (v := (nI (k + 1))) (lv' := [(14, .int (nI (k + 1))), (11, .int ((sumI (fun i => nt (v 0) st (i + 1)) k) + (nt (v 0) st (k + 1)))), (10, .int (mx (hi9 (v 0) st k) (nt (v 0) st (k + 1)))), (9, .int (lo99 (v 0) st (k + 1))), (7, .int (ctB (fold1 v st) (k + 1))), (6, .int ((sumI (v 1) k) + (v 1 k))), (8, .int (ctB (rtP v) (k + 1))), (0, .ref sm), (1, .ref (q 0)), (2, .int (nI N)), (3, .ref x1), (4, .ref x2), (5, .int (nI h)), (12, .int (fam v st mk k)), (13, .ref x3), (15, .ref (a k)), (16, .ref x4), (17, .int (b2i (exB (rtE v k) (k + 1)))), (18, .int (nI (k + 1)))]) hx hb dX1_isSame_521 hl (k := 14) rfl (nI_1 _) (by decide) rfl (fun ls hl => ?_)
                                      refine lv_goto (tgt := 53) hx hb dX1_isSame_524 (by decide) ?_
                                      refine W.widen (k := 3 + 4 * (k + 1)) (n := 60 + 8 * (k + 1)) (by omega) (by omega) ?_
                                      exact ih1 (k + 1) (g8.1, g8.2, (upd u8.2.2 x0 ((u8.2.2 x0) + 1))) ls H locs (by omega) ⟨⟨by omega, hG1, hG2, sung_s hx0 hxe hk1.2.2.2⟩, hX, hC, h_x1, h_x2, h_x3, hS, by rw [hhe, fam_s3 (by omega) c350 c359b]; exact lv_sub hl [7, 8, 9, 10, 11, 12, 5, 4, 6, 3, 2, 1, 13, 14, 0] rfl⟩
                                    · have c516b := b2i_t c516
                                      exact absurd (by rw [b2i_n1 c508]; rfl) c516
                                  · refine lv_iconst (v := 1) hx hb dX1_isSame_511 (by decide) ?_
                                    refine lv_goto (tgt := 516) hx hb dX1_isSame_512 (by decide) ?_
                                    refine lv_icmp_eq (tgt := 521) hx hb dX1_isSame_516 (by decide) (fun c516 => ?_) (fun c516 => ?_)
                                    · refine lv_iinc (v := (nI (k + 1))) (lv' := [(14, .int (nI (k + 1))), (11, .int ((sumI (fun i => nt (v 0) st (i + 1)) k) + (nt (v 0) st (k + 1)))), (10, .int (mx (hi9 (v 0) st k) (nt (v 0) st (k + 1)))), (9, .int (lo99 (v 0) st (k + 1))), (7, .int (ctB (fold1 v st) (k + 1))), (6, .int ((sumI (v 1) k) + (v 1 k))), (8, .int (ctB (rtP v) (k + 1))), (0, .ref sm), (1, .ref (q 0)), (2, .int (nI N)), (3, .ref x1), (4, .ref x2), (5, .int (nI h)), (12, .int (fam v st mk k)), (13, .ref x3), (15, .ref (a k)), (16, .ref x4), (17, .int (b2i (exB (rtE v k) (k + 1)))), (18, .int (nI (k + 1)))]) hx hb dX1_isSame_521 hl (k := 14) rfl (nI_1 _) (by decide) rfl (fun ls hl => ?_)
                                      refine lv_goto (tgt := 53) hx hb dX1_isSame_524 (by decide) ?_
                                      refine W.widen (k := 3 + 4 * (k + 1)) (n := 60 + 8 * (k + 1)) (by omega) (by omega) ?_
                                      exact ih1 (k + 1) (g8.1, g8.2, (upd u8.2.2 x0 ((u8.2.2 x0) + 1))) ls H locs (by omega) ⟨⟨by omega, hG1, hG2, sung_s hx0 hxe hk1.2.2.2⟩, hX, hC, h_x1, h_x2, h_x3, hS, by rw [hhe, fam_s3 (by omega) c350 c359b]; exact lv_sub hl [7, 8, 9, 10, 11, 12, 5, 4, 6, 3, 2, 1, 13, 14, 0] rfl⟩
                                    · exact absurd c508 c516
                      · refine lv_iconst (v := 1) hx hb dX1_isSame_430 (by decide) ?_
                        refine lv_goto (tgt := 435) hx hb dX1_isSame_431 (by decide) ?_
                        refine lv_icmp_ne (tgt := 519) hx hb dX1_isSame_435 (by decide) (fun c435 => ?_) (fun c435 => ?_)
                        · exact absurd c427 c435
                        · refine lv_aload_n hx hb dX1_isSame_438 rfl (lv_at hl 7 rfl) ?_
                          refine lv_iload hx hb dX1_isSame_439 (lv_at hl 14 rfl) ?_
                          refine cVi (As := [.int (nI k)]) (rest := []) hF (mX0_wordIn hinv.1 hde k (by omega)) C0.mv hC (C0.rc hC) jyX0_wordIn kl_RX1_82 ⟨rfl, rfl⟩ ⟨Nat.le_of_ble_eq_true rfl, Nat.le_of_ble_eq_true rfl⟩ rfl hl.1 rfl (Nat.le_of_ble_eq_true rfl) ⟨(by show _ ≤ 130; omega), (by show _ ≤ 320; omega)⟩ dX1_isSame_441 (fun r9 hr9 => ?_)
                          subst hr9
                          refine lv_aload_n hx hb dX1_isSame_444 rfl (lv_at hl 6 rfl) ?_
                          refine S0.gW hF hX kf_RX1_15 dX1_isSame_445 ?_
                          refine lv_aload hx hb dX1_isSame_448 (lv_at hl 15 rfl) ?_
                          refine lv_iconst (v := 2) hx hb dX1_isSame_450 (by decide) ?_
                          refine S0.ldR hF hX k (by omega) 2 (by decide) rfl dX1_isSame_451 ?_
                          refine topI (show (rowV v st mk) k 2 = v 2 k from rfl) ?_
                          refine S0.ldW hF hX (ix (v 2 k)) (okM10 hok k) (okM hok k) dX1_isSame_452 ?_
                          refine lv_icmp_ne (tgt := 519) hx hb dX1_isSame_453 (by decide) (fun c453 => ?_) (fun c453 => ?_)
                          · exact absurd rfl c453
                          · refine lv_aload_n hx hb dX1_isSame_456 rfl (lv_at hl 7 rfl) ?_
                            refine lv_iload hx hb dX1_isSame_457 (lv_at hl 14 rfl) ?_
                            refine cVi (As := [.int (nI k)]) (rest := []) hF (mX0_readings hinv.1 hde k (by omega)) C0.mv hC (C0.rc hC) jyX0_readings kl_RX1_85 ⟨rfl, rfl⟩ ⟨Nat.le_of_ble_eq_true rfl, Nat.le_of_ble_eq_true rfl⟩ rfl hl.1 rfl (Nat.le_of_ble_eq_true rfl) ⟨(by show _ ≤ 130; omega), (by show _ ≤ 320; omega)⟩ dX1_isSame_459 (fun r9 hr9 => ?_)
                            subst hr9
                            refine lv_aload hx hb dX1_isSame_462 (lv_at hl 16 rfl) ?_
                            refine lv_iconst (v := 0) hx hb dX1_isSame_464 (by decide) ?_
                            refine ldI hF hX.2.1 h_x4 0 (by decide) (by decide) rfl dX1_isSame_465 ?_
                            refine lv_icmp_ne (tgt := 519) hx hb dX1_isSame_466 (by decide) (fun c466 => ?_) (fun c466 => ?_)
                            · exact absurd rfl c466
                            · refine lv_aload_n hx hb dX1_isSame_469 rfl (lv_at hl 7 rfl) ?_
                              refine lv_iload hx hb dX1_isSame_470 (lv_at hl 14 rfl) ?_
                              refine cVi (As := [.int (nI k)]) (rest := []) hF (mX0_rightReading hinv.1 hde k (by omega)) C0.mv hC (C0.rc hC) jyX0_rightReading kl_RX1_87 ⟨rfl, rfl⟩ ⟨Nat.le_of_ble_eq_true rfl, Nat.le_of_ble_eq_true rfl⟩ rfl hl.1 rfl (Nat.le_of_ble_eq_true rfl) ⟨(by show _ ≤ 130; omega), (by show _ ≤ 320; omega)⟩ dX1_isSame_472 (fun r9 hr9 => ?_)
                              subst hr9
                              refine lv_aload hx hb dX1_isSame_475 (lv_at hl 16 rfl) ?_
                              refine lv_iconst (v := 1) hx hb dX1_isSame_477 (by decide) ?_
                              refine ldI hF hX.2.1 h_x4 1 (by decide) (by decide) rfl dX1_isSame_478 ?_
                              refine lv_icmp_ne (tgt := 519) hx hb dX1_isSame_479 (by decide) (fun c479 => ?_) (fun c479 => ?_)
                              · exact absurd rfl c479
                              · refine lv_aload_n hx hb dX1_isSame_482 rfl (lv_at hl 7 rfl) ?_
                                refine lv_iload hx hb dX1_isSame_483 (lv_at hl 14 rfl) ?_
                                refine cVi (As := [.int (nI k)]) (rest := []) hF (mX0_isAmbiguous hinv.1 hde k (by omega)) C0.mv hC (C0.rc hC) jyX0_isAmbiguous kl_RX1_90 ⟨rfl, rfl⟩ ⟨Nat.le_of_ble_eq_true rfl, Nat.le_of_ble_eq_true rfl⟩ rfl hl.1 rfl (Nat.le_of_ble_eq_true rfl) ⟨(by show _ ≤ 130; omega), (by show _ ≤ 320; omega)⟩ dX1_isSame_485 (fun r9 hr9 => ?_)
                                subst hr9
                                refine lv_aload_n hx hb dX1_isSame_488 rfl (lv_at hl 6 rfl) ?_
                                refine lv_iload hx hb dX1_isSame_489 (lv_at hl 14 rfl) ?_
                                refine wVi (mc := 1) (ms := 2) (As := [.int (nI k)]) (rest := [.int (b2i (amb v st mk k))]) hF (mX1_isOpen hok k (by omega)) S0.mv (fun _ => Mv.const) hX hX.rc jyX1_isOpen kl_RX1_39 ⟨rfl, rfl⟩ ⟨Nat.le_of_ble_eq_true rfl, Nat.le_of_ble_eq_true rfl⟩ rfl hl.1 rfl (Nat.le_of_ble_eq_true rfl) ⟨by show _ + 1 ≤ 130; omega, by show _ + 2 ≤ 320; omega⟩ hS (fun _ _ h => h.elim) (fun _ h => h.elim) dX1_isSame_491 (fun r9 u9 H locs hp9 hB9 hz hk hS => ?_)
                                have ho : ∀ q : Nat, q < _ → H[q]? = _ := fun q h9 => hk q h9 (fun h => h)
                                have hX := hX0.up hS
                                have hC := C0.upS hC0 hS
                                have h_x1 := h_x1.upK ho
                                have h_x2 := h_x2.upK ho
                                have h_x3 := h_x3.upK ho
                                have h_x4 := h_x4.upK ho
                                subst hp9
                                refine lv_icmp_ne (tgt := 519) hx hb dX1_isSame_494 (by decide) (fun c494 => ?_) (fun c494 => ?_)
                                · exact absurd rfl c494
                                · refine lv_aload_n hx hb dX1_isSame_497 rfl (lv_at hl 7 rfl) ?_
                                  refine lv_iload hx hb dX1_isSame_498 (lv_at hl 14 rfl) ?_
                                  refine cVi (As := [.int (nI k)]) (rest := []) hF (mX0_isMended hinv.1 hde k (by omega)) C0.mv hC (C0.rc hC) jyX0_isMended kl_RX1_93 ⟨rfl, rfl⟩ ⟨Nat.le_of_ble_eq_true rfl, Nat.le_of_ble_eq_true rfl⟩ rfl hl.1 rfl (Nat.le_of_ble_eq_true rfl) ⟨(by show _ ≤ 130; omega), (by show _ ≤ 320; omega)⟩ dX1_isSame_500 (fun r9 hr9 => ?_)
                                  subst hr9
                                  refine lv_aload hx hb dX1_isSame_503 (lv_at hl 15 rfl) ?_
                                  refine lv_iconst (v := 5) hx hb dX1_isSame_505 (by decide) ?_
                                  refine S0.ldR hF hX k (by omega) 5 (by decide) rfl dX1_isSame_506 ?_
                                  refine topI (show (rowV v st mk) k 5 = b2i (mk k) from rfl) ?_
                                  refine lv_iconst (v := 1) hx hb dX1_isSame_507 (by decide) ?_
                                  refine lv_icmp_ne (tgt := 515) hx hb dX1_isSame_508 (by decide) (fun c508 => ?_) (fun c508 => ?_)
                                  · refine lv_iconst (v := 0) hx hb dX1_isSame_515 (by decide) ?_
                                    refine lv_icmp_eq (tgt := 521) hx hb dX1_isSame_516 (by decide) (fun c516 => ?_) (fun c516 => ?_)
                                    · have c516b := b2i_f c516
                                      refine lv_iinc (v := (nI (k + 1))) (lv' := [(14, .int (nI (k + 1))), (11, .int ((sumI (fun i => nt (v 0) st (i + 1)) k) + (nt (v 0) st (k + 1)))), (10, .int (mx (hi9 (v 0) st k) (nt (v 0) st (k + 1)))), (9, .int (lo99 (v 0) st (k + 1))), (7, .int (ctB (fold1 v st) (k + 1))), (6, .int ((sumI (v 1) k) + (v 1 k))), (8, .int (ctB (rtP v) (k + 1))), (0, .ref sm), (1, .ref (q 0)), (2, .int (nI N)), (3, .ref x1), (4, .ref x2), (5, .int (nI h)), (12, .int (fam v st mk k)), (13, .ref x3), (15, .ref (a k)), (16, .ref x4), (17, .int (b2i (exB (rtE v k) (k + 1)))), (18, .int (nI (k + 1)))]) hx hb dX1_isSame_521 hl (k := 14) rfl (nI_1 _) (by decide) rfl (fun ls hl => ?_)
                                      refine lv_goto (tgt := 53) hx hb dX1_isSame_524 (by decide) ?_
                                      refine W.widen (k := 3 + 4 * (k + 1)) (n := 60 + 8 * (k + 1)) (by omega) (by omega) ?_
                                      exact ih1 (k + 1) (g8.1, g8.2, (upd u8.2.2 x0 ((u8.2.2 x0) + 1))) ls H locs (by omega) ⟨⟨by omega, hG1, hG2, sung_s hx0 hxe hk1.2.2.2⟩, hX, hC, h_x1, h_x2, h_x3, hS, by rw [hhe, fam_s3 (by omega) c350 c359b]; exact lv_sub hl [7, 8, 9, 10, 11, 12, 5, 4, 6, 3, 2, 1, 13, 14, 0] rfl⟩
                                    · have c516b := b2i_t c516
                                      exact absurd (by rw [b2i_n1 c508]; rfl) c516
                                  · refine lv_iconst (v := 1) hx hb dX1_isSame_511 (by decide) ?_
                                    refine lv_goto (tgt := 516) hx hb dX1_isSame_512 (by decide) ?_
                                    refine lv_icmp_eq (tgt := 521) hx hb dX1_isSame_516 (by decide) (fun c516 => ?_) (fun c516 => ?_)
                                    · refine lv_iinc (v := (nI (k + 1))) (lv' := [(14, .int (nI (k + 1))), (11, .int ((sumI (fun i => nt (v 0) st (i + 1)) k) + (nt (v 0) st (k + 1)))), (10, .int (mx (hi9 (v 0) st k) (nt (v 0) st (k + 1)))), (9, .int (lo99 (v 0) st (k + 1))), (7, .int (ctB (fold1 v st) (k + 1))), (6, .int ((sumI (v 1) k) + (v 1 k))), (8, .int (ctB (rtP v) (k + 1))), (0, .ref sm), (1, .ref (q 0)), (2, .int (nI N)), (3, .ref x1), (4, .ref x2), (5, .int (nI h)), (12, .int (fam v st mk k)), (13, .ref x3), (15, .ref (a k)), (16, .ref x4), (17, .int (b2i (exB (rtE v k) (k + 1)))), (18, .int (nI (k + 1)))]) hx hb dX1_isSame_521 hl (k := 14) rfl (nI_1 _) (by decide) rfl (fun ls hl => ?_)
                                      refine lv_goto (tgt := 53) hx hb dX1_isSame_524 (by decide) ?_
                                      refine W.widen (k := 3 + 4 * (k + 1)) (n := 60 + 8 * (k + 1)) (by omega) (by omega) ?_
                                      exact ih1 (k + 1) (g8.1, g8.2, (upd u8.2.2 x0 ((u8.2.2 x0) + 1))) ls H locs (by omega) ⟨⟨by omega, hG1, hG2, sung_s hx0 hxe hk1.2.2.2⟩, hX, hC, h_x1, h_x2, h_x3, hS, by rw [hhe, fam_s3 (by omega) c350 c359b]; exact lv_sub hl [7, 8, 9, 10, 11, 12, 5, 4, 6, 3, 2, 1, 13, 14, 0] rfl⟩
                                    · exact absurd c508 c516
            · have c359b := b2i_t c359
              refine lv_iload hx hb dX1_isSame_362 (lv_at hl 14 rfl) ?_
              refine lv_istore (lv' := [(12, .int (nI k)), (11, .int ((sumI (fun i => nt (v 0) st (i + 1)) k) + (nt (v 0) st (k + 1)))), (10, .int (mx (hi9 (v 0) st k) (nt (v 0) st (k + 1)))), (9, .int (lo99 (v 0) st (k + 1))), (7, .int (ctB (fold1 v st) (k + 1))), (6, .int ((sumI (v 1) k) + (v 1 k))), (8, .int (ctB (rtP v) (k + 1))), (0, .ref sm), (1, .ref (q 0)), (2, .int (nI N)), (3, .ref x1), (4, .ref x2), (5, .int (nI h)), (13, .ref x3), (14, .int (nI k)), (15, .ref (a k)), (16, .ref x4), (17, .int (b2i (exB (rtE v k) (k + 1)))), (18, .int (nI (k + 1)))]) hx hb dX1_isSame_364 hl (by decide) rfl (fun ls hl => ?_)
              refine lv_aload_n hx hb dX1_isSame_366 rfl (lv_at hl 8 rfl) ?_
              refine lv_iload hx hb dX1_isSame_367 (lv_at hl 14 rfl) ?_
              refine cVi (As := [.int (nI k)]) (rest := []) hF (mX0_turnOf hinv.1 hde k (by omega)) C0.mv hC (C0.rc hC) jyX0_turnOf kl_RX1_65 ⟨rfl, rfl⟩ ⟨Nat.le_of_ble_eq_true rfl, Nat.le_of_ble_eq_true rfl⟩ rfl hl.1 rfl (Nat.le_of_ble_eq_true rfl) ⟨(by show _ ≤ 130; omega), (by show _ ≤ 320; omega)⟩ dX1_isSame_369 (fun r9 hr9 => ?_)
              subst hr9
              refine lv_aload hx hb dX1_isSame_372 (lv_at hl 15 rfl) ?_
              refine lv_iconst (v := 0) hx hb dX1_isSame_374 (by decide) ?_
              refine S0.ldR hF hX k (by omega) 0 (by decide) rfl dX1_isSame_375 ?_
              refine topI (show (rowV v st mk) k 0 = v 0 k from rfl) ?_
              refine lv_icmp_ne (tgt := 519) hx hb dX1_isSame_376 (by decide) (fun c376 => ?_) (fun c376 => ?_)
              · exact absurd rfl c376
              · refine lv_aload_n hx hb dX1_isSame_379 rfl (lv_at hl 8 rfl) ?_
                refine lv_iload hx hb dX1_isSame_380 (lv_at hl 14 rfl) ?_
                refine cVi (As := [.int (nI k)]) (rest := []) hF (mX0_headingOf hinv.1 hde k (by omega)) C0.mv hC (C0.rc hC) jyX0_headingOf kl_RX1_70 ⟨rfl, rfl⟩ ⟨Nat.le_of_ble_eq_true rfl, Nat.le_of_ble_eq_true rfl⟩ rfl hl.1 rfl (Nat.le_of_ble_eq_true rfl) ⟨(by show _ ≤ 130; omega), (by show _ ≤ 320; omega)⟩ dX1_isSame_382 (fun r9 hr9 => ?_)
                subst hr9
                rw [hhe]
                refine lv_iload hx hb dX1_isSame_385 (lv_at hl 12 rfl) ?_
                refine lv_icmp_ne (tgt := 519) hx hb dX1_isSame_387 (by decide) (fun c387 => ?_) (fun c387 => ?_)
                · have c387n : ¬ h = h := fun h9 => c387 ((nI_eq (a := h) (b := h) (by omega) (by omega)).mpr h9)
                  exact absurd rfl c387
                · have c387n : h = h := (nI_eq (a := h) (b := h) (by omega) (by omega)).mp c387
                  refine lv_aload_n hx hb dX1_isSame_390 rfl (lv_at hl 8 rfl) ?_
                  refine lv_iload hx hb dX1_isSame_391 (lv_at hl 14 rfl) ?_
                  refine cVi (As := [.int (nI k)]) (rest := []) hF (mX0_landmarkOf hinv.1 hde k (by omega)) C0.mv hC (C0.rc hC) jyX0_landmarkOf kl_RX1_73 ⟨rfl, rfl⟩ ⟨Nat.le_of_ble_eq_true rfl, Nat.le_of_ble_eq_true rfl⟩ rfl hl.1 rfl (Nat.le_of_ble_eq_true rfl) ⟨(by show _ ≤ 130; omega), (by show _ ≤ 320; omega)⟩ dX1_isSame_393 (fun r9 hr9 => ?_)
                  subst hr9
                  refine lv_aload hx hb dX1_isSame_396 (lv_at hl 15 rfl) ?_
                  refine lv_iconst (v := 2) hx hb dX1_isSame_398 (by decide) ?_
                  refine S0.ldR hF hX k (by omega) 2 (by decide) rfl dX1_isSame_399 ?_
                  refine topI (show (rowV v st mk) k 2 = v 2 k from rfl) ?_
                  refine lv_icmp_ne (tgt := 519) hx hb dX1_isSame_400 (by decide) (fun c400 => ?_) (fun c400 => ?_)
                  · exact absurd rfl c400
                  · refine lv_aload_n hx hb dX1_isSame_403 rfl (lv_at hl 8 rfl) ?_
                    refine lv_iload hx hb dX1_isSame_404 (lv_at hl 14 rfl) ?_
                    refine cVi (As := [.int (nI k)]) (rest := []) hF (mX0_noteOf hinv.1 hde k (by omega)) C0.mv hC (C0.rc hC) jyX0_noteOf kl_RX1_76 ⟨rfl, rfl⟩ ⟨Nat.le_of_ble_eq_true rfl, Nat.le_of_ble_eq_true rfl⟩ rfl hl.1 rfl (Nat.le_of_ble_eq_true rfl) ⟨(by show _ ≤ 130; omega), (by show _ ≤ 320; omega)⟩ dX1_isSame_406 (fun r9 hr9 => ?_)
                    subst hr9
                    refine lv_aload hx hb dX1_isSame_409 (lv_at hl 15 rfl) ?_
                    refine lv_iconst (v := 3) hx hb dX1_isSame_411 (by decide) ?_
                    refine S0.ldR hF hX k (by omega) 3 (by decide) rfl dX1_isSame_412 ?_
                    refine topI (show (rowV v st mk) k 3 = nt (v 0) st (k + 1) from rfl) ?_
                    refine lv_icmp_ne (tgt := 519) hx hb dX1_isSame_413 (by decide) (fun c413 => ?_) (fun c413 => ?_)
                    · exact absurd rfl c413
                    · refine lv_aload_n hx hb dX1_isSame_416 rfl (lv_at hl 8 rfl) ?_
                      refine lv_iload hx hb dX1_isSame_417 (lv_at hl 14 rfl) ?_
                      refine cVi (As := [.int (nI k)]) (rest := []) hF (mX0_isFolded hinv.1 hde k (by omega)) C0.mv hC (C0.rc hC) jyX0_isFolded kl_RX1_79 ⟨rfl, rfl⟩ ⟨Nat.le_of_ble_eq_true rfl, Nat.le_of_ble_eq_true rfl⟩ rfl hl.1 rfl (Nat.le_of_ble_eq_true rfl) ⟨(by show _ ≤ 130; omega), (by show _ ≤ 320; omega)⟩ dX1_isSame_419 (fun r9 hr9 => ?_)
                      subst hr9
                      refine lv_aload hx hb dX1_isSame_422 (lv_at hl 15 rfl) ?_
                      refine lv_iconst (v := 4) hx hb dX1_isSame_424 (by decide) ?_
                      refine S0.ldR hF hX k (by omega) 4 (by decide) rfl dX1_isSame_425 ?_
                      refine topI (show (rowV v st mk) k 4 = b2i (fold1 v st k) from rfl) ?_
                      refine lv_iconst (v := 1) hx hb dX1_isSame_426 (by decide) ?_
                      refine lv_icmp_ne (tgt := 434) hx hb dX1_isSame_427 (by decide) (fun c427 => ?_) (fun c427 => ?_)
                      · refine lv_iconst (v := 0) hx hb dX1_isSame_434 (by decide) ?_
                        refine lv_icmp_ne (tgt := 519) hx hb dX1_isSame_435 (by decide) (fun c435 => ?_) (fun c435 => ?_)
                        · have c435b := b2i_t c435
                          exact absurd (by rw [b2i_n1 c427]; rfl) c435
                        · have c435b := b2i_f c435
                          refine lv_aload_n hx hb dX1_isSame_438 rfl (lv_at hl 8 rfl) ?_
                          refine lv_iload hx hb dX1_isSame_439 (lv_at hl 14 rfl) ?_
                          refine cVi (As := [.int (nI k)]) (rest := []) hF (mX0_wordIn hinv.1 hde k (by omega)) C0.mv hC (C0.rc hC) jyX0_wordIn kl_RX1_82 ⟨rfl, rfl⟩ ⟨Nat.le_of_ble_eq_true rfl, Nat.le_of_ble_eq_true rfl⟩ rfl hl.1 rfl (Nat.le_of_ble_eq_true rfl) ⟨(by show _ ≤ 130; omega), (by show _ ≤ 320; omega)⟩ dX1_isSame_441 (fun r9 hr9 => ?_)
                          subst hr9
                          refine lv_aload_n hx hb dX1_isSame_444 rfl (lv_at hl 7 rfl) ?_
                          refine S0.gW hF hX kf_RX1_15 dX1_isSame_445 ?_
                          refine lv_aload hx hb dX1_isSame_448 (lv_at hl 15 rfl) ?_
                          refine lv_iconst (v := 2) hx hb dX1_isSame_450 (by decide) ?_
                          refine S0.ldR hF hX k (by omega) 2 (by decide) rfl dX1_isSame_451 ?_
                          refine topI (show (rowV v st mk) k 2 = v 2 k from rfl) ?_
                          refine S0.ldW hF hX (ix (v 2 k)) (okM10 hok k) (okM hok k) dX1_isSame_452 ?_
                          refine lv_icmp_ne (tgt := 519) hx hb dX1_isSame_453 (by decide) (fun c453 => ?_) (fun c453 => ?_)
                          · exact absurd rfl c453
                          · refine lv_aload_n hx hb dX1_isSame_456 rfl (lv_at hl 8 rfl) ?_
                            refine lv_iload hx hb dX1_isSame_457 (lv_at hl 14 rfl) ?_
                            refine cVi (As := [.int (nI k)]) (rest := []) hF (mX0_readings hinv.1 hde k (by omega)) C0.mv hC (C0.rc hC) jyX0_readings kl_RX1_85 ⟨rfl, rfl⟩ ⟨Nat.le_of_ble_eq_true rfl, Nat.le_of_ble_eq_true rfl⟩ rfl hl.1 rfl (Nat.le_of_ble_eq_true rfl) ⟨(by show _ ≤ 130; omega), (by show _ ≤ 320; omega)⟩ dX1_isSame_459 (fun r9 hr9 => ?_)
                            subst hr9
                            refine lv_aload hx hb dX1_isSame_462 (lv_at hl 16 rfl) ?_
                            refine lv_iconst (v := 0) hx hb dX1_isSame_464 (by decide) ?_
                            refine ldI hF hX.2.1 h_x4 0 (by decide) (by decide) rfl dX1_isSame_465 ?_
                            refine lv_icmp_ne (tgt := 519) hx hb dX1_isSame_466 (by decide) (fun c466 => ?_) (fun c466 => ?_)
                            · exact absurd rfl c466
                            · refine lv_aload_n hx hb dX1_isSame_469 rfl (lv_at hl 8 rfl) ?_
                              refine lv_iload hx hb dX1_isSame_470 (lv_at hl 14 rfl) ?_
                              refine cVi (As := [.int (nI k)]) (rest := []) hF (mX0_rightReading hinv.1 hde k (by omega)) C0.mv hC (C0.rc hC) jyX0_rightReading kl_RX1_87 ⟨rfl, rfl⟩ ⟨Nat.le_of_ble_eq_true rfl, Nat.le_of_ble_eq_true rfl⟩ rfl hl.1 rfl (Nat.le_of_ble_eq_true rfl) ⟨(by show _ ≤ 130; omega), (by show _ ≤ 320; omega)⟩ dX1_isSame_472 (fun r9 hr9 => ?_)
                              subst hr9
                              refine lv_aload hx hb dX1_isSame_475 (lv_at hl 16 rfl) ?_
                              refine lv_iconst (v := 1) hx hb dX1_isSame_477 (by decide) ?_
                              refine ldI hF hX.2.1 h_x4 1 (by decide) (by decide) rfl dX1_isSame_478 ?_
                              refine lv_icmp_ne (tgt := 519) hx hb dX1_isSame_479 (by decide) (fun c479 => ?_) (fun c479 => ?_)
                              · exact absurd rfl c479
                              · refine lv_aload_n hx hb dX1_isSame_482 rfl (lv_at hl 8 rfl) ?_
                                refine lv_iload hx hb dX1_isSame_483 (lv_at hl 14 rfl) ?_
                                refine cVi (As := [.int (nI k)]) (rest := []) hF (mX0_isAmbiguous hinv.1 hde k (by omega)) C0.mv hC (C0.rc hC) jyX0_isAmbiguous kl_RX1_90 ⟨rfl, rfl⟩ ⟨Nat.le_of_ble_eq_true rfl, Nat.le_of_ble_eq_true rfl⟩ rfl hl.1 rfl (Nat.le_of_ble_eq_true rfl) ⟨(by show _ ≤ 130; omega), (by show _ ≤ 320; omega)⟩ dX1_isSame_485 (fun r9 hr9 => ?_)
                                subst hr9
                                refine lv_aload_n hx hb dX1_isSame_488 rfl (lv_at hl 7 rfl) ?_
                                refine lv_iload hx hb dX1_isSame_489 (lv_at hl 14 rfl) ?_
                                refine wVi (mc := 1) (ms := 2) (As := [.int (nI k)]) (rest := [.int (b2i (amb v st mk k))]) hF (mX1_isOpen hok k (by omega)) S0.mv (fun _ => Mv.const) hX hX.rc jyX1_isOpen kl_RX1_39 ⟨rfl, rfl⟩ ⟨Nat.le_of_ble_eq_true rfl, Nat.le_of_ble_eq_true rfl⟩ rfl hl.1 rfl (Nat.le_of_ble_eq_true rfl) ⟨by show _ + 1 ≤ 130; omega, by show _ + 2 ≤ 320; omega⟩ hS (fun _ _ h => h.elim) (fun _ h => h.elim) dX1_isSame_491 (fun r9 u9 H locs hp9 hB9 hz hk hS => ?_)
                                have ho : ∀ q : Nat, q < _ → H[q]? = _ := fun q h9 => hk q h9 (fun h => h)
                                have hX := hX0.up hS
                                have hC := C0.upS hC0 hS
                                have h_x1 := h_x1.upK ho
                                have h_x2 := h_x2.upK ho
                                have h_x3 := h_x3.upK ho
                                have h_x4 := h_x4.upK ho
                                subst hp9
                                refine lv_icmp_ne (tgt := 519) hx hb dX1_isSame_494 (by decide) (fun c494 => ?_) (fun c494 => ?_)
                                · exact absurd rfl c494
                                · refine lv_aload_n hx hb dX1_isSame_497 rfl (lv_at hl 8 rfl) ?_
                                  refine lv_iload hx hb dX1_isSame_498 (lv_at hl 14 rfl) ?_
                                  refine cVi (As := [.int (nI k)]) (rest := []) hF (mX0_isMended hinv.1 hde k (by omega)) C0.mv hC (C0.rc hC) jyX0_isMended kl_RX1_93 ⟨rfl, rfl⟩ ⟨Nat.le_of_ble_eq_true rfl, Nat.le_of_ble_eq_true rfl⟩ rfl hl.1 rfl (Nat.le_of_ble_eq_true rfl) ⟨(by show _ ≤ 130; omega), (by show _ ≤ 320; omega)⟩ dX1_isSame_500 (fun r9 hr9 => ?_)
                                  subst hr9
                                  refine lv_aload hx hb dX1_isSame_503 (lv_at hl 15 rfl) ?_
                                  refine lv_iconst (v := 5) hx hb dX1_isSame_505 (by decide) ?_
                                  refine S0.ldR hF hX k (by omega) 5 (by decide) rfl dX1_isSame_506 ?_
                                  refine topI (show (rowV v st mk) k 5 = b2i (mk k) from rfl) ?_
                                  refine lv_iconst (v := 1) hx hb dX1_isSame_507 (by decide) ?_
                                  refine lv_icmp_ne (tgt := 515) hx hb dX1_isSame_508 (by decide) (fun c508 => ?_) (fun c508 => ?_)
                                  · refine lv_iconst (v := 0) hx hb dX1_isSame_515 (by decide) ?_
                                    refine lv_icmp_eq (tgt := 521) hx hb dX1_isSame_516 (by decide) (fun c516 => ?_) (fun c516 => ?_)
                                    · have c516b := b2i_f c516
                                      refine lv_iinc (v := (nI (k + 1))) (lv' := [(14, .int (nI (k + 1))), (12, .int (nI k)), (11, .int ((sumI (fun i => nt (v 0) st (i + 1)) k) + (nt (v 0) st (k + 1)))), (10, .int (mx (hi9 (v 0) st k) (nt (v 0) st (k + 1)))), (9, .int (lo99 (v 0) st (k + 1))), (7, .int (ctB (fold1 v st) (k + 1))), (6, .int ((sumI (v 1) k) + (v 1 k))), (8, .int (ctB (rtP v) (k + 1))), (0, .ref sm), (1, .ref (q 0)), (2, .int (nI N)), (3, .ref x1), (4, .ref x2), (5, .int (nI h)), (13, .ref x3), (15, .ref (a k)), (16, .ref x4), (17, .int (b2i (exB (rtE v k) (k + 1)))), (18, .int (nI (k + 1)))]) hx hb dX1_isSame_521 hl (k := 14) rfl (nI_1 _) (by decide) rfl (fun ls hl => ?_)
                                      refine lv_goto (tgt := 53) hx hb dX1_isSame_524 (by decide) ?_
                                      refine W.widen (k := 3 + 4 * (k + 1)) (n := 60 + 8 * (k + 1)) (by omega) (by omega) ?_
                                      exact ih1 (k + 1) (g8.1, g8.2, (upd u8.2.2 x0 ((u8.2.2 x0) + 1))) ls H locs (by omega) ⟨⟨by omega, hG1, hG2, sung_s hx0 hxe hk1.2.2.2⟩, hX, hC, h_x1, h_x2, h_x3, hS, by rw [hhe, fam_s2 (by omega) c350 c359b]; exact lv_sub hl [8, 9, 10, 11, 12, 13, 6, 5, 7, 4, 3, 2, 1, 14, 0] rfl⟩
                                    · have c516b := b2i_t c516
                                      exact absurd (by rw [b2i_n1 c508]; rfl) c516
                                  · refine lv_iconst (v := 1) hx hb dX1_isSame_511 (by decide) ?_
                                    refine lv_goto (tgt := 516) hx hb dX1_isSame_512 (by decide) ?_
                                    refine lv_icmp_eq (tgt := 521) hx hb dX1_isSame_516 (by decide) (fun c516 => ?_) (fun c516 => ?_)
                                    · refine lv_iinc (v := (nI (k + 1))) (lv' := [(14, .int (nI (k + 1))), (12, .int (nI k)), (11, .int ((sumI (fun i => nt (v 0) st (i + 1)) k) + (nt (v 0) st (k + 1)))), (10, .int (mx (hi9 (v 0) st k) (nt (v 0) st (k + 1)))), (9, .int (lo99 (v 0) st (k + 1))), (7, .int (ctB (fold1 v st) (k + 1))), (6, .int ((sumI (v 1) k) + (v 1 k))), (8, .int (ctB (rtP v) (k + 1))), (0, .ref sm), (1, .ref (q 0)), (2, .int (nI N)), (3, .ref x1), (4, .ref x2), (5, .int (nI h)), (13, .ref x3), (15, .ref (a k)), (16, .ref x4), (17, .int (b2i (exB (rtE v k) (k + 1)))), (18, .int (nI (k + 1)))]) hx hb dX1_isSame_521 hl (k := 14) rfl (nI_1 _) (by decide) rfl (fun ls hl => ?_)
                                      refine lv_goto (tgt := 53) hx hb dX1_isSame_524 (by decide) ?_
                                      refine W.widen (k := 3 + 4 * (k + 1)) (n := 60 + 8 * (k + 1)) (by omega) (by omega) ?_
                                      exact ih1 (k + 1) (g8.1, g8.2, (upd u8.2.2 x0 ((u8.2.2 x0) + 1))) ls H locs (by omega) ⟨⟨by omega, hG1, hG2, sung_s hx0 hxe hk1.2.2.2⟩, hX, hC, h_x1, h_x2, h_x3, hS, by rw [hhe, fam_s2 (by omega) c350 c359b]; exact lv_sub hl [8, 9, 10, 11, 12, 13, 6, 5, 7, 4, 3, 2, 1, 14, 0] rfl⟩
                                    · exact absurd c508 c516
                      · refine lv_iconst (v := 1) hx hb dX1_isSame_430 (by decide) ?_
                        refine lv_goto (tgt := 435) hx hb dX1_isSame_431 (by decide) ?_
                        refine lv_icmp_ne (tgt := 519) hx hb dX1_isSame_435 (by decide) (fun c435 => ?_) (fun c435 => ?_)
                        · exact absurd c427 c435
                        · refine lv_aload_n hx hb dX1_isSame_438 rfl (lv_at hl 8 rfl) ?_
                          refine lv_iload hx hb dX1_isSame_439 (lv_at hl 14 rfl) ?_
                          refine cVi (As := [.int (nI k)]) (rest := []) hF (mX0_wordIn hinv.1 hde k (by omega)) C0.mv hC (C0.rc hC) jyX0_wordIn kl_RX1_82 ⟨rfl, rfl⟩ ⟨Nat.le_of_ble_eq_true rfl, Nat.le_of_ble_eq_true rfl⟩ rfl hl.1 rfl (Nat.le_of_ble_eq_true rfl) ⟨(by show _ ≤ 130; omega), (by show _ ≤ 320; omega)⟩ dX1_isSame_441 (fun r9 hr9 => ?_)
                          subst hr9
                          refine lv_aload_n hx hb dX1_isSame_444 rfl (lv_at hl 7 rfl) ?_
                          refine S0.gW hF hX kf_RX1_15 dX1_isSame_445 ?_
                          refine lv_aload hx hb dX1_isSame_448 (lv_at hl 15 rfl) ?_
                          refine lv_iconst (v := 2) hx hb dX1_isSame_450 (by decide) ?_
                          refine S0.ldR hF hX k (by omega) 2 (by decide) rfl dX1_isSame_451 ?_
                          refine topI (show (rowV v st mk) k 2 = v 2 k from rfl) ?_
                          refine S0.ldW hF hX (ix (v 2 k)) (okM10 hok k) (okM hok k) dX1_isSame_452 ?_
                          refine lv_icmp_ne (tgt := 519) hx hb dX1_isSame_453 (by decide) (fun c453 => ?_) (fun c453 => ?_)
                          · exact absurd rfl c453
                          · refine lv_aload_n hx hb dX1_isSame_456 rfl (lv_at hl 8 rfl) ?_
                            refine lv_iload hx hb dX1_isSame_457 (lv_at hl 14 rfl) ?_
                            refine cVi (As := [.int (nI k)]) (rest := []) hF (mX0_readings hinv.1 hde k (by omega)) C0.mv hC (C0.rc hC) jyX0_readings kl_RX1_85 ⟨rfl, rfl⟩ ⟨Nat.le_of_ble_eq_true rfl, Nat.le_of_ble_eq_true rfl⟩ rfl hl.1 rfl (Nat.le_of_ble_eq_true rfl) ⟨(by show _ ≤ 130; omega), (by show _ ≤ 320; omega)⟩ dX1_isSame_459 (fun r9 hr9 => ?_)
                            subst hr9
                            refine lv_aload hx hb dX1_isSame_462 (lv_at hl 16 rfl) ?_
                            refine lv_iconst (v := 0) hx hb dX1_isSame_464 (by decide) ?_
                            refine ldI hF hX.2.1 h_x4 0 (by decide) (by decide) rfl dX1_isSame_465 ?_
                            refine lv_icmp_ne (tgt := 519) hx hb dX1_isSame_466 (by decide) (fun c466 => ?_) (fun c466 => ?_)
                            · exact absurd rfl c466
                            · refine lv_aload_n hx hb dX1_isSame_469 rfl (lv_at hl 8 rfl) ?_
                              refine lv_iload hx hb dX1_isSame_470 (lv_at hl 14 rfl) ?_
                              refine cVi (As := [.int (nI k)]) (rest := []) hF (mX0_rightReading hinv.1 hde k (by omega)) C0.mv hC (C0.rc hC) jyX0_rightReading kl_RX1_87 ⟨rfl, rfl⟩ ⟨Nat.le_of_ble_eq_true rfl, Nat.le_of_ble_eq_true rfl⟩ rfl hl.1 rfl (Nat.le_of_ble_eq_true rfl) ⟨(by show _ ≤ 130; omega), (by show _ ≤ 320; omega)⟩ dX1_isSame_472 (fun r9 hr9 => ?_)
                              subst hr9
                              refine lv_aload hx hb dX1_isSame_475 (lv_at hl 16 rfl) ?_
                              refine lv_iconst (v := 1) hx hb dX1_isSame_477 (by decide) ?_
                              refine ldI hF hX.2.1 h_x4 1 (by decide) (by decide) rfl dX1_isSame_478 ?_
                              refine lv_icmp_ne (tgt := 519) hx hb dX1_isSame_479 (by decide) (fun c479 => ?_) (fun c479 => ?_)
                              · exact absurd rfl c479
                              · refine lv_aload_n hx hb dX1_isSame_482 rfl (lv_at hl 8 rfl) ?_
                                refine lv_iload hx hb dX1_isSame_483 (lv_at hl 14 rfl) ?_
                                refine cVi (As := [.int (nI k)]) (rest := []) hF (mX0_isAmbiguous hinv.1 hde k (by omega)) C0.mv hC (C0.rc hC) jyX0_isAmbiguous kl_RX1_90 ⟨rfl, rfl⟩ ⟨Nat.le_of_ble_eq_true rfl, Nat.le_of_ble_eq_true rfl⟩ rfl hl.1 rfl (Nat.le_of_ble_eq_true rfl) ⟨(by show _ ≤ 130; omega), (by show _ ≤ 320; omega)⟩ dX1_isSame_485 (fun r9 hr9 => ?_)
                                subst hr9
                                refine lv_aload_n hx hb dX1_isSame_488 rfl (lv_at hl 7 rfl) ?_
                                refine lv_iload hx hb dX1_isSame_489 (lv_at hl 14 rfl) ?_
                                refine wVi (mc := 1) (ms := 2) (As := [.int (nI k)]) (rest := [.int (b2i (amb v st mk k))]) hF (mX1_isOpen hok k (by omega)) S0.mv (fun _ => Mv.const) hX hX.rc jyX1_isOpen kl_RX1_39 ⟨rfl, rfl⟩ ⟨Nat.le_of_ble_eq_true rfl, Nat.le_of_ble_eq_true rfl⟩ rfl hl.1 rfl (Nat.le_of_ble_eq_true rfl) ⟨by show _ + 1 ≤ 130; omega, by show _ + 2 ≤ 320; omega⟩ hS (fun _ _ h => h.elim) (fun _ h => h.elim) dX1_isSame_491 (fun r9 u9 H locs hp9 hB9 hz hk hS => ?_)
                                have ho : ∀ q : Nat, q < _ → H[q]? = _ := fun q h9 => hk q h9 (fun h => h)
                                have hX := hX0.up hS
                                have hC := C0.upS hC0 hS
                                have h_x1 := h_x1.upK ho
                                have h_x2 := h_x2.upK ho
                                have h_x3 := h_x3.upK ho
                                have h_x4 := h_x4.upK ho
                                subst hp9
                                refine lv_icmp_ne (tgt := 519) hx hb dX1_isSame_494 (by decide) (fun c494 => ?_) (fun c494 => ?_)
                                · exact absurd rfl c494
                                · refine lv_aload_n hx hb dX1_isSame_497 rfl (lv_at hl 8 rfl) ?_
                                  refine lv_iload hx hb dX1_isSame_498 (lv_at hl 14 rfl) ?_
                                  refine cVi (As := [.int (nI k)]) (rest := []) hF (mX0_isMended hinv.1 hde k (by omega)) C0.mv hC (C0.rc hC) jyX0_isMended kl_RX1_93 ⟨rfl, rfl⟩ ⟨Nat.le_of_ble_eq_true rfl, Nat.le_of_ble_eq_true rfl⟩ rfl hl.1 rfl (Nat.le_of_ble_eq_true rfl) ⟨(by show _ ≤ 130; omega), (by show _ ≤ 320; omega)⟩ dX1_isSame_500 (fun r9 hr9 => ?_)
                                  subst hr9
                                  refine lv_aload hx hb dX1_isSame_503 (lv_at hl 15 rfl) ?_
                                  refine lv_iconst (v := 5) hx hb dX1_isSame_505 (by decide) ?_
                                  refine S0.ldR hF hX k (by omega) 5 (by decide) rfl dX1_isSame_506 ?_
                                  refine topI (show (rowV v st mk) k 5 = b2i (mk k) from rfl) ?_
                                  refine lv_iconst (v := 1) hx hb dX1_isSame_507 (by decide) ?_
                                  refine lv_icmp_ne (tgt := 515) hx hb dX1_isSame_508 (by decide) (fun c508 => ?_) (fun c508 => ?_)
                                  · refine lv_iconst (v := 0) hx hb dX1_isSame_515 (by decide) ?_
                                    refine lv_icmp_eq (tgt := 521) hx hb dX1_isSame_516 (by decide) (fun c516 => ?_) (fun c516 => ?_)
                                    · have c516b := b2i_f c516
                                      refine lv_iinc (v := (nI (k + 1))) (lv' := [(14, .int (nI (k + 1))), (12, .int (nI k)), (11, .int ((sumI (fun i => nt (v 0) st (i + 1)) k) + (nt (v 0) st (k + 1)))), (10, .int (mx (hi9 (v 0) st k) (nt (v 0) st (k + 1)))), (9, .int (lo99 (v 0) st (k + 1))), (7, .int (ctB (fold1 v st) (k + 1))), (6, .int ((sumI (v 1) k) + (v 1 k))), (8, .int (ctB (rtP v) (k + 1))), (0, .ref sm), (1, .ref (q 0)), (2, .int (nI N)), (3, .ref x1), (4, .ref x2), (5, .int (nI h)), (13, .ref x3), (15, .ref (a k)), (16, .ref x4), (17, .int (b2i (exB (rtE v k) (k + 1)))), (18, .int (nI (k + 1)))]) hx hb dX1_isSame_521 hl (k := 14) rfl (nI_1 _) (by decide) rfl (fun ls hl => ?_)
                                      refine lv_goto (tgt := 53) hx hb dX1_isSame_524 (by decide) ?_
                                      refine W.widen (k := 3 + 4 * (k + 1)) (n := 60 + 8 * (k + 1)) (by omega) (by omega) ?_
                                      exact ih1 (k + 1) (g8.1, g8.2, (upd u8.2.2 x0 ((u8.2.2 x0) + 1))) ls H locs (by omega) ⟨⟨by omega, hG1, hG2, sung_s hx0 hxe hk1.2.2.2⟩, hX, hC, h_x1, h_x2, h_x3, hS, by rw [hhe, fam_s2 (by omega) c350 c359b]; exact lv_sub hl [8, 9, 10, 11, 12, 13, 6, 5, 7, 4, 3, 2, 1, 14, 0] rfl⟩
                                    · have c516b := b2i_t c516
                                      exact absurd (by rw [b2i_n1 c508]; rfl) c516
                                  · refine lv_iconst (v := 1) hx hb dX1_isSame_511 (by decide) ?_
                                    refine lv_goto (tgt := 516) hx hb dX1_isSame_512 (by decide) ?_
                                    refine lv_icmp_eq (tgt := 521) hx hb dX1_isSame_516 (by decide) (fun c516 => ?_) (fun c516 => ?_)
                                    · refine lv_iinc (v := (nI (k + 1))) (lv' := [(14, .int (nI (k + 1))), (12, .int (nI k)), (11, .int ((sumI (fun i => nt (v 0) st (i + 1)) k) + (nt (v 0) st (k + 1)))), (10, .int (mx (hi9 (v 0) st k) (nt (v 0) st (k + 1)))), (9, .int (lo99 (v 0) st (k + 1))), (7, .int (ctB (fold1 v st) (k + 1))), (6, .int ((sumI (v 1) k) + (v 1 k))), (8, .int (ctB (rtP v) (k + 1))), (0, .ref sm), (1, .ref (q 0)), (2, .int (nI N)), (3, .ref x1), (4, .ref x2), (5, .int (nI h)), (13, .ref x3), (15, .ref (a k)), (16, .ref x4), (17, .int (b2i (exB (rtE v k) (k + 1)))), (18, .int (nI (k + 1)))]) hx hb dX1_isSame_521 hl (k := 14) rfl (nI_1 _) (by decide) rfl (fun ls hl => ?_)
                                      refine lv_goto (tgt := 53) hx hb dX1_isSame_524 (by decide) ?_
                                      refine W.widen (k := 3 + 4 * (k + 1)) (n := 60 + 8 * (k + 1)) (by omega) (by omega) ?_
                                      exact ih1 (k + 1) (g8.1, g8.2, (upd u8.2.2 x0 ((u8.2.2 x0) + 1))) ls H locs (by omega) ⟨⟨by omega, hG1, hG2, sung_s hx0 hxe hk1.2.2.2⟩, hX, hC, h_x1, h_x2, h_x3, hS, by rw [hhe, fam_s2 (by omega) c350 c359b]; exact lv_sub hl [8, 9, 10, 11, 12, 13, 6, 5, 7, 4, 3, 2, 1, 14, 0] rfl⟩
                                    · exact absurd c508 c516
        · have c272b := b2i_t c272
          refine lv_iconst (v := 1) hx hb dX1_isSame_275 (by decide) ?_
          refine lv_goto (tgt := 280) hx hb dX1_isSame_276 (by decide) ?_
          refine lv_iadd hx hb dX1_isSame_280 ?_
          refine topI (show ((ctB (rtP v) k) + 1) = ctB (rtP v) (k + 1) from ctB_t' c272b) ?_
          refine lv_istore (lv' := [(8, .int (ctB (rtP v) (k + 1))), (0, .ref sm), (1, .ref (q 0)), (2, .int (nI N)), (3, .ref x1), (4, .ref x2), (5, .int (nI h)), (6, .int (sumI (v 1) k)), (7, .int (ctB (fold1 v st) k)), (9, .int (lo99 (v 0) st k)), (10, .int (hi9 (v 0) st k)), (11, .int (sumI (fun i => nt (v 0) st (i + 1)) k)), (12, .int (fam v st mk k)), (13, .ref x3), (14, .int (nI k)), (15, .ref (a k)), (16, .ref x4), (17, .int (b2i (exB (rtE v k) (k + 1)))), (18, .int (nI (k + 1)))]) hx hb dX1_isSame_281 hl (by decide) rfl (fun ls hl => ?_)
          refine lv_iload hx hb dX1_isSame_283 (lv_at hl 7 rfl) ?_
          refine lv_aload hx hb dX1_isSame_285 (lv_at hl 15 rfl) ?_
          refine lv_iconst (v := 1) hx hb dX1_isSame_287 (by decide) ?_
          refine S0.ldR hF hX k (by omega) 1 (by decide) rfl dX1_isSame_288 ?_
          refine topI (show (rowV v st mk) k 1 = v 1 k from rfl) ?_
          refine lv_iadd hx hb dX1_isSame_289 ?_
          refine lv_istore (lv' := [(6, .int ((sumI (v 1) k) + (v 1 k))), (8, .int (ctB (rtP v) (k + 1))), (0, .ref sm), (1, .ref (q 0)), (2, .int (nI N)), (3, .ref x1), (4, .ref x2), (5, .int (nI h)), (7, .int (ctB (fold1 v st) k)), (9, .int (lo99 (v 0) st k)), (10, .int (hi9 (v 0) st k)), (11, .int (sumI (fun i => nt (v 0) st (i + 1)) k)), (12, .int (fam v st mk k)), (13, .ref x3), (14, .int (nI k)), (15, .ref (a k)), (16, .ref x4), (17, .int (b2i (exB (rtE v k) (k + 1)))), (18, .int (nI (k + 1)))]) hx hb dX1_isSame_290 hl (by decide) rfl (fun ls hl => ?_)
          refine lv_iload hx hb dX1_isSame_292 (lv_at hl 8 rfl) ?_
          refine lv_aload hx hb dX1_isSame_294 (lv_at hl 15 rfl) ?_
          refine lv_iconst (v := 4) hx hb dX1_isSame_296 (by decide) ?_
          refine S0.ldR hF hX k (by omega) 4 (by decide) rfl dX1_isSame_297 ?_
          refine topI (show (rowV v st mk) k 4 = b2i (fold1 v st k) from rfl) ?_
          refine lv_iadd hx hb dX1_isSame_298 ?_
          refine topI (show ((ctB (fold1 v st) k) + (b2i (fold1 v st k))) = ctB (fold1 v st) (k + 1) from ct_b2i _ _) ?_
          refine lv_istore (lv' := [(7, .int (ctB (fold1 v st) (k + 1))), (6, .int ((sumI (v 1) k) + (v 1 k))), (8, .int (ctB (rtP v) (k + 1))), (0, .ref sm), (1, .ref (q 0)), (2, .int (nI N)), (3, .ref x1), (4, .ref x2), (5, .int (nI h)), (9, .int (lo99 (v 0) st k)), (10, .int (hi9 (v 0) st k)), (11, .int (sumI (fun i => nt (v 0) st (i + 1)) k)), (12, .int (fam v st mk k)), (13, .ref x3), (14, .int (nI k)), (15, .ref (a k)), (16, .ref x4), (17, .int (b2i (exB (rtE v k) (k + 1)))), (18, .int (nI (k + 1)))]) hx hb dX1_isSame_299 hl (by decide) rfl (fun ls hl => ?_)
          refine lv_iload hx hb dX1_isSame_301 (lv_at hl 9 rfl) ?_
          refine lv_aload hx hb dX1_isSame_303 (lv_at hl 15 rfl) ?_
          refine lv_iconst (v := 3) hx hb dX1_isSame_305 (by decide) ?_
          refine S0.ldR hF hX k (by omega) 3 (by decide) rfl dX1_isSame_306 ?_
          refine topI (show (rowV v st mk) k 3 = nt (v 0) st (k + 1) from rfl) ?_
          refine va_mmin hx hb (hml.trans hl.1.symm) hown (hts _ kl_RX1_57) (hts _ ks_LM_min_name) (hts _ kn_Math) (hts _ kd_LM_min_name) (Nat.le_of_ble_eq_true rfl) (Nat.le_of_ble_eq_true rfl) (by show _ ≤ 130; omega) (by show _ ≤ 320; omega) dX1_isSame_307 ?_
          refine topI (show (mn (lo99 (v 0) st k) (nt (v 0) st (k + 1))) = lo99 (v 0) st (k + 1) from lo99_s hinv.1 k) ?_
          refine lv_istore (lv' := [(9, .int (lo99 (v 0) st (k + 1))), (7, .int (ctB (fold1 v st) (k + 1))), (6, .int ((sumI (v 1) k) + (v 1 k))), (8, .int (ctB (rtP v) (k + 1))), (0, .ref sm), (1, .ref (q 0)), (2, .int (nI N)), (3, .ref x1), (4, .ref x2), (5, .int (nI h)), (10, .int (hi9 (v 0) st k)), (11, .int (sumI (fun i => nt (v 0) st (i + 1)) k)), (12, .int (fam v st mk k)), (13, .ref x3), (14, .int (nI k)), (15, .ref (a k)), (16, .ref x4), (17, .int (b2i (exB (rtE v k) (k + 1)))), (18, .int (nI (k + 1)))]) hx hb dX1_isSame_310 hl (by decide) rfl (fun ls hl => ?_)
          refine lv_iload hx hb dX1_isSame_312 (lv_at hl 10 rfl) ?_
          refine lv_aload hx hb dX1_isSame_314 (lv_at hl 15 rfl) ?_
          refine lv_iconst (v := 3) hx hb dX1_isSame_316 (by decide) ?_
          refine S0.ldR hF hX k (by omega) 3 (by decide) rfl dX1_isSame_317 ?_
          refine topI (show (rowV v st mk) k 3 = nt (v 0) st (k + 1) from rfl) ?_
          refine va_mmax hx hb (hml.trans hl.1.symm) hown (hts _ kl_RX1_62) (hts _ ks_LM_max_name) (hts _ kn_Math) (hts _ kd_LM_max_name) (Nat.le_of_ble_eq_true rfl) (Nat.le_of_ble_eq_true rfl) (by show _ ≤ 130; omega) (by show _ ≤ 320; omega) dX1_isSame_318 ?_
          refine lv_istore (lv' := [(10, .int (mx (hi9 (v 0) st k) (nt (v 0) st (k + 1)))), (9, .int (lo99 (v 0) st (k + 1))), (7, .int (ctB (fold1 v st) (k + 1))), (6, .int ((sumI (v 1) k) + (v 1 k))), (8, .int (ctB (rtP v) (k + 1))), (0, .ref sm), (1, .ref (q 0)), (2, .int (nI N)), (3, .ref x1), (4, .ref x2), (5, .int (nI h)), (11, .int (sumI (fun i => nt (v 0) st (i + 1)) k)), (12, .int (fam v st mk k)), (13, .ref x3), (14, .int (nI k)), (15, .ref (a k)), (16, .ref x4), (17, .int (b2i (exB (rtE v k) (k + 1)))), (18, .int (nI (k + 1)))]) hx hb dX1_isSame_321 hl (by decide) rfl (fun ls hl => ?_)
          refine lv_iload hx hb dX1_isSame_323 (lv_at hl 11 rfl) ?_
          refine lv_aload hx hb dX1_isSame_325 (lv_at hl 15 rfl) ?_
          refine lv_iconst (v := 3) hx hb dX1_isSame_327 (by decide) ?_
          refine S0.ldR hF hX k (by omega) 3 (by decide) rfl dX1_isSame_328 ?_
          refine topI (show (rowV v st mk) k 3 = nt (v 0) st (k + 1) from rfl) ?_
          refine lv_iadd hx hb dX1_isSame_329 ?_
          refine lv_istore (lv' := [(11, .int ((sumI (fun i => nt (v 0) st (i + 1)) k) + (nt (v 0) st (k + 1)))), (10, .int (mx (hi9 (v 0) st k) (nt (v 0) st (k + 1)))), (9, .int (lo99 (v 0) st (k + 1))), (7, .int (ctB (fold1 v st) (k + 1))), (6, .int ((sumI (v 1) k) + (v 1 k))), (8, .int (ctB (rtP v) (k + 1))), (0, .ref sm), (1, .ref (q 0)), (2, .int (nI N)), (3, .ref x1), (4, .ref x2), (5, .int (nI h)), (12, .int (fam v st mk k)), (13, .ref x3), (14, .int (nI k)), (15, .ref (a k)), (16, .ref x4), (17, .int (b2i (exB (rtE v k) (k + 1)))), (18, .int (nI (k + 1)))]) hx hb dX1_isSame_330 hl (by decide) rfl (fun ls hl => ?_)
          refine lv_aload hx hb dX1_isSame_332 (lv_at hl 13 rfl) ?_
          refine lv_aload_n hx hb dX1_isSame_334 rfl (lv_at hl 6 rfl) ?_
          refine S0.gW hF hX kf_RX1_15 dX1_isSame_335 ?_
          refine lv_aload hx hb dX1_isSame_338 (lv_at hl 15 rfl) ?_
          refine lv_iconst (v := 2) hx hb dX1_isSame_340 (by decide) ?_
          refine S0.ldR hF hX k (by omega) 2 (by decide) rfl dX1_isSame_341 ?_
          refine topI (show (rowV v st mk) k 2 = v 2 k from rfl) ?_
          refine S0.ldW hF hX (ix (v 2 k)) (okM10 hok k) (okM hok k) dX1_isSame_342 ?_
          refine topI (show ((v 3) (ix (v 2 k))) = nI x0 from hxe) ?_
          refine lv_dup2_11 hx hb dX1_isSame_343 rfl rfl ?_
          refine ldI hF hX.2.1 h_x3 x0 (by omega) (by decide) rfl dX1_isSame_344 ?_
          refine lv_iconst (v := 1) hx hb dX1_isSame_345 (by decide) ?_
          refine lv_iadd hx hb dX1_isSame_346 ?_
          refine stI hF hX.2.1 h_x3 hS hA_x3 x0 (by omega) (by decide) rfl dX1_isSame_347 (fun H locs h_x3 hz oq hS => ?_)
          have hX := hX0.up hS
          have hC := C0.upS hC0 hS
          have h_x1 := h_x1.k (oq _ n_x1_x3)
          have h_x2 := h_x2.k (oq _ n_x2_x3)
          have h_x4 := h_x4.k (oq _ n_x4_x3)
          refine lv_iload hx hb dX1_isSame_348 (lv_at hl 12 rfl) ?_
          refine lv_if_ge (tgt := 366) hx hb dX1_isSame_350 (by decide) (fun c350 => ?_) (fun c350 => ?_)
          · refine lv_aload_n hx hb dX1_isSame_366 rfl (lv_at hl 7 rfl) ?_
            refine lv_iload hx hb dX1_isSame_367 (lv_at hl 14 rfl) ?_
            refine cVi (As := [.int (nI k)]) (rest := []) hF (mX0_turnOf hinv.1 hde k (by omega)) C0.mv hC (C0.rc hC) jyX0_turnOf kl_RX1_65 ⟨rfl, rfl⟩ ⟨Nat.le_of_ble_eq_true rfl, Nat.le_of_ble_eq_true rfl⟩ rfl hl.1 rfl (Nat.le_of_ble_eq_true rfl) ⟨(by show _ ≤ 130; omega), (by show _ ≤ 320; omega)⟩ dX1_isSame_369 (fun r9 hr9 => ?_)
            subst hr9
            refine lv_aload hx hb dX1_isSame_372 (lv_at hl 15 rfl) ?_
            refine lv_iconst (v := 0) hx hb dX1_isSame_374 (by decide) ?_
            refine S0.ldR hF hX k (by omega) 0 (by decide) rfl dX1_isSame_375 ?_
            refine topI (show (rowV v st mk) k 0 = v 0 k from rfl) ?_
            refine lv_icmp_ne (tgt := 519) hx hb dX1_isSame_376 (by decide) (fun c376 => ?_) (fun c376 => ?_)
            · exact absurd rfl c376
            · refine lv_aload_n hx hb dX1_isSame_379 rfl (lv_at hl 7 rfl) ?_
              refine lv_iload hx hb dX1_isSame_380 (lv_at hl 14 rfl) ?_
              refine cVi (As := [.int (nI k)]) (rest := []) hF (mX0_headingOf hinv.1 hde k (by omega)) C0.mv hC (C0.rc hC) jyX0_headingOf kl_RX1_70 ⟨rfl, rfl⟩ ⟨Nat.le_of_ble_eq_true rfl, Nat.le_of_ble_eq_true rfl⟩ rfl hl.1 rfl (Nat.le_of_ble_eq_true rfl) ⟨(by show _ ≤ 130; omega), (by show _ ≤ 320; omega)⟩ dX1_isSame_382 (fun r9 hr9 => ?_)
              subst hr9
              rw [hhe]
              refine lv_iload hx hb dX1_isSame_385 (lv_at hl 11 rfl) ?_
              refine lv_icmp_ne (tgt := 519) hx hb dX1_isSame_387 (by decide) (fun c387 => ?_) (fun c387 => ?_)
              · have c387n : ¬ h = h := fun h9 => c387 ((nI_eq (a := h) (b := h) (by omega) (by omega)).mpr h9)
                exact absurd rfl c387
              · have c387n : h = h := (nI_eq (a := h) (b := h) (by omega) (by omega)).mp c387
                refine lv_aload_n hx hb dX1_isSame_390 rfl (lv_at hl 7 rfl) ?_
                refine lv_iload hx hb dX1_isSame_391 (lv_at hl 14 rfl) ?_
                refine cVi (As := [.int (nI k)]) (rest := []) hF (mX0_landmarkOf hinv.1 hde k (by omega)) C0.mv hC (C0.rc hC) jyX0_landmarkOf kl_RX1_73 ⟨rfl, rfl⟩ ⟨Nat.le_of_ble_eq_true rfl, Nat.le_of_ble_eq_true rfl⟩ rfl hl.1 rfl (Nat.le_of_ble_eq_true rfl) ⟨(by show _ ≤ 130; omega), (by show _ ≤ 320; omega)⟩ dX1_isSame_393 (fun r9 hr9 => ?_)
                subst hr9
                refine lv_aload hx hb dX1_isSame_396 (lv_at hl 15 rfl) ?_
                refine lv_iconst (v := 2) hx hb dX1_isSame_398 (by decide) ?_
                refine S0.ldR hF hX k (by omega) 2 (by decide) rfl dX1_isSame_399 ?_
                refine topI (show (rowV v st mk) k 2 = v 2 k from rfl) ?_
                refine lv_icmp_ne (tgt := 519) hx hb dX1_isSame_400 (by decide) (fun c400 => ?_) (fun c400 => ?_)
                · exact absurd rfl c400
                · refine lv_aload_n hx hb dX1_isSame_403 rfl (lv_at hl 7 rfl) ?_
                  refine lv_iload hx hb dX1_isSame_404 (lv_at hl 14 rfl) ?_
                  refine cVi (As := [.int (nI k)]) (rest := []) hF (mX0_noteOf hinv.1 hde k (by omega)) C0.mv hC (C0.rc hC) jyX0_noteOf kl_RX1_76 ⟨rfl, rfl⟩ ⟨Nat.le_of_ble_eq_true rfl, Nat.le_of_ble_eq_true rfl⟩ rfl hl.1 rfl (Nat.le_of_ble_eq_true rfl) ⟨(by show _ ≤ 130; omega), (by show _ ≤ 320; omega)⟩ dX1_isSame_406 (fun r9 hr9 => ?_)
                  subst hr9
                  refine lv_aload hx hb dX1_isSame_409 (lv_at hl 15 rfl) ?_
                  refine lv_iconst (v := 3) hx hb dX1_isSame_411 (by decide) ?_
                  refine S0.ldR hF hX k (by omega) 3 (by decide) rfl dX1_isSame_412 ?_
                  refine topI (show (rowV v st mk) k 3 = nt (v 0) st (k + 1) from rfl) ?_
                  refine lv_icmp_ne (tgt := 519) hx hb dX1_isSame_413 (by decide) (fun c413 => ?_) (fun c413 => ?_)
                  · exact absurd rfl c413
                  · refine lv_aload_n hx hb dX1_isSame_416 rfl (lv_at hl 7 rfl) ?_
                    refine lv_iload hx hb dX1_isSame_417 (lv_at hl 14 rfl) ?_
                    refine cVi (As := [.int (nI k)]) (rest := []) hF (mX0_isFolded hinv.1 hde k (by omega)) C0.mv hC (C0.rc hC) jyX0_isFolded kl_RX1_79 ⟨rfl, rfl⟩ ⟨Nat.le_of_ble_eq_true rfl, Nat.le_of_ble_eq_true rfl⟩ rfl hl.1 rfl (Nat.le_of_ble_eq_true rfl) ⟨(by show _ ≤ 130; omega), (by show _ ≤ 320; omega)⟩ dX1_isSame_419 (fun r9 hr9 => ?_)
                    subst hr9
                    refine lv_aload hx hb dX1_isSame_422 (lv_at hl 15 rfl) ?_
                    refine lv_iconst (v := 4) hx hb dX1_isSame_424 (by decide) ?_
                    refine S0.ldR hF hX k (by omega) 4 (by decide) rfl dX1_isSame_425 ?_
                    refine topI (show (rowV v st mk) k 4 = b2i (fold1 v st k) from rfl) ?_
                    refine lv_iconst (v := 1) hx hb dX1_isSame_426 (by decide) ?_
                    refine lv_icmp_ne (tgt := 434) hx hb dX1_isSame_427 (by decide) (fun c427 => ?_) (fun c427 => ?_)
                    · refine lv_iconst (v := 0) hx hb dX1_isSame_434 (by decide) ?_
                      refine lv_icmp_ne (tgt := 519) hx hb dX1_isSame_435 (by decide) (fun c435 => ?_) (fun c435 => ?_)
                      · have c435b := b2i_t c435
                        exact absurd (by rw [b2i_n1 c427]; rfl) c435
                      · have c435b := b2i_f c435
                        refine lv_aload_n hx hb dX1_isSame_438 rfl (lv_at hl 7 rfl) ?_
                        refine lv_iload hx hb dX1_isSame_439 (lv_at hl 14 rfl) ?_
                        refine cVi (As := [.int (nI k)]) (rest := []) hF (mX0_wordIn hinv.1 hde k (by omega)) C0.mv hC (C0.rc hC) jyX0_wordIn kl_RX1_82 ⟨rfl, rfl⟩ ⟨Nat.le_of_ble_eq_true rfl, Nat.le_of_ble_eq_true rfl⟩ rfl hl.1 rfl (Nat.le_of_ble_eq_true rfl) ⟨(by show _ ≤ 130; omega), (by show _ ≤ 320; omega)⟩ dX1_isSame_441 (fun r9 hr9 => ?_)
                        subst hr9
                        refine lv_aload_n hx hb dX1_isSame_444 rfl (lv_at hl 6 rfl) ?_
                        refine S0.gW hF hX kf_RX1_15 dX1_isSame_445 ?_
                        refine lv_aload hx hb dX1_isSame_448 (lv_at hl 15 rfl) ?_
                        refine lv_iconst (v := 2) hx hb dX1_isSame_450 (by decide) ?_
                        refine S0.ldR hF hX k (by omega) 2 (by decide) rfl dX1_isSame_451 ?_
                        refine topI (show (rowV v st mk) k 2 = v 2 k from rfl) ?_
                        refine S0.ldW hF hX (ix (v 2 k)) (okM10 hok k) (okM hok k) dX1_isSame_452 ?_
                        refine lv_icmp_ne (tgt := 519) hx hb dX1_isSame_453 (by decide) (fun c453 => ?_) (fun c453 => ?_)
                        · exact absurd rfl c453
                        · refine lv_aload_n hx hb dX1_isSame_456 rfl (lv_at hl 7 rfl) ?_
                          refine lv_iload hx hb dX1_isSame_457 (lv_at hl 14 rfl) ?_
                          refine cVi (As := [.int (nI k)]) (rest := []) hF (mX0_readings hinv.1 hde k (by omega)) C0.mv hC (C0.rc hC) jyX0_readings kl_RX1_85 ⟨rfl, rfl⟩ ⟨Nat.le_of_ble_eq_true rfl, Nat.le_of_ble_eq_true rfl⟩ rfl hl.1 rfl (Nat.le_of_ble_eq_true rfl) ⟨(by show _ ≤ 130; omega), (by show _ ≤ 320; omega)⟩ dX1_isSame_459 (fun r9 hr9 => ?_)
                          subst hr9
                          refine lv_aload hx hb dX1_isSame_462 (lv_at hl 16 rfl) ?_
                          refine lv_iconst (v := 0) hx hb dX1_isSame_464 (by decide) ?_
                          refine ldI hF hX.2.1 h_x4 0 (by decide) (by decide) rfl dX1_isSame_465 ?_
                          refine lv_icmp_ne (tgt := 519) hx hb dX1_isSame_466 (by decide) (fun c466 => ?_) (fun c466 => ?_)
                          · exact absurd rfl c466
                          · refine lv_aload_n hx hb dX1_isSame_469 rfl (lv_at hl 7 rfl) ?_
                            refine lv_iload hx hb dX1_isSame_470 (lv_at hl 14 rfl) ?_
                            refine cVi (As := [.int (nI k)]) (rest := []) hF (mX0_rightReading hinv.1 hde k (by omega)) C0.mv hC (C0.rc hC) jyX0_rightReading kl_RX1_87 ⟨rfl, rfl⟩ ⟨Nat.le_of_ble_eq_true rfl, Nat.le_of_ble_eq_true rfl⟩ rfl hl.1 rfl (Nat.le_of_ble_eq_true rfl) ⟨(by show _ ≤ 130; omega), (by show _ ≤ 320; omega)⟩ dX1_isSame_472 (fun r9 hr9 => ?_)
                            subst hr9
                            refine lv_aload hx hb dX1_isSame_475 (lv_at hl 16 rfl) ?_
                            refine lv_iconst (v := 1) hx hb dX1_isSame_477 (by decide) ?_
                            refine ldI hF hX.2.1 h_x4 1 (by decide) (by decide) rfl dX1_isSame_478 ?_
                            refine lv_icmp_ne (tgt := 519) hx hb dX1_isSame_479 (by decide) (fun c479 => ?_) (fun c479 => ?_)
                            · exact absurd rfl c479
                            · refine lv_aload_n hx hb dX1_isSame_482 rfl (lv_at hl 7 rfl) ?_
                              refine lv_iload hx hb dX1_isSame_483 (lv_at hl 14 rfl) ?_
                              refine cVi (As := [.int (nI k)]) (rest := []) hF (mX0_isAmbiguous hinv.1 hde k (by omega)) C0.mv hC (C0.rc hC) jyX0_isAmbiguous kl_RX1_90 ⟨rfl, rfl⟩ ⟨Nat.le_of_ble_eq_true rfl, Nat.le_of_ble_eq_true rfl⟩ rfl hl.1 rfl (Nat.le_of_ble_eq_true rfl) ⟨(by show _ ≤ 130; omega), (by show _ ≤ 320; omega)⟩ dX1_isSame_485 (fun r9 hr9 => ?_)
                              subst hr9
                              refine lv_aload_n hx hb dX1_isSame_488 rfl (lv_at hl 6 rfl) ?_
                              refine lv_iload hx hb dX1_isSame_489 (lv_at hl 14 rfl) ?_
                              refine wVi (mc := 1) (ms := 2) (As := [.int (nI k)]) (rest := [.int (b2i (amb v st mk k))]) hF (mX1_isOpen hok k (by omega)) S0.mv (fun _ => Mv.const) hX hX.rc jyX1_isOpen kl_RX1_39 ⟨rfl, rfl⟩ ⟨Nat.le_of_ble_eq_true rfl, Nat.le_of_ble_eq_true rfl⟩ rfl hl.1 rfl (Nat.le_of_ble_eq_true rfl) ⟨by show _ + 1 ≤ 130; omega, by show _ + 2 ≤ 320; omega⟩ hS (fun _ _ h => h.elim) (fun _ h => h.elim) dX1_isSame_491 (fun r9 u9 H locs hp9 hB9 hz hk hS => ?_)
                              have ho : ∀ q : Nat, q < _ → H[q]? = _ := fun q h9 => hk q h9 (fun h => h)
                              have hX := hX0.up hS
                              have hC := C0.upS hC0 hS
                              have h_x1 := h_x1.upK ho
                              have h_x2 := h_x2.upK ho
                              have h_x3 := h_x3.upK ho
                              have h_x4 := h_x4.upK ho
                              subst hp9
                              refine lv_icmp_ne (tgt := 519) hx hb dX1_isSame_494 (by decide) (fun c494 => ?_) (fun c494 => ?_)
                              · exact absurd rfl c494
                              · refine lv_aload_n hx hb dX1_isSame_497 rfl (lv_at hl 7 rfl) ?_
                                refine lv_iload hx hb dX1_isSame_498 (lv_at hl 14 rfl) ?_
                                refine cVi (As := [.int (nI k)]) (rest := []) hF (mX0_isMended hinv.1 hde k (by omega)) C0.mv hC (C0.rc hC) jyX0_isMended kl_RX1_93 ⟨rfl, rfl⟩ ⟨Nat.le_of_ble_eq_true rfl, Nat.le_of_ble_eq_true rfl⟩ rfl hl.1 rfl (Nat.le_of_ble_eq_true rfl) ⟨(by show _ ≤ 130; omega), (by show _ ≤ 320; omega)⟩ dX1_isSame_500 (fun r9 hr9 => ?_)
                                subst hr9
                                refine lv_aload hx hb dX1_isSame_503 (lv_at hl 15 rfl) ?_
                                refine lv_iconst (v := 5) hx hb dX1_isSame_505 (by decide) ?_
                                refine S0.ldR hF hX k (by omega) 5 (by decide) rfl dX1_isSame_506 ?_
                                refine topI (show (rowV v st mk) k 5 = b2i (mk k) from rfl) ?_
                                refine lv_iconst (v := 1) hx hb dX1_isSame_507 (by decide) ?_
                                refine lv_icmp_ne (tgt := 515) hx hb dX1_isSame_508 (by decide) (fun c508 => ?_) (fun c508 => ?_)
                                · refine lv_iconst (v := 0) hx hb dX1_isSame_515 (by decide) ?_
                                  refine lv_icmp_eq (tgt := 521) hx hb dX1_isSame_516 (by decide) (fun c516 => ?_) (fun c516 => ?_)
                                  · have c516b := b2i_f c516
                                    refine lv_iinc (v := (nI (k + 1))) (lv' := [(14, .int (nI (k + 1))), (11, .int ((sumI (fun i => nt (v 0) st (i + 1)) k) + (nt (v 0) st (k + 1)))), (10, .int (mx (hi9 (v 0) st k) (nt (v 0) st (k + 1)))), (9, .int (lo99 (v 0) st (k + 1))), (7, .int (ctB (fold1 v st) (k + 1))), (6, .int ((sumI (v 1) k) + (v 1 k))), (8, .int (ctB (rtP v) (k + 1))), (0, .ref sm), (1, .ref (q 0)), (2, .int (nI N)), (3, .ref x1), (4, .ref x2), (5, .int (nI h)), (12, .int (fam v st mk k)), (13, .ref x3), (15, .ref (a k)), (16, .ref x4), (17, .int (b2i (exB (rtE v k) (k + 1)))), (18, .int (nI (k + 1)))]) hx hb dX1_isSame_521 hl (k := 14) rfl (nI_1 _) (by decide) rfl (fun ls hl => ?_)
                                    refine lv_goto (tgt := 53) hx hb dX1_isSame_524 (by decide) ?_
                                    refine W.widen (k := 3 + 4 * (k + 1)) (n := 60 + 8 * (k + 1)) (by omega) (by omega) ?_
                                    exact ih1 (k + 1) (g8.1, g8.2, (upd u8.2.2 x0 ((u8.2.2 x0) + 1))) ls H locs (by omega) ⟨⟨by omega, hG1, hG2, sung_s hx0 hxe hk1.2.2.2⟩, hX, hC, h_x1, h_x2, h_x3, hS, by rw [hhe, fam_s1 (by omega) c350]; exact lv_sub hl [7, 8, 9, 10, 11, 12, 5, 4, 6, 3, 2, 1, 13, 14, 0] rfl⟩
                                  · have c516b := b2i_t c516
                                    exact absurd (by rw [b2i_n1 c508]; rfl) c516
                                · refine lv_iconst (v := 1) hx hb dX1_isSame_511 (by decide) ?_
                                  refine lv_goto (tgt := 516) hx hb dX1_isSame_512 (by decide) ?_
                                  refine lv_icmp_eq (tgt := 521) hx hb dX1_isSame_516 (by decide) (fun c516 => ?_) (fun c516 => ?_)
                                  · refine lv_iinc (v := (nI (k + 1))) (lv' := [(14, .int (nI (k + 1))), (11, .int ((sumI (fun i => nt (v 0) st (i + 1)) k) + (nt (v 0) st (k + 1)))), (10, .int (mx (hi9 (v 0) st k) (nt (v 0) st (k + 1)))), (9, .int (lo99 (v 0) st (k + 1))), (7, .int (ctB (fold1 v st) (k + 1))), (6, .int ((sumI (v 1) k) + (v 1 k))), (8, .int (ctB (rtP v) (k + 1))), (0, .ref sm), (1, .ref (q 0)), (2, .int (nI N)), (3, .ref x1), (4, .ref x2), (5, .int (nI h)), (12, .int (fam v st mk k)), (13, .ref x3), (15, .ref (a k)), (16, .ref x4), (17, .int (b2i (exB (rtE v k) (k + 1)))), (18, .int (nI (k + 1)))]) hx hb dX1_isSame_521 hl (k := 14) rfl (nI_1 _) (by decide) rfl (fun ls hl => ?_)
                                    refine lv_goto (tgt := 53) hx hb dX1_isSame_524 (by decide) ?_
                                    refine W.widen (k := 3 + 4 * (k + 1)) (n := 60 + 8 * (k + 1)) (by omega) (by omega) ?_
                                    exact ih1 (k + 1) (g8.1, g8.2, (upd u8.2.2 x0 ((u8.2.2 x0) + 1))) ls H locs (by omega) ⟨⟨by omega, hG1, hG2, sung_s hx0 hxe hk1.2.2.2⟩, hX, hC, h_x1, h_x2, h_x3, hS, by rw [hhe, fam_s1 (by omega) c350]; exact lv_sub hl [7, 8, 9, 10, 11, 12, 5, 4, 6, 3, 2, 1, 13, 14, 0] rfl⟩
                                  · exact absurd c508 c516
                    · refine lv_iconst (v := 1) hx hb dX1_isSame_430 (by decide) ?_
                      refine lv_goto (tgt := 435) hx hb dX1_isSame_431 (by decide) ?_
                      refine lv_icmp_ne (tgt := 519) hx hb dX1_isSame_435 (by decide) (fun c435 => ?_) (fun c435 => ?_)
                      · exact absurd c427 c435
                      · refine lv_aload_n hx hb dX1_isSame_438 rfl (lv_at hl 7 rfl) ?_
                        refine lv_iload hx hb dX1_isSame_439 (lv_at hl 14 rfl) ?_
                        refine cVi (As := [.int (nI k)]) (rest := []) hF (mX0_wordIn hinv.1 hde k (by omega)) C0.mv hC (C0.rc hC) jyX0_wordIn kl_RX1_82 ⟨rfl, rfl⟩ ⟨Nat.le_of_ble_eq_true rfl, Nat.le_of_ble_eq_true rfl⟩ rfl hl.1 rfl (Nat.le_of_ble_eq_true rfl) ⟨(by show _ ≤ 130; omega), (by show _ ≤ 320; omega)⟩ dX1_isSame_441 (fun r9 hr9 => ?_)
                        subst hr9
                        refine lv_aload_n hx hb dX1_isSame_444 rfl (lv_at hl 6 rfl) ?_
                        refine S0.gW hF hX kf_RX1_15 dX1_isSame_445 ?_
                        refine lv_aload hx hb dX1_isSame_448 (lv_at hl 15 rfl) ?_
                        refine lv_iconst (v := 2) hx hb dX1_isSame_450 (by decide) ?_
                        refine S0.ldR hF hX k (by omega) 2 (by decide) rfl dX1_isSame_451 ?_
                        refine topI (show (rowV v st mk) k 2 = v 2 k from rfl) ?_
                        refine S0.ldW hF hX (ix (v 2 k)) (okM10 hok k) (okM hok k) dX1_isSame_452 ?_
                        refine lv_icmp_ne (tgt := 519) hx hb dX1_isSame_453 (by decide) (fun c453 => ?_) (fun c453 => ?_)
                        · exact absurd rfl c453
                        · refine lv_aload_n hx hb dX1_isSame_456 rfl (lv_at hl 7 rfl) ?_
                          refine lv_iload hx hb dX1_isSame_457 (lv_at hl 14 rfl) ?_
                          refine cVi (As := [.int (nI k)]) (rest := []) hF (mX0_readings hinv.1 hde k (by omega)) C0.mv hC (C0.rc hC) jyX0_readings kl_RX1_85 ⟨rfl, rfl⟩ ⟨Nat.le_of_ble_eq_true rfl, Nat.le_of_ble_eq_true rfl⟩ rfl hl.1 rfl (Nat.le_of_ble_eq_true rfl) ⟨(by show _ ≤ 130; omega), (by show _ ≤ 320; omega)⟩ dX1_isSame_459 (fun r9 hr9 => ?_)
                          subst hr9
                          refine lv_aload hx hb dX1_isSame_462 (lv_at hl 16 rfl) ?_
                          refine lv_iconst (v := 0) hx hb dX1_isSame_464 (by decide) ?_
                          refine ldI hF hX.2.1 h_x4 0 (by decide) (by decide) rfl dX1_isSame_465 ?_
                          refine lv_icmp_ne (tgt := 519) hx hb dX1_isSame_466 (by decide) (fun c466 => ?_) (fun c466 => ?_)
                          · exact absurd rfl c466
                          · refine lv_aload_n hx hb dX1_isSame_469 rfl (lv_at hl 7 rfl) ?_
                            refine lv_iload hx hb dX1_isSame_470 (lv_at hl 14 rfl) ?_
                            refine cVi (As := [.int (nI k)]) (rest := []) hF (mX0_rightReading hinv.1 hde k (by omega)) C0.mv hC (C0.rc hC) jyX0_rightReading kl_RX1_87 ⟨rfl, rfl⟩ ⟨Nat.le_of_ble_eq_true rfl, Nat.le_of_ble_eq_true rfl⟩ rfl hl.1 rfl (Nat.le_of_ble_eq_true rfl) ⟨(by show _ ≤ 130; omega), (by show _ ≤ 320; omega)⟩ dX1_isSame_472 (fun r9 hr9 => ?_)
                            subst hr9
                            refine lv_aload hx hb dX1_isSame_475 (lv_at hl 16 rfl) ?_
                            refine lv_iconst (v := 1) hx hb dX1_isSame_477 (by decide) ?_
                            refine ldI hF hX.2.1 h_x4 1 (by decide) (by decide) rfl dX1_isSame_478 ?_
                            refine lv_icmp_ne (tgt := 519) hx hb dX1_isSame_479 (by decide) (fun c479 => ?_) (fun c479 => ?_)
                            · exact absurd rfl c479
                            · refine lv_aload_n hx hb dX1_isSame_482 rfl (lv_at hl 7 rfl) ?_
                              refine lv_iload hx hb dX1_isSame_483 (lv_at hl 14 rfl) ?_
                              refine cVi (As := [.int (nI k)]) (rest := []) hF (mX0_isAmbiguous hinv.1 hde k (by omega)) C0.mv hC (C0.rc hC) jyX0_isAmbiguous kl_RX1_90 ⟨rfl, rfl⟩ ⟨Nat.le_of_ble_eq_true rfl, Nat.le_of_ble_eq_true rfl⟩ rfl hl.1 rfl (Nat.le_of_ble_eq_true rfl) ⟨(by show _ ≤ 130; omega), (by show _ ≤ 320; omega)⟩ dX1_isSame_485 (fun r9 hr9 => ?_)
                              subst hr9
                              refine lv_aload_n hx hb dX1_isSame_488 rfl (lv_at hl 6 rfl) ?_
                              refine lv_iload hx hb dX1_isSame_489 (lv_at hl 14 rfl) ?_
                              refine wVi (mc := 1) (ms := 2) (As := [.int (nI k)]) (rest := [.int (b2i (amb v st mk k))]) hF (mX1_isOpen hok k (by omega)) S0.mv (fun _ => Mv.const) hX hX.rc jyX1_isOpen kl_RX1_39 ⟨rfl, rfl⟩ ⟨Nat.le_of_ble_eq_true rfl, Nat.le_of_ble_eq_true rfl⟩ rfl hl.1 rfl (Nat.le_of_ble_eq_true rfl) ⟨by show _ + 1 ≤ 130; omega, by show _ + 2 ≤ 320; omega⟩ hS (fun _ _ h => h.elim) (fun _ h => h.elim) dX1_isSame_491 (fun r9 u9 H locs hp9 hB9 hz hk hS => ?_)
                              have ho : ∀ q : Nat, q < _ → H[q]? = _ := fun q h9 => hk q h9 (fun h => h)
                              have hX := hX0.up hS
                              have hC := C0.upS hC0 hS
                              have h_x1 := h_x1.upK ho
                              have h_x2 := h_x2.upK ho
                              have h_x3 := h_x3.upK ho
                              have h_x4 := h_x4.upK ho
                              subst hp9
                              refine lv_icmp_ne (tgt := 519) hx hb dX1_isSame_494 (by decide) (fun c494 => ?_) (fun c494 => ?_)
                              · exact absurd rfl c494
                              · refine lv_aload_n hx hb dX1_isSame_497 rfl (lv_at hl 7 rfl) ?_
                                refine lv_iload hx hb dX1_isSame_498 (lv_at hl 14 rfl) ?_
                                refine cVi (As := [.int (nI k)]) (rest := []) hF (mX0_isMended hinv.1 hde k (by omega)) C0.mv hC (C0.rc hC) jyX0_isMended kl_RX1_93 ⟨rfl, rfl⟩ ⟨Nat.le_of_ble_eq_true rfl, Nat.le_of_ble_eq_true rfl⟩ rfl hl.1 rfl (Nat.le_of_ble_eq_true rfl) ⟨(by show _ ≤ 130; omega), (by show _ ≤ 320; omega)⟩ dX1_isSame_500 (fun r9 hr9 => ?_)
                                subst hr9
                                refine lv_aload hx hb dX1_isSame_503 (lv_at hl 15 rfl) ?_
                                refine lv_iconst (v := 5) hx hb dX1_isSame_505 (by decide) ?_
                                refine S0.ldR hF hX k (by omega) 5 (by decide) rfl dX1_isSame_506 ?_
                                refine topI (show (rowV v st mk) k 5 = b2i (mk k) from rfl) ?_
                                refine lv_iconst (v := 1) hx hb dX1_isSame_507 (by decide) ?_
                                refine lv_icmp_ne (tgt := 515) hx hb dX1_isSame_508 (by decide) (fun c508 => ?_) (fun c508 => ?_)
                                · refine lv_iconst (v := 0) hx hb dX1_isSame_515 (by decide) ?_
                                  refine lv_icmp_eq (tgt := 521) hx hb dX1_isSame_516 (by decide) (fun c516 => ?_) (fun c516 => ?_)
                                  · have c516b := b2i_f c516
                                    refine lv_iinc (v := (nI (k + 1))) (lv' := [(14, .int (nI (k + 1))), (11, .int ((sumI (fun i => nt (v 0) st (i + 1)) k) + (nt (v 0) st (k + 1)))), (10, .int (mx (hi9 (v 0) st k) (nt (v 0) st (k + 1)))), (9, .int (lo99 (v 0) st (k + 1))), (7, .int (ctB (fold1 v st) (k + 1))), (6, .int ((sumI (v 1) k) + (v 1 k))), (8, .int (ctB (rtP v) (k + 1))), (0, .ref sm), (1, .ref (q 0)), (2, .int (nI N)), (3, .ref x1), (4, .ref x2), (5, .int (nI h)), (12, .int (fam v st mk k)), (13, .ref x3), (15, .ref (a k)), (16, .ref x4), (17, .int (b2i (exB (rtE v k) (k + 1)))), (18, .int (nI (k + 1)))]) hx hb dX1_isSame_521 hl (k := 14) rfl (nI_1 _) (by decide) rfl (fun ls hl => ?_)
                                    refine lv_goto (tgt := 53) hx hb dX1_isSame_524 (by decide) ?_
                                    refine W.widen (k := 3 + 4 * (k + 1)) (n := 60 + 8 * (k + 1)) (by omega) (by omega) ?_
                                    exact ih1 (k + 1) (g8.1, g8.2, (upd u8.2.2 x0 ((u8.2.2 x0) + 1))) ls H locs (by omega) ⟨⟨by omega, hG1, hG2, sung_s hx0 hxe hk1.2.2.2⟩, hX, hC, h_x1, h_x2, h_x3, hS, by rw [hhe, fam_s1 (by omega) c350]; exact lv_sub hl [7, 8, 9, 10, 11, 12, 5, 4, 6, 3, 2, 1, 13, 14, 0] rfl⟩
                                  · have c516b := b2i_t c516
                                    exact absurd (by rw [b2i_n1 c508]; rfl) c516
                                · refine lv_iconst (v := 1) hx hb dX1_isSame_511 (by decide) ?_
                                  refine lv_goto (tgt := 516) hx hb dX1_isSame_512 (by decide) ?_
                                  refine lv_icmp_eq (tgt := 521) hx hb dX1_isSame_516 (by decide) (fun c516 => ?_) (fun c516 => ?_)
                                  · refine lv_iinc (v := (nI (k + 1))) (lv' := [(14, .int (nI (k + 1))), (11, .int ((sumI (fun i => nt (v 0) st (i + 1)) k) + (nt (v 0) st (k + 1)))), (10, .int (mx (hi9 (v 0) st k) (nt (v 0) st (k + 1)))), (9, .int (lo99 (v 0) st (k + 1))), (7, .int (ctB (fold1 v st) (k + 1))), (6, .int ((sumI (v 1) k) + (v 1 k))), (8, .int (ctB (rtP v) (k + 1))), (0, .ref sm), (1, .ref (q 0)), (2, .int (nI N)), (3, .ref x1), (4, .ref x2), (5, .int (nI h)), (12, .int (fam v st mk k)), (13, .ref x3), (15, .ref (a k)), (16, .ref x4), (17, .int (b2i (exB (rtE v k) (k + 1)))), (18, .int (nI (k + 1)))]) hx hb dX1_isSame_521 hl (k := 14) rfl (nI_1 _) (by decide) rfl (fun ls hl => ?_)
                                    refine lv_goto (tgt := 53) hx hb dX1_isSame_524 (by decide) ?_
                                    refine W.widen (k := 3 + 4 * (k + 1)) (n := 60 + 8 * (k + 1)) (by omega) (by omega) ?_
                                    exact ih1 (k + 1) (g8.1, g8.2, (upd u8.2.2 x0 ((u8.2.2 x0) + 1))) ls H locs (by omega) ⟨⟨by omega, hG1, hG2, sung_s hx0 hxe hk1.2.2.2⟩, hX, hC, h_x1, h_x2, h_x3, hS, by rw [hhe, fam_s1 (by omega) c350]; exact lv_sub hl [7, 8, 9, 10, 11, 12, 5, 4, 6, 3, 2, 1, 13, 14, 0] rfl⟩
                                  · exact absurd c508 c516
          · refine lv_aload_n hx hb dX1_isSame_353 rfl (lv_at hl 6 rfl) ?_
            refine lv_iload hx hb dX1_isSame_354 (lv_at hl 14 rfl) ?_
            refine wVi (mc := 1) (ms := 2) (As := [.int (nI k)]) (rest := []) hF (mX1_isOpen hok k (by omega)) S0.mv (fun _ => Mv.const) hX hX.rc jyX1_isOpen kl_RX1_39 ⟨rfl, rfl⟩ ⟨Nat.le_of_ble_eq_true rfl, Nat.le_of_ble_eq_true rfl⟩ rfl hl.1 rfl (Nat.le_of_ble_eq_true rfl) ⟨by show _ + 1 ≤ 130; omega, by show _ + 2 ≤ 320; omega⟩ hS (fun _ _ h => h.elim) (fun _ h => h.elim) dX1_isSame_356 (fun r9 u9 H locs hp9 hB9 hz hk hS => ?_)
            have ho : ∀ q : Nat, q < _ → H[q]? = _ := fun q h9 => hk q h9 (fun h => h)
            have hX := hX0.up hS
            have hC := C0.upS hC0 hS
            have h_x1 := h_x1.upK ho
            have h_x2 := h_x2.upK ho
            have h_x3 := h_x3.upK ho
            have h_x4 := h_x4.upK ho
            subst hp9
            refine lv_if_eq (tgt := 366) hx hb dX1_isSame_359 (by decide) (fun c359 => ?_) (fun c359 => ?_)
            · have c359b := b2i_f c359
              refine lv_aload_n hx hb dX1_isSame_366 rfl (lv_at hl 7 rfl) ?_
              refine lv_iload hx hb dX1_isSame_367 (lv_at hl 14 rfl) ?_
              refine cVi (As := [.int (nI k)]) (rest := []) hF (mX0_turnOf hinv.1 hde k (by omega)) C0.mv hC (C0.rc hC) jyX0_turnOf kl_RX1_65 ⟨rfl, rfl⟩ ⟨Nat.le_of_ble_eq_true rfl, Nat.le_of_ble_eq_true rfl⟩ rfl hl.1 rfl (Nat.le_of_ble_eq_true rfl) ⟨(by show _ ≤ 130; omega), (by show _ ≤ 320; omega)⟩ dX1_isSame_369 (fun r9 hr9 => ?_)
              subst hr9
              refine lv_aload hx hb dX1_isSame_372 (lv_at hl 15 rfl) ?_
              refine lv_iconst (v := 0) hx hb dX1_isSame_374 (by decide) ?_
              refine S0.ldR hF hX k (by omega) 0 (by decide) rfl dX1_isSame_375 ?_
              refine topI (show (rowV v st mk) k 0 = v 0 k from rfl) ?_
              refine lv_icmp_ne (tgt := 519) hx hb dX1_isSame_376 (by decide) (fun c376 => ?_) (fun c376 => ?_)
              · exact absurd rfl c376
              · refine lv_aload_n hx hb dX1_isSame_379 rfl (lv_at hl 7 rfl) ?_
                refine lv_iload hx hb dX1_isSame_380 (lv_at hl 14 rfl) ?_
                refine cVi (As := [.int (nI k)]) (rest := []) hF (mX0_headingOf hinv.1 hde k (by omega)) C0.mv hC (C0.rc hC) jyX0_headingOf kl_RX1_70 ⟨rfl, rfl⟩ ⟨Nat.le_of_ble_eq_true rfl, Nat.le_of_ble_eq_true rfl⟩ rfl hl.1 rfl (Nat.le_of_ble_eq_true rfl) ⟨(by show _ ≤ 130; omega), (by show _ ≤ 320; omega)⟩ dX1_isSame_382 (fun r9 hr9 => ?_)
                subst hr9
                rw [hhe]
                refine lv_iload hx hb dX1_isSame_385 (lv_at hl 11 rfl) ?_
                refine lv_icmp_ne (tgt := 519) hx hb dX1_isSame_387 (by decide) (fun c387 => ?_) (fun c387 => ?_)
                · have c387n : ¬ h = h := fun h9 => c387 ((nI_eq (a := h) (b := h) (by omega) (by omega)).mpr h9)
                  exact absurd rfl c387
                · have c387n : h = h := (nI_eq (a := h) (b := h) (by omega) (by omega)).mp c387
                  refine lv_aload_n hx hb dX1_isSame_390 rfl (lv_at hl 7 rfl) ?_
                  refine lv_iload hx hb dX1_isSame_391 (lv_at hl 14 rfl) ?_
                  refine cVi (As := [.int (nI k)]) (rest := []) hF (mX0_landmarkOf hinv.1 hde k (by omega)) C0.mv hC (C0.rc hC) jyX0_landmarkOf kl_RX1_73 ⟨rfl, rfl⟩ ⟨Nat.le_of_ble_eq_true rfl, Nat.le_of_ble_eq_true rfl⟩ rfl hl.1 rfl (Nat.le_of_ble_eq_true rfl) ⟨(by show _ ≤ 130; omega), (by show _ ≤ 320; omega)⟩ dX1_isSame_393 (fun r9 hr9 => ?_)
                  subst hr9
                  refine lv_aload hx hb dX1_isSame_396 (lv_at hl 15 rfl) ?_
                  refine lv_iconst (v := 2) hx hb dX1_isSame_398 (by decide) ?_
                  refine S0.ldR hF hX k (by omega) 2 (by decide) rfl dX1_isSame_399 ?_
                  refine topI (show (rowV v st mk) k 2 = v 2 k from rfl) ?_
                  refine lv_icmp_ne (tgt := 519) hx hb dX1_isSame_400 (by decide) (fun c400 => ?_) (fun c400 => ?_)
                  · exact absurd rfl c400
                  · refine lv_aload_n hx hb dX1_isSame_403 rfl (lv_at hl 7 rfl) ?_
                    refine lv_iload hx hb dX1_isSame_404 (lv_at hl 14 rfl) ?_
                    refine cVi (As := [.int (nI k)]) (rest := []) hF (mX0_noteOf hinv.1 hde k (by omega)) C0.mv hC (C0.rc hC) jyX0_noteOf kl_RX1_76 ⟨rfl, rfl⟩ ⟨Nat.le_of_ble_eq_true rfl, Nat.le_of_ble_eq_true rfl⟩ rfl hl.1 rfl (Nat.le_of_ble_eq_true rfl) ⟨(by show _ ≤ 130; omega), (by show _ ≤ 320; omega)⟩ dX1_isSame_406 (fun r9 hr9 => ?_)
                    subst hr9
                    refine lv_aload hx hb dX1_isSame_409 (lv_at hl 15 rfl) ?_
                    refine lv_iconst (v := 3) hx hb dX1_isSame_411 (by decide) ?_
                    refine S0.ldR hF hX k (by omega) 3 (by decide) rfl dX1_isSame_412 ?_
                    refine topI (show (rowV v st mk) k 3 = nt (v 0) st (k + 1) from rfl) ?_
                    refine lv_icmp_ne (tgt := 519) hx hb dX1_isSame_413 (by decide) (fun c413 => ?_) (fun c413 => ?_)
                    · exact absurd rfl c413
                    · refine lv_aload_n hx hb dX1_isSame_416 rfl (lv_at hl 7 rfl) ?_
                      refine lv_iload hx hb dX1_isSame_417 (lv_at hl 14 rfl) ?_
                      refine cVi (As := [.int (nI k)]) (rest := []) hF (mX0_isFolded hinv.1 hde k (by omega)) C0.mv hC (C0.rc hC) jyX0_isFolded kl_RX1_79 ⟨rfl, rfl⟩ ⟨Nat.le_of_ble_eq_true rfl, Nat.le_of_ble_eq_true rfl⟩ rfl hl.1 rfl (Nat.le_of_ble_eq_true rfl) ⟨(by show _ ≤ 130; omega), (by show _ ≤ 320; omega)⟩ dX1_isSame_419 (fun r9 hr9 => ?_)
                      subst hr9
                      refine lv_aload hx hb dX1_isSame_422 (lv_at hl 15 rfl) ?_
                      refine lv_iconst (v := 4) hx hb dX1_isSame_424 (by decide) ?_
                      refine S0.ldR hF hX k (by omega) 4 (by decide) rfl dX1_isSame_425 ?_
                      refine topI (show (rowV v st mk) k 4 = b2i (fold1 v st k) from rfl) ?_
                      refine lv_iconst (v := 1) hx hb dX1_isSame_426 (by decide) ?_
                      refine lv_icmp_ne (tgt := 434) hx hb dX1_isSame_427 (by decide) (fun c427 => ?_) (fun c427 => ?_)
                      · refine lv_iconst (v := 0) hx hb dX1_isSame_434 (by decide) ?_
                        refine lv_icmp_ne (tgt := 519) hx hb dX1_isSame_435 (by decide) (fun c435 => ?_) (fun c435 => ?_)
                        · have c435b := b2i_t c435
                          exact absurd (by rw [b2i_n1 c427]; rfl) c435
                        · have c435b := b2i_f c435
                          refine lv_aload_n hx hb dX1_isSame_438 rfl (lv_at hl 7 rfl) ?_
                          refine lv_iload hx hb dX1_isSame_439 (lv_at hl 14 rfl) ?_
                          refine cVi (As := [.int (nI k)]) (rest := []) hF (mX0_wordIn hinv.1 hde k (by omega)) C0.mv hC (C0.rc hC) jyX0_wordIn kl_RX1_82 ⟨rfl, rfl⟩ ⟨Nat.le_of_ble_eq_true rfl, Nat.le_of_ble_eq_true rfl⟩ rfl hl.1 rfl (Nat.le_of_ble_eq_true rfl) ⟨(by show _ ≤ 130; omega), (by show _ ≤ 320; omega)⟩ dX1_isSame_441 (fun r9 hr9 => ?_)
                          subst hr9
                          refine lv_aload_n hx hb dX1_isSame_444 rfl (lv_at hl 6 rfl) ?_
                          refine S0.gW hF hX kf_RX1_15 dX1_isSame_445 ?_
                          refine lv_aload hx hb dX1_isSame_448 (lv_at hl 15 rfl) ?_
                          refine lv_iconst (v := 2) hx hb dX1_isSame_450 (by decide) ?_
                          refine S0.ldR hF hX k (by omega) 2 (by decide) rfl dX1_isSame_451 ?_
                          refine topI (show (rowV v st mk) k 2 = v 2 k from rfl) ?_
                          refine S0.ldW hF hX (ix (v 2 k)) (okM10 hok k) (okM hok k) dX1_isSame_452 ?_
                          refine lv_icmp_ne (tgt := 519) hx hb dX1_isSame_453 (by decide) (fun c453 => ?_) (fun c453 => ?_)
                          · exact absurd rfl c453
                          · refine lv_aload_n hx hb dX1_isSame_456 rfl (lv_at hl 7 rfl) ?_
                            refine lv_iload hx hb dX1_isSame_457 (lv_at hl 14 rfl) ?_
                            refine cVi (As := [.int (nI k)]) (rest := []) hF (mX0_readings hinv.1 hde k (by omega)) C0.mv hC (C0.rc hC) jyX0_readings kl_RX1_85 ⟨rfl, rfl⟩ ⟨Nat.le_of_ble_eq_true rfl, Nat.le_of_ble_eq_true rfl⟩ rfl hl.1 rfl (Nat.le_of_ble_eq_true rfl) ⟨(by show _ ≤ 130; omega), (by show _ ≤ 320; omega)⟩ dX1_isSame_459 (fun r9 hr9 => ?_)
                            subst hr9
                            refine lv_aload hx hb dX1_isSame_462 (lv_at hl 16 rfl) ?_
                            refine lv_iconst (v := 0) hx hb dX1_isSame_464 (by decide) ?_
                            refine ldI hF hX.2.1 h_x4 0 (by decide) (by decide) rfl dX1_isSame_465 ?_
                            refine lv_icmp_ne (tgt := 519) hx hb dX1_isSame_466 (by decide) (fun c466 => ?_) (fun c466 => ?_)
                            · exact absurd rfl c466
                            · refine lv_aload_n hx hb dX1_isSame_469 rfl (lv_at hl 7 rfl) ?_
                              refine lv_iload hx hb dX1_isSame_470 (lv_at hl 14 rfl) ?_
                              refine cVi (As := [.int (nI k)]) (rest := []) hF (mX0_rightReading hinv.1 hde k (by omega)) C0.mv hC (C0.rc hC) jyX0_rightReading kl_RX1_87 ⟨rfl, rfl⟩ ⟨Nat.le_of_ble_eq_true rfl, Nat.le_of_ble_eq_true rfl⟩ rfl hl.1 rfl (Nat.le_of_ble_eq_true rfl) ⟨(by show _ ≤ 130; omega), (by show _ ≤ 320; omega)⟩ dX1_isSame_472 (fun r9 hr9 => ?_)
                              subst hr9
                              refine lv_aload hx hb dX1_isSame_475 (lv_at hl 16 rfl) ?_
                              refine lv_iconst (v := 1) hx hb dX1_isSame_477 (by decide) ?_
                              refine ldI hF hX.2.1 h_x4 1 (by decide) (by decide) rfl dX1_isSame_478 ?_
                              refine lv_icmp_ne (tgt := 519) hx hb dX1_isSame_479 (by decide) (fun c479 => ?_) (fun c479 => ?_)
                              · exact absurd rfl c479
                              · refine lv_aload_n hx hb dX1_isSame_482 rfl (lv_at hl 7 rfl) ?_
                                refine lv_iload hx hb dX1_isSame_483 (lv_at hl 14 rfl) ?_
                                refine cVi (As := [.int (nI k)]) (rest := []) hF (mX0_isAmbiguous hinv.1 hde k (by omega)) C0.mv hC (C0.rc hC) jyX0_isAmbiguous kl_RX1_90 ⟨rfl, rfl⟩ ⟨Nat.le_of_ble_eq_true rfl, Nat.le_of_ble_eq_true rfl⟩ rfl hl.1 rfl (Nat.le_of_ble_eq_true rfl) ⟨(by show _ ≤ 130; omega), (by show _ ≤ 320; omega)⟩ dX1_isSame_485 (fun r9 hr9 => ?_)
                                subst hr9
                                refine lv_aload_n hx hb dX1_isSame_488 rfl (lv_at hl 6 rfl) ?_
                                refine lv_iload hx hb dX1_isSame_489 (lv_at hl 14 rfl) ?_
                                refine wVi (mc := 1) (ms := 2) (As := [.int (nI k)]) (rest := [.int (b2i (amb v st mk k))]) hF (mX1_isOpen hok k (by omega)) S0.mv (fun _ => Mv.const) hX hX.rc jyX1_isOpen kl_RX1_39 ⟨rfl, rfl⟩ ⟨Nat.le_of_ble_eq_true rfl, Nat.le_of_ble_eq_true rfl⟩ rfl hl.1 rfl (Nat.le_of_ble_eq_true rfl) ⟨by show _ + 1 ≤ 130; omega, by show _ + 2 ≤ 320; omega⟩ hS (fun _ _ h => h.elim) (fun _ h => h.elim) dX1_isSame_491 (fun r9 u9 H locs hp9 hB9 hz hk hS => ?_)
                                have ho : ∀ q : Nat, q < _ → H[q]? = _ := fun q h9 => hk q h9 (fun h => h)
                                have hX := hX0.up hS
                                have hC := C0.upS hC0 hS
                                have h_x1 := h_x1.upK ho
                                have h_x2 := h_x2.upK ho
                                have h_x3 := h_x3.upK ho
                                have h_x4 := h_x4.upK ho
                                subst hp9
                                refine lv_icmp_ne (tgt := 519) hx hb dX1_isSame_494 (by decide) (fun c494 => ?_) (fun c494 => ?_)
                                · exact absurd rfl c494
                                · refine lv_aload_n hx hb dX1_isSame_497 rfl (lv_at hl 7 rfl) ?_
                                  refine lv_iload hx hb dX1_isSame_498 (lv_at hl 14 rfl) ?_
                                  refine cVi (As := [.int (nI k)]) (rest := []) hF (mX0_isMended hinv.1 hde k (by omega)) C0.mv hC (C0.rc hC) jyX0_isMended kl_RX1_93 ⟨rfl, rfl⟩ ⟨Nat.le_of_ble_eq_true rfl, Nat.le_of_ble_eq_true rfl⟩ rfl hl.1 rfl (Nat.le_of_ble_eq_true rfl) ⟨(by show _ ≤ 130; omega), (by show _ ≤ 320; omega)⟩ dX1_isSame_500 (fun r9 hr9 => ?_)
                                  subst hr9
                                  refine lv_aload hx hb dX1_isSame_503 (lv_at hl 15 rfl) ?_
                                  refine lv_iconst (v := 5) hx hb dX1_isSame_505 (by decide) ?_
                                  refine S0.ldR hF hX k (by omega) 5 (by decide) rfl dX1_isSame_506 ?_
                                  refine topI (show (rowV v st mk) k 5 = b2i (mk k) from rfl) ?_
                                  refine lv_iconst (v := 1) hx hb dX1_isSame_507 (by decide) ?_
                                  refine lv_icmp_ne (tgt := 515) hx hb dX1_isSame_508 (by decide) (fun c508 => ?_) (fun c508 => ?_)
                                  · refine lv_iconst (v := 0) hx hb dX1_isSame_515 (by decide) ?_
                                    refine lv_icmp_eq (tgt := 521) hx hb dX1_isSame_516 (by decide) (fun c516 => ?_) (fun c516 => ?_)
                                    · have c516b := b2i_f c516
                                      refine lv_iinc (v := (nI (k + 1))) (lv' := [(14, .int (nI (k + 1))), (11, .int ((sumI (fun i => nt (v 0) st (i + 1)) k) + (nt (v 0) st (k + 1)))), (10, .int (mx (hi9 (v 0) st k) (nt (v 0) st (k + 1)))), (9, .int (lo99 (v 0) st (k + 1))), (7, .int (ctB (fold1 v st) (k + 1))), (6, .int ((sumI (v 1) k) + (v 1 k))), (8, .int (ctB (rtP v) (k + 1))), (0, .ref sm), (1, .ref (q 0)), (2, .int (nI N)), (3, .ref x1), (4, .ref x2), (5, .int (nI h)), (12, .int (fam v st mk k)), (13, .ref x3), (15, .ref (a k)), (16, .ref x4), (17, .int (b2i (exB (rtE v k) (k + 1)))), (18, .int (nI (k + 1)))]) hx hb dX1_isSame_521 hl (k := 14) rfl (nI_1 _) (by decide) rfl (fun ls hl => ?_)
                                      refine lv_goto (tgt := 53) hx hb dX1_isSame_524 (by decide) ?_
                                      refine W.widen (k := 3 + 4 * (k + 1)) (n := 60 + 8 * (k + 1)) (by omega) (by omega) ?_
                                      exact ih1 (k + 1) (g8.1, g8.2, (upd u8.2.2 x0 ((u8.2.2 x0) + 1))) ls H locs (by omega) ⟨⟨by omega, hG1, hG2, sung_s hx0 hxe hk1.2.2.2⟩, hX, hC, h_x1, h_x2, h_x3, hS, by rw [hhe, fam_s3 (by omega) c350 c359b]; exact lv_sub hl [7, 8, 9, 10, 11, 12, 5, 4, 6, 3, 2, 1, 13, 14, 0] rfl⟩
                                    · have c516b := b2i_t c516
                                      exact absurd (by rw [b2i_n1 c508]; rfl) c516
                                  · refine lv_iconst (v := 1) hx hb dX1_isSame_511 (by decide) ?_
                                    refine lv_goto (tgt := 516) hx hb dX1_isSame_512 (by decide) ?_
                                    refine lv_icmp_eq (tgt := 521) hx hb dX1_isSame_516 (by decide) (fun c516 => ?_) (fun c516 => ?_)
                                    · refine lv_iinc (v := (nI (k + 1))) (lv' := [(14, .int (nI (k + 1))), (11, .int ((sumI (fun i => nt (v 0) st (i + 1)) k) + (nt (v 0) st (k + 1)))), (10, .int (mx (hi9 (v 0) st k) (nt (v 0) st (k + 1)))), (9, .int (lo99 (v 0) st (k + 1))), (7, .int (ctB (fold1 v st) (k + 1))), (6, .int ((sumI (v 1) k) + (v 1 k))), (8, .int (ctB (rtP v) (k + 1))), (0, .ref sm), (1, .ref (q 0)), (2, .int (nI N)), (3, .ref x1), (4, .ref x2), (5, .int (nI h)), (12, .int (fam v st mk k)), (13, .ref x3), (15, .ref (a k)), (16, .ref x4), (17, .int (b2i (exB (rtE v k) (k + 1)))), (18, .int (nI (k + 1)))]) hx hb dX1_isSame_521 hl (k := 14) rfl (nI_1 _) (by decide) rfl (fun ls hl => ?_)
                                      refine lv_goto (tgt := 53) hx hb dX1_isSame_524 (by decide) ?_
                                      refine W.widen (k := 3 + 4 * (k + 1)) (n := 60 + 8 * (k + 1)) (by omega) (by omega) ?_
                                      exact ih1 (k + 1) (g8.1, g8.2, (upd u8.2.2 x0 ((u8.2.2 x0) + 1))) ls H locs (by omega) ⟨⟨by omega, hG1, hG2, sung_s hx0 hxe hk1.2.2.2⟩, hX, hC, h_x1, h_x2, h_x3, hS, by rw [hhe, fam_s3 (by omega) c350 c359b]; exact lv_sub hl [7, 8, 9, 10, 11, 12, 5, 4, 6, 3, 2, 1, 13, 14, 0] rfl⟩
                                    · exact absurd c508 c516
                      · refine lv_iconst (v := 1) hx hb dX1_isSame_430 (by decide) ?_
                        refine lv_goto (tgt := 435) hx hb dX1_isSame_431 (by decide) ?_
                        refine lv_icmp_ne (tgt := 519) hx hb dX1_isSame_435 (by decide) (fun c435 => ?_) (fun c435 => ?_)
                        · exact absurd c427 c435
                        · refine lv_aload_n hx hb dX1_isSame_438 rfl (lv_at hl 7 rfl) ?_
                          refine lv_iload hx hb dX1_isSame_439 (lv_at hl 14 rfl) ?_
                          refine cVi (As := [.int (nI k)]) (rest := []) hF (mX0_wordIn hinv.1 hde k (by omega)) C0.mv hC (C0.rc hC) jyX0_wordIn kl_RX1_82 ⟨rfl, rfl⟩ ⟨Nat.le_of_ble_eq_true rfl, Nat.le_of_ble_eq_true rfl⟩ rfl hl.1 rfl (Nat.le_of_ble_eq_true rfl) ⟨(by show _ ≤ 130; omega), (by show _ ≤ 320; omega)⟩ dX1_isSame_441 (fun r9 hr9 => ?_)
                          subst hr9
                          refine lv_aload_n hx hb dX1_isSame_444 rfl (lv_at hl 6 rfl) ?_
                          refine S0.gW hF hX kf_RX1_15 dX1_isSame_445 ?_
                          refine lv_aload hx hb dX1_isSame_448 (lv_at hl 15 rfl) ?_
                          refine lv_iconst (v := 2) hx hb dX1_isSame_450 (by decide) ?_
                          refine S0.ldR hF hX k (by omega) 2 (by decide) rfl dX1_isSame_451 ?_
                          refine topI (show (rowV v st mk) k 2 = v 2 k from rfl) ?_
                          refine S0.ldW hF hX (ix (v 2 k)) (okM10 hok k) (okM hok k) dX1_isSame_452 ?_
                          refine lv_icmp_ne (tgt := 519) hx hb dX1_isSame_453 (by decide) (fun c453 => ?_) (fun c453 => ?_)
                          · exact absurd rfl c453
                          · refine lv_aload_n hx hb dX1_isSame_456 rfl (lv_at hl 7 rfl) ?_
                            refine lv_iload hx hb dX1_isSame_457 (lv_at hl 14 rfl) ?_
                            refine cVi (As := [.int (nI k)]) (rest := []) hF (mX0_readings hinv.1 hde k (by omega)) C0.mv hC (C0.rc hC) jyX0_readings kl_RX1_85 ⟨rfl, rfl⟩ ⟨Nat.le_of_ble_eq_true rfl, Nat.le_of_ble_eq_true rfl⟩ rfl hl.1 rfl (Nat.le_of_ble_eq_true rfl) ⟨(by show _ ≤ 130; omega), (by show _ ≤ 320; omega)⟩ dX1_isSame_459 (fun r9 hr9 => ?_)
                            subst hr9
                            refine lv_aload hx hb dX1_isSame_462 (lv_at hl 16 rfl) ?_
                            refine lv_iconst (v := 0) hx hb dX1_isSame_464 (by decide) ?_
                            refine ldI hF hX.2.1 h_x4 0 (by decide) (by decide) rfl dX1_isSame_465 ?_
                            refine lv_icmp_ne (tgt := 519) hx hb dX1_isSame_466 (by decide) (fun c466 => ?_) (fun c466 => ?_)
                            · exact absurd rfl c466
                            · refine lv_aload_n hx hb dX1_isSame_469 rfl (lv_at hl 7 rfl) ?_
                              refine lv_iload hx hb dX1_isSame_470 (lv_at hl 14 rfl) ?_
                              refine cVi (As := [.int (nI k)]) (rest := []) hF (mX0_rightReading hinv.1 hde k (by omega)) C0.mv hC (C0.rc hC) jyX0_rightReading kl_RX1_87 ⟨rfl, rfl⟩ ⟨Nat.le_of_ble_eq_true rfl, Nat.le_of_ble_eq_true rfl⟩ rfl hl.1 rfl (Nat.le_of_ble_eq_true rfl) ⟨(by show _ ≤ 130; omega), (by show _ ≤ 320; omega)⟩ dX1_isSame_472 (fun r9 hr9 => ?_)
                              subst hr9
                              refine lv_aload hx hb dX1_isSame_475 (lv_at hl 16 rfl) ?_
                              refine lv_iconst (v := 1) hx hb dX1_isSame_477 (by decide) ?_
                              refine ldI hF hX.2.1 h_x4 1 (by decide) (by decide) rfl dX1_isSame_478 ?_
                              refine lv_icmp_ne (tgt := 519) hx hb dX1_isSame_479 (by decide) (fun c479 => ?_) (fun c479 => ?_)
                              · exact absurd rfl c479
                              · refine lv_aload_n hx hb dX1_isSame_482 rfl (lv_at hl 7 rfl) ?_
                                refine lv_iload hx hb dX1_isSame_483 (lv_at hl 14 rfl) ?_
                                refine cVi (As := [.int (nI k)]) (rest := []) hF (mX0_isAmbiguous hinv.1 hde k (by omega)) C0.mv hC (C0.rc hC) jyX0_isAmbiguous kl_RX1_90 ⟨rfl, rfl⟩ ⟨Nat.le_of_ble_eq_true rfl, Nat.le_of_ble_eq_true rfl⟩ rfl hl.1 rfl (Nat.le_of_ble_eq_true rfl) ⟨(by show _ ≤ 130; omega), (by show _ ≤ 320; omega)⟩ dX1_isSame_485 (fun r9 hr9 => ?_)
                                subst hr9
                                refine lv_aload_n hx hb dX1_isSame_488 rfl (lv_at hl 6 rfl) ?_
                                refine lv_iload hx hb dX1_isSame_489 (lv_at hl 14 rfl) ?_
                                refine wVi (mc := 1) (ms := 2) (As := [.int (nI k)]) (rest := [.int (b2i (amb v st mk k))]) hF (mX1_isOpen hok k (by omega)) S0.mv (fun _ => Mv.const) hX hX.rc jyX1_isOpen kl_RX1_39 ⟨rfl, rfl⟩ ⟨Nat.le_of_ble_eq_true rfl, Nat.le_of_ble_eq_true rfl⟩ rfl hl.1 rfl (Nat.le_of_ble_eq_true rfl) ⟨by show _ + 1 ≤ 130; omega, by show _ + 2 ≤ 320; omega⟩ hS (fun _ _ h => h.elim) (fun _ h => h.elim) dX1_isSame_491 (fun r9 u9 H locs hp9 hB9 hz hk hS => ?_)
                                have ho : ∀ q : Nat, q < _ → H[q]? = _ := fun q h9 => hk q h9 (fun h => h)
                                have hX := hX0.up hS
                                have hC := C0.upS hC0 hS
                                have h_x1 := h_x1.upK ho
                                have h_x2 := h_x2.upK ho
                                have h_x3 := h_x3.upK ho
                                have h_x4 := h_x4.upK ho
                                subst hp9
                                refine lv_icmp_ne (tgt := 519) hx hb dX1_isSame_494 (by decide) (fun c494 => ?_) (fun c494 => ?_)
                                · exact absurd rfl c494
                                · refine lv_aload_n hx hb dX1_isSame_497 rfl (lv_at hl 7 rfl) ?_
                                  refine lv_iload hx hb dX1_isSame_498 (lv_at hl 14 rfl) ?_
                                  refine cVi (As := [.int (nI k)]) (rest := []) hF (mX0_isMended hinv.1 hde k (by omega)) C0.mv hC (C0.rc hC) jyX0_isMended kl_RX1_93 ⟨rfl, rfl⟩ ⟨Nat.le_of_ble_eq_true rfl, Nat.le_of_ble_eq_true rfl⟩ rfl hl.1 rfl (Nat.le_of_ble_eq_true rfl) ⟨(by show _ ≤ 130; omega), (by show _ ≤ 320; omega)⟩ dX1_isSame_500 (fun r9 hr9 => ?_)
                                  subst hr9
                                  refine lv_aload hx hb dX1_isSame_503 (lv_at hl 15 rfl) ?_
                                  refine lv_iconst (v := 5) hx hb dX1_isSame_505 (by decide) ?_
                                  refine S0.ldR hF hX k (by omega) 5 (by decide) rfl dX1_isSame_506 ?_
                                  refine topI (show (rowV v st mk) k 5 = b2i (mk k) from rfl) ?_
                                  refine lv_iconst (v := 1) hx hb dX1_isSame_507 (by decide) ?_
                                  refine lv_icmp_ne (tgt := 515) hx hb dX1_isSame_508 (by decide) (fun c508 => ?_) (fun c508 => ?_)
                                  · refine lv_iconst (v := 0) hx hb dX1_isSame_515 (by decide) ?_
                                    refine lv_icmp_eq (tgt := 521) hx hb dX1_isSame_516 (by decide) (fun c516 => ?_) (fun c516 => ?_)
                                    · have c516b := b2i_f c516
                                      refine lv_iinc (v := (nI (k + 1))) (lv' := [(14, .int (nI (k + 1))), (11, .int ((sumI (fun i => nt (v 0) st (i + 1)) k) + (nt (v 0) st (k + 1)))), (10, .int (mx (hi9 (v 0) st k) (nt (v 0) st (k + 1)))), (9, .int (lo99 (v 0) st (k + 1))), (7, .int (ctB (fold1 v st) (k + 1))), (6, .int ((sumI (v 1) k) + (v 1 k))), (8, .int (ctB (rtP v) (k + 1))), (0, .ref sm), (1, .ref (q 0)), (2, .int (nI N)), (3, .ref x1), (4, .ref x2), (5, .int (nI h)), (12, .int (fam v st mk k)), (13, .ref x3), (15, .ref (a k)), (16, .ref x4), (17, .int (b2i (exB (rtE v k) (k + 1)))), (18, .int (nI (k + 1)))]) hx hb dX1_isSame_521 hl (k := 14) rfl (nI_1 _) (by decide) rfl (fun ls hl => ?_)
                                      refine lv_goto (tgt := 53) hx hb dX1_isSame_524 (by decide) ?_
                                      refine W.widen (k := 3 + 4 * (k + 1)) (n := 60 + 8 * (k + 1)) (by omega) (by omega) ?_
                                      exact ih1 (k + 1) (g8.1, g8.2, (upd u8.2.2 x0 ((u8.2.2 x0) + 1))) ls H locs (by omega) ⟨⟨by omega, hG1, hG2, sung_s hx0 hxe hk1.2.2.2⟩, hX, hC, h_x1, h_x2, h_x3, hS, by rw [hhe, fam_s3 (by omega) c350 c359b]; exact lv_sub hl [7, 8, 9, 10, 11, 12, 5, 4, 6, 3, 2, 1, 13, 14, 0] rfl⟩
                                    · have c516b := b2i_t c516
                                      exact absurd (by rw [b2i_n1 c508]; rfl) c516
                                  · refine lv_iconst (v := 1) hx hb dX1_isSame_511 (by decide) ?_
                                    refine lv_goto (tgt := 516) hx hb dX1_isSame_512 (by decide) ?_
                                    refine lv_icmp_eq (tgt := 521) hx hb dX1_isSame_516 (by decide) (fun c516 => ?_) (fun c516 => ?_)
                                    · refine lv_iinc (v := (nI (k + 1))) (lv' := [(14, .int (nI (k + 1))), (11, .int ((sumI (fun i => nt (v 0) st (i + 1)) k) + (nt (v 0) st (k + 1)))), (10, .int (mx (hi9 (v 0) st k) (nt (v 0) st (k + 1)))), (9, .int (lo99 (v 0) st (k + 1))), (7, .int (ctB (fold1 v st) (k + 1))), (6, .int ((sumI (v 1) k) + (v 1 k))), (8, .int (ctB (rtP v) (k + 1))), (0, .ref sm), (1, .ref (q 0)), (2, .int (nI N)), (3, .ref x1), (4, .ref x2), (5, .int (nI h)), (12, .int (fam v st mk k)), (13, .ref x3), (15, .ref (a k)), (16, .ref x4), (17, .int (b2i (exB (rtE v k) (k + 1)))), (18, .int (nI (k + 1)))]) hx hb dX1_isSame_521 hl (k := 14) rfl (nI_1 _) (by decide) rfl (fun ls hl => ?_)
                                      refine lv_goto (tgt := 53) hx hb dX1_isSame_524 (by decide) ?_
                                      refine W.widen (k := 3 + 4 * (k + 1)) (n := 60 + 8 * (k + 1)) (by omega) (by omega) ?_
                                      exact ih1 (k + 1) (g8.1, g8.2, (upd u8.2.2 x0 ((u8.2.2 x0) + 1))) ls H locs (by omega) ⟨⟨by omega, hG1, hG2, sung_s hx0 hxe hk1.2.2.2⟩, hX, hC, h_x1, h_x2, h_x3, hS, by rw [hhe, fam_s3 (by omega) c350 c359b]; exact lv_sub hl [7, 8, 9, 10, 11, 12, 5, 4, 6, 3, 2, 1, 13, 14, 0] rfl⟩
                                    · exact absurd c508 c516
            · have c359b := b2i_t c359
              refine lv_iload hx hb dX1_isSame_362 (lv_at hl 14 rfl) ?_
              refine lv_istore (lv' := [(12, .int (nI k)), (11, .int ((sumI (fun i => nt (v 0) st (i + 1)) k) + (nt (v 0) st (k + 1)))), (10, .int (mx (hi9 (v 0) st k) (nt (v 0) st (k + 1)))), (9, .int (lo99 (v 0) st (k + 1))), (7, .int (ctB (fold1 v st) (k + 1))), (6, .int ((sumI (v 1) k) + (v 1 k))), (8, .int (ctB (rtP v) (k + 1))), (0, .ref sm), (1, .ref (q 0)), (2, .int (nI N)), (3, .ref x1), (4, .ref x2), (5, .int (nI h)), (13, .ref x3), (14, .int (nI k)), (15, .ref (a k)), (16, .ref x4), (17, .int (b2i (exB (rtE v k) (k + 1)))), (18, .int (nI (k + 1)))]) hx hb dX1_isSame_364 hl (by decide) rfl (fun ls hl => ?_)
              refine lv_aload_n hx hb dX1_isSame_366 rfl (lv_at hl 8 rfl) ?_
              refine lv_iload hx hb dX1_isSame_367 (lv_at hl 14 rfl) ?_
              refine cVi (As := [.int (nI k)]) (rest := []) hF (mX0_turnOf hinv.1 hde k (by omega)) C0.mv hC (C0.rc hC) jyX0_turnOf kl_RX1_65 ⟨rfl, rfl⟩ ⟨Nat.le_of_ble_eq_true rfl, Nat.le_of_ble_eq_true rfl⟩ rfl hl.1 rfl (Nat.le_of_ble_eq_true rfl) ⟨(by show _ ≤ 130; omega), (by show _ ≤ 320; omega)⟩ dX1_isSame_369 (fun r9 hr9 => ?_)
              subst hr9
              refine lv_aload hx hb dX1_isSame_372 (lv_at hl 15 rfl) ?_
              refine lv_iconst (v := 0) hx hb dX1_isSame_374 (by decide) ?_
              refine S0.ldR hF hX k (by omega) 0 (by decide) rfl dX1_isSame_375 ?_
              refine topI (show (rowV v st mk) k 0 = v 0 k from rfl) ?_
              refine lv_icmp_ne (tgt := 519) hx hb dX1_isSame_376 (by decide) (fun c376 => ?_) (fun c376 => ?_)
              · exact absurd rfl c376
              · refine lv_aload_n hx hb dX1_isSame_379 rfl (lv_at hl 8 rfl) ?_
                refine lv_iload hx hb dX1_isSame_380 (lv_at hl 14 rfl) ?_
                refine cVi (As := [.int (nI k)]) (rest := []) hF (mX0_headingOf hinv.1 hde k (by omega)) C0.mv hC (C0.rc hC) jyX0_headingOf kl_RX1_70 ⟨rfl, rfl⟩ ⟨Nat.le_of_ble_eq_true rfl, Nat.le_of_ble_eq_true rfl⟩ rfl hl.1 rfl (Nat.le_of_ble_eq_true rfl) ⟨(by show _ ≤ 130; omega), (by show _ ≤ 320; omega)⟩ dX1_isSame_382 (fun r9 hr9 => ?_)
                subst hr9
                rw [hhe]
                refine lv_iload hx hb dX1_isSame_385 (lv_at hl 12 rfl) ?_
                refine lv_icmp_ne (tgt := 519) hx hb dX1_isSame_387 (by decide) (fun c387 => ?_) (fun c387 => ?_)
                · have c387n : ¬ h = h := fun h9 => c387 ((nI_eq (a := h) (b := h) (by omega) (by omega)).mpr h9)
                  exact absurd rfl c387
                · have c387n : h = h := (nI_eq (a := h) (b := h) (by omega) (by omega)).mp c387
                  refine lv_aload_n hx hb dX1_isSame_390 rfl (lv_at hl 8 rfl) ?_
                  refine lv_iload hx hb dX1_isSame_391 (lv_at hl 14 rfl) ?_
                  refine cVi (As := [.int (nI k)]) (rest := []) hF (mX0_landmarkOf hinv.1 hde k (by omega)) C0.mv hC (C0.rc hC) jyX0_landmarkOf kl_RX1_73 ⟨rfl, rfl⟩ ⟨Nat.le_of_ble_eq_true rfl, Nat.le_of_ble_eq_true rfl⟩ rfl hl.1 rfl (Nat.le_of_ble_eq_true rfl) ⟨(by show _ ≤ 130; omega), (by show _ ≤ 320; omega)⟩ dX1_isSame_393 (fun r9 hr9 => ?_)
                  subst hr9
                  refine lv_aload hx hb dX1_isSame_396 (lv_at hl 15 rfl) ?_
                  refine lv_iconst (v := 2) hx hb dX1_isSame_398 (by decide) ?_
                  refine S0.ldR hF hX k (by omega) 2 (by decide) rfl dX1_isSame_399 ?_
                  refine topI (show (rowV v st mk) k 2 = v 2 k from rfl) ?_
                  refine lv_icmp_ne (tgt := 519) hx hb dX1_isSame_400 (by decide) (fun c400 => ?_) (fun c400 => ?_)
                  · exact absurd rfl c400
                  · refine lv_aload_n hx hb dX1_isSame_403 rfl (lv_at hl 8 rfl) ?_
                    refine lv_iload hx hb dX1_isSame_404 (lv_at hl 14 rfl) ?_
                    refine cVi (As := [.int (nI k)]) (rest := []) hF (mX0_noteOf hinv.1 hde k (by omega)) C0.mv hC (C0.rc hC) jyX0_noteOf kl_RX1_76 ⟨rfl, rfl⟩ ⟨Nat.le_of_ble_eq_true rfl, Nat.le_of_ble_eq_true rfl⟩ rfl hl.1 rfl (Nat.le_of_ble_eq_true rfl) ⟨(by show _ ≤ 130; omega), (by show _ ≤ 320; omega)⟩ dX1_isSame_406 (fun r9 hr9 => ?_)
                    subst hr9
                    refine lv_aload hx hb dX1_isSame_409 (lv_at hl 15 rfl) ?_
                    refine lv_iconst (v := 3) hx hb dX1_isSame_411 (by decide) ?_
                    refine S0.ldR hF hX k (by omega) 3 (by decide) rfl dX1_isSame_412 ?_
                    refine topI (show (rowV v st mk) k 3 = nt (v 0) st (k + 1) from rfl) ?_
                    refine lv_icmp_ne (tgt := 519) hx hb dX1_isSame_413 (by decide) (fun c413 => ?_) (fun c413 => ?_)
                    · exact absurd rfl c413
                    · refine lv_aload_n hx hb dX1_isSame_416 rfl (lv_at hl 8 rfl) ?_
                      refine lv_iload hx hb dX1_isSame_417 (lv_at hl 14 rfl) ?_
                      refine cVi (As := [.int (nI k)]) (rest := []) hF (mX0_isFolded hinv.1 hde k (by omega)) C0.mv hC (C0.rc hC) jyX0_isFolded kl_RX1_79 ⟨rfl, rfl⟩ ⟨Nat.le_of_ble_eq_true rfl, Nat.le_of_ble_eq_true rfl⟩ rfl hl.1 rfl (Nat.le_of_ble_eq_true rfl) ⟨(by show _ ≤ 130; omega), (by show _ ≤ 320; omega)⟩ dX1_isSame_419 (fun r9 hr9 => ?_)
                      subst hr9
                      refine lv_aload hx hb dX1_isSame_422 (lv_at hl 15 rfl) ?_
                      refine lv_iconst (v := 4) hx hb dX1_isSame_424 (by decide) ?_
                      refine S0.ldR hF hX k (by omega) 4 (by decide) rfl dX1_isSame_425 ?_
                      refine topI (show (rowV v st mk) k 4 = b2i (fold1 v st k) from rfl) ?_
                      refine lv_iconst (v := 1) hx hb dX1_isSame_426 (by decide) ?_
                      refine lv_icmp_ne (tgt := 434) hx hb dX1_isSame_427 (by decide) (fun c427 => ?_) (fun c427 => ?_)
                      · refine lv_iconst (v := 0) hx hb dX1_isSame_434 (by decide) ?_
                        refine lv_icmp_ne (tgt := 519) hx hb dX1_isSame_435 (by decide) (fun c435 => ?_) (fun c435 => ?_)
                        · have c435b := b2i_t c435
                          exact absurd (by rw [b2i_n1 c427]; rfl) c435
                        · have c435b := b2i_f c435
                          refine lv_aload_n hx hb dX1_isSame_438 rfl (lv_at hl 8 rfl) ?_
                          refine lv_iload hx hb dX1_isSame_439 (lv_at hl 14 rfl) ?_
                          refine cVi (As := [.int (nI k)]) (rest := []) hF (mX0_wordIn hinv.1 hde k (by omega)) C0.mv hC (C0.rc hC) jyX0_wordIn kl_RX1_82 ⟨rfl, rfl⟩ ⟨Nat.le_of_ble_eq_true rfl, Nat.le_of_ble_eq_true rfl⟩ rfl hl.1 rfl (Nat.le_of_ble_eq_true rfl) ⟨(by show _ ≤ 130; omega), (by show _ ≤ 320; omega)⟩ dX1_isSame_441 (fun r9 hr9 => ?_)
                          subst hr9
                          refine lv_aload_n hx hb dX1_isSame_444 rfl (lv_at hl 7 rfl) ?_
                          refine S0.gW hF hX kf_RX1_15 dX1_isSame_445 ?_
                          refine lv_aload hx hb dX1_isSame_448 (lv_at hl 15 rfl) ?_
                          refine lv_iconst (v := 2) hx hb dX1_isSame_450 (by decide) ?_
                          refine S0.ldR hF hX k (by omega) 2 (by decide) rfl dX1_isSame_451 ?_
                          refine topI (show (rowV v st mk) k 2 = v 2 k from rfl) ?_
                          refine S0.ldW hF hX (ix (v 2 k)) (okM10 hok k) (okM hok k) dX1_isSame_452 ?_
                          refine lv_icmp_ne (tgt := 519) hx hb dX1_isSame_453 (by decide) (fun c453 => ?_) (fun c453 => ?_)
                          · exact absurd rfl c453
                          · refine lv_aload_n hx hb dX1_isSame_456 rfl (lv_at hl 8 rfl) ?_
                            refine lv_iload hx hb dX1_isSame_457 (lv_at hl 14 rfl) ?_
                            refine cVi (As := [.int (nI k)]) (rest := []) hF (mX0_readings hinv.1 hde k (by omega)) C0.mv hC (C0.rc hC) jyX0_readings kl_RX1_85 ⟨rfl, rfl⟩ ⟨Nat.le_of_ble_eq_true rfl, Nat.le_of_ble_eq_true rfl⟩ rfl hl.1 rfl (Nat.le_of_ble_eq_true rfl) ⟨(by show _ ≤ 130; omega), (by show _ ≤ 320; omega)⟩ dX1_isSame_459 (fun r9 hr9 => ?_)
                            subst hr9
                            refine lv_aload hx hb dX1_isSame_462 (lv_at hl 16 rfl) ?_
                            refine lv_iconst (v := 0) hx hb dX1_isSame_464 (by decide) ?_
                            refine ldI hF hX.2.1 h_x4 0 (by decide) (by decide) rfl dX1_isSame_465 ?_
                            refine lv_icmp_ne (tgt := 519) hx hb dX1_isSame_466 (by decide) (fun c466 => ?_) (fun c466 => ?_)
                            · exact absurd rfl c466
                            · refine lv_aload_n hx hb dX1_isSame_469 rfl (lv_at hl 8 rfl) ?_
                              refine lv_iload hx hb dX1_isSame_470 (lv_at hl 14 rfl) ?_
                              refine cVi (As := [.int (nI k)]) (rest := []) hF (mX0_rightReading hinv.1 hde k (by omega)) C0.mv hC (C0.rc hC) jyX0_rightReading kl_RX1_87 ⟨rfl, rfl⟩ ⟨Nat.le_of_ble_eq_true rfl, Nat.le_of_ble_eq_true rfl⟩ rfl hl.1 rfl (Nat.le_of_ble_eq_true rfl) ⟨(by show _ ≤ 130; omega), (by show _ ≤ 320; omega)⟩ dX1_isSame_472 (fun r9 hr9 => ?_)
                              subst hr9
                              refine lv_aload hx hb dX1_isSame_475 (lv_at hl 16 rfl) ?_
                              refine lv_iconst (v := 1) hx hb dX1_isSame_477 (by decide) ?_
                              refine ldI hF hX.2.1 h_x4 1 (by decide) (by decide) rfl dX1_isSame_478 ?_
                              refine lv_icmp_ne (tgt := 519) hx hb dX1_isSame_479 (by decide) (fun c479 => ?_) (fun c479 => ?_)
                              · exact absurd rfl c479
                              · refine lv_aload_n hx hb dX1_isSame_482 rfl (lv_at hl 8 rfl) ?_
                                refine lv_iload hx hb dX1_isSame_483 (lv_at hl 14 rfl) ?_
                                refine cVi (As := [.int (nI k)]) (rest := []) hF (mX0_isAmbiguous hinv.1 hde k (by omega)) C0.mv hC (C0.rc hC) jyX0_isAmbiguous kl_RX1_90 ⟨rfl, rfl⟩ ⟨Nat.le_of_ble_eq_true rfl, Nat.le_of_ble_eq_true rfl⟩ rfl hl.1 rfl (Nat.le_of_ble_eq_true rfl) ⟨(by show _ ≤ 130; omega), (by show _ ≤ 320; omega)⟩ dX1_isSame_485 (fun r9 hr9 => ?_)
                                subst hr9
                                refine lv_aload_n hx hb dX1_isSame_488 rfl (lv_at hl 7 rfl) ?_
                                refine lv_iload hx hb dX1_isSame_489 (lv_at hl 14 rfl) ?_
                                refine wVi (mc := 1) (ms := 2) (As := [.int (nI k)]) (rest := [.int (b2i (amb v st mk k))]) hF (mX1_isOpen hok k (by omega)) S0.mv (fun _ => Mv.const) hX hX.rc jyX1_isOpen kl_RX1_39 ⟨rfl, rfl⟩ ⟨Nat.le_of_ble_eq_true rfl, Nat.le_of_ble_eq_true rfl⟩ rfl hl.1 rfl (Nat.le_of_ble_eq_true rfl) ⟨by show _ + 1 ≤ 130; omega, by show _ + 2 ≤ 320; omega⟩ hS (fun _ _ h => h.elim) (fun _ h => h.elim) dX1_isSame_491 (fun r9 u9 H locs hp9 hB9 hz hk hS => ?_)
                                have ho : ∀ q : Nat, q < _ → H[q]? = _ := fun q h9 => hk q h9 (fun h => h)
                                have hX := hX0.up hS
                                have hC := C0.upS hC0 hS
                                have h_x1 := h_x1.upK ho
                                have h_x2 := h_x2.upK ho
                                have h_x3 := h_x3.upK ho
                                have h_x4 := h_x4.upK ho
                                subst hp9
                                refine lv_icmp_ne (tgt := 519) hx hb dX1_isSame_494 (by decide) (fun c494 => ?_) (fun c494 => ?_)
                                · exact absurd rfl c494
                                · refine lv_aload_n hx hb dX1_isSame_497 rfl (lv_at hl 8 rfl) ?_
                                  refine lv_iload hx hb dX1_isSame_498 (lv_at hl 14 rfl) ?_
                                  refine cVi (As := [.int (nI k)]) (rest := []) hF (mX0_isMended hinv.1 hde k (by omega)) C0.mv hC (C0.rc hC) jyX0_isMended kl_RX1_93 ⟨rfl, rfl⟩ ⟨Nat.le_of_ble_eq_true rfl, Nat.le_of_ble_eq_true rfl⟩ rfl hl.1 rfl (Nat.le_of_ble_eq_true rfl) ⟨(by show _ ≤ 130; omega), (by show _ ≤ 320; omega)⟩ dX1_isSame_500 (fun r9 hr9 => ?_)
                                  subst hr9
                                  refine lv_aload hx hb dX1_isSame_503 (lv_at hl 15 rfl) ?_
                                  refine lv_iconst (v := 5) hx hb dX1_isSame_505 (by decide) ?_
                                  refine S0.ldR hF hX k (by omega) 5 (by decide) rfl dX1_isSame_506 ?_
                                  refine topI (show (rowV v st mk) k 5 = b2i (mk k) from rfl) ?_
                                  refine lv_iconst (v := 1) hx hb dX1_isSame_507 (by decide) ?_
                                  refine lv_icmp_ne (tgt := 515) hx hb dX1_isSame_508 (by decide) (fun c508 => ?_) (fun c508 => ?_)
                                  · refine lv_iconst (v := 0) hx hb dX1_isSame_515 (by decide) ?_
                                    refine lv_icmp_eq (tgt := 521) hx hb dX1_isSame_516 (by decide) (fun c516 => ?_) (fun c516 => ?_)
                                    · have c516b := b2i_f c516
                                      refine lv_iinc (v := (nI (k + 1))) (lv' := [(14, .int (nI (k + 1))), (12, .int (nI k)), (11, .int ((sumI (fun i => nt (v 0) st (i + 1)) k) + (nt (v 0) st (k + 1)))), (10, .int (mx (hi9 (v 0) st k) (nt (v 0) st (k + 1)))), (9, .int (lo99 (v 0) st (k + 1))), (7, .int (ctB (fold1 v st) (k + 1))), (6, .int ((sumI (v 1) k) + (v 1 k))), (8, .int (ctB (rtP v) (k + 1))), (0, .ref sm), (1, .ref (q 0)), (2, .int (nI N)), (3, .ref x1), (4, .ref x2), (5, .int (nI h)), (13, .ref x3), (15, .ref (a k)), (16, .ref x4), (17, .int (b2i (exB (rtE v k) (k + 1)))), (18, .int (nI (k + 1)))]) hx hb dX1_isSame_521 hl (k := 14) rfl (nI_1 _) (by decide) rfl (fun ls hl => ?_)
                                      refine lv_goto (tgt := 53) hx hb dX1_isSame_524 (by decide) ?_
                                      refine W.widen (k := 3 + 4 * (k + 1)) (n := 60 + 8 * (k + 1)) (by omega) (by omega) ?_
                                      exact ih1 (k + 1) (g8.1, g8.2, (upd u8.2.2 x0 ((u8.2.2 x0) + 1))) ls H locs (by omega) ⟨⟨by omega, hG1, hG2, sung_s hx0 hxe hk1.2.2.2⟩, hX, hC, h_x1, h_x2, h_x3, hS, by rw [hhe, fam_s2 (by omega) c350 c359b]; exact lv_sub hl [8, 9, 10, 11, 12, 13, 6, 5, 7, 4, 3, 2, 1, 14, 0] rfl⟩
                                    · have c516b := b2i_t c516
                                      exact absurd (by rw [b2i_n1 c508]; rfl) c516
                                  · refine lv_iconst (v := 1) hx hb dX1_isSame_511 (by decide) ?_
                                    refine lv_goto (tgt := 516) hx hb dX1_isSame_512 (by decide) ?_
                                    refine lv_icmp_eq (tgt := 521) hx hb dX1_isSame_516 (by decide) (fun c516 => ?_) (fun c516 => ?_)
                                    · refine lv_iinc (v := (nI (k + 1))) (lv' := [(14, .int (nI (k + 1))), (12, .int (nI k)), (11, .int ((sumI (fun i => nt (v 0) st (i + 1)) k) + (nt (v 0) st (k + 1)))), (10, .int (mx (hi9 (v 0) st k) (nt (v 0) st (k + 1)))), (9, .int (lo99 (v 0) st (k + 1))), (7, .int (ctB (fold1 v st) (k + 1))), (6, .int ((sumI (v 1) k) + (v 1 k))), (8, .int (ctB (rtP v) (k + 1))), (0, .ref sm), (1, .ref (q 0)), (2, .int (nI N)), (3, .ref x1), (4, .ref x2), (5, .int (nI h)), (13, .ref x3), (15, .ref (a k)), (16, .ref x4), (17, .int (b2i (exB (rtE v k) (k + 1)))), (18, .int (nI (k + 1)))]) hx hb dX1_isSame_521 hl (k := 14) rfl (nI_1 _) (by decide) rfl (fun ls hl => ?_)
                                      refine lv_goto (tgt := 53) hx hb dX1_isSame_524 (by decide) ?_
                                      refine W.widen (k := 3 + 4 * (k + 1)) (n := 60 + 8 * (k + 1)) (by omega) (by omega) ?_
                                      exact ih1 (k + 1) (g8.1, g8.2, (upd u8.2.2 x0 ((u8.2.2 x0) + 1))) ls H locs (by omega) ⟨⟨by omega, hG1, hG2, sung_s hx0 hxe hk1.2.2.2⟩, hX, hC, h_x1, h_x2, h_x3, hS, by rw [hhe, fam_s2 (by omega) c350 c359b]; exact lv_sub hl [8, 9, 10, 11, 12, 13, 6, 5, 7, 4, 3, 2, 1, 14, 0] rfl⟩
                                    · exact absurd c508 c516
                      · refine lv_iconst (v := 1) hx hb dX1_isSame_430 (by decide) ?_
                        refine lv_goto (tgt := 435) hx hb dX1_isSame_431 (by decide) ?_
                        refine lv_icmp_ne (tgt := 519) hx hb dX1_isSame_435 (by decide) (fun c435 => ?_) (fun c435 => ?_)
                        · exact absurd c427 c435
                        · refine lv_aload_n hx hb dX1_isSame_438 rfl (lv_at hl 8 rfl) ?_
                          refine lv_iload hx hb dX1_isSame_439 (lv_at hl 14 rfl) ?_
                          refine cVi (As := [.int (nI k)]) (rest := []) hF (mX0_wordIn hinv.1 hde k (by omega)) C0.mv hC (C0.rc hC) jyX0_wordIn kl_RX1_82 ⟨rfl, rfl⟩ ⟨Nat.le_of_ble_eq_true rfl, Nat.le_of_ble_eq_true rfl⟩ rfl hl.1 rfl (Nat.le_of_ble_eq_true rfl) ⟨(by show _ ≤ 130; omega), (by show _ ≤ 320; omega)⟩ dX1_isSame_441 (fun r9 hr9 => ?_)
                          subst hr9
                          refine lv_aload_n hx hb dX1_isSame_444 rfl (lv_at hl 7 rfl) ?_
                          refine S0.gW hF hX kf_RX1_15 dX1_isSame_445 ?_
                          refine lv_aload hx hb dX1_isSame_448 (lv_at hl 15 rfl) ?_
                          refine lv_iconst (v := 2) hx hb dX1_isSame_450 (by decide) ?_
                          refine S0.ldR hF hX k (by omega) 2 (by decide) rfl dX1_isSame_451 ?_
                          refine topI (show (rowV v st mk) k 2 = v 2 k from rfl) ?_
                          refine S0.ldW hF hX (ix (v 2 k)) (okM10 hok k) (okM hok k) dX1_isSame_452 ?_
                          refine lv_icmp_ne (tgt := 519) hx hb dX1_isSame_453 (by decide) (fun c453 => ?_) (fun c453 => ?_)
                          · exact absurd rfl c453
                          · refine lv_aload_n hx hb dX1_isSame_456 rfl (lv_at hl 8 rfl) ?_
                            refine lv_iload hx hb dX1_isSame_457 (lv_at hl 14 rfl) ?_
                            refine cVi (As := [.int (nI k)]) (rest := []) hF (mX0_readings hinv.1 hde k (by omega)) C0.mv hC (C0.rc hC) jyX0_readings kl_RX1_85 ⟨rfl, rfl⟩ ⟨Nat.le_of_ble_eq_true rfl, Nat.le_of_ble_eq_true rfl⟩ rfl hl.1 rfl (Nat.le_of_ble_eq_true rfl) ⟨(by show _ ≤ 130; omega), (by show _ ≤ 320; omega)⟩ dX1_isSame_459 (fun r9 hr9 => ?_)
                            subst hr9
                            refine lv_aload hx hb dX1_isSame_462 (lv_at hl 16 rfl) ?_
                            refine lv_iconst (v := 0) hx hb dX1_isSame_464 (by decide) ?_
                            refine ldI hF hX.2.1 h_x4 0 (by decide) (by decide) rfl dX1_isSame_465 ?_
                            refine lv_icmp_ne (tgt := 519) hx hb dX1_isSame_466 (by decide) (fun c466 => ?_) (fun c466 => ?_)
                            · exact absurd rfl c466
                            · refine lv_aload_n hx hb dX1_isSame_469 rfl (lv_at hl 8 rfl) ?_
                              refine lv_iload hx hb dX1_isSame_470 (lv_at hl 14 rfl) ?_
                              refine cVi (As := [.int (nI k)]) (rest := []) hF (mX0_rightReading hinv.1 hde k (by omega)) C0.mv hC (C0.rc hC) jyX0_rightReading kl_RX1_87 ⟨rfl, rfl⟩ ⟨Nat.le_of_ble_eq_true rfl, Nat.le_of_ble_eq_true rfl⟩ rfl hl.1 rfl (Nat.le_of_ble_eq_true rfl) ⟨(by show _ ≤ 130; omega), (by show _ ≤ 320; omega)⟩ dX1_isSame_472 (fun r9 hr9 => ?_)
                              subst hr9
                              refine lv_aload hx hb dX1_isSame_475 (lv_at hl 16 rfl) ?_
                              refine lv_iconst (v := 1) hx hb dX1_isSame_477 (by decide) ?_
                              refine ldI hF hX.2.1 h_x4 1 (by decide) (by decide) rfl dX1_isSame_478 ?_
                              refine lv_icmp_ne (tgt := 519) hx hb dX1_isSame_479 (by decide) (fun c479 => ?_) (fun c479 => ?_)
                              · exact absurd rfl c479
                              · refine lv_aload_n hx hb dX1_isSame_482 rfl (lv_at hl 8 rfl) ?_
                                refine lv_iload hx hb dX1_isSame_483 (lv_at hl 14 rfl) ?_
                                refine cVi (As := [.int (nI k)]) (rest := []) hF (mX0_isAmbiguous hinv.1 hde k (by omega)) C0.mv hC (C0.rc hC) jyX0_isAmbiguous kl_RX1_90 ⟨rfl, rfl⟩ ⟨Nat.le_of_ble_eq_true rfl, Nat.le_of_ble_eq_true rfl⟩ rfl hl.1 rfl (Nat.le_of_ble_eq_true rfl) ⟨(by show _ ≤ 130; omega), (by show _ ≤ 320; omega)⟩ dX1_isSame_485 (fun r9 hr9 => ?_)
                                subst hr9
                                refine lv_aload_n hx hb dX1_isSame_488 rfl (lv_at hl 7 rfl) ?_
                                refine lv_iload hx hb dX1_isSame_489 (lv_at hl 14 rfl) ?_
                                refine wVi (mc := 1) (ms := 2) (As := [.int (nI k)]) (rest := [.int (b2i (amb v st mk k))]) hF (mX1_isOpen hok k (by omega)) S0.mv (fun _ => Mv.const) hX hX.rc jyX1_isOpen kl_RX1_39 ⟨rfl, rfl⟩ ⟨Nat.le_of_ble_eq_true rfl, Nat.le_of_ble_eq_true rfl⟩ rfl hl.1 rfl (Nat.le_of_ble_eq_true rfl) ⟨by show _ + 1 ≤ 130; omega, by show _ + 2 ≤ 320; omega⟩ hS (fun _ _ h => h.elim) (fun _ h => h.elim) dX1_isSame_491 (fun r9 u9 H locs hp9 hB9 hz hk hS => ?_)
                                have ho : ∀ q : Nat, q < _ → H[q]? = _ := fun q h9 => hk q h9 (fun h => h)
                                have hX := hX0.up hS
                                have hC := C0.upS hC0 hS
                                have h_x1 := h_x1.upK ho
                                have h_x2 := h_x2.upK ho
                                have h_x3 := h_x3.upK ho
                                have h_x4 := h_x4.upK ho
                                subst hp9
                                refine lv_icmp_ne (tgt := 519) hx hb dX1_isSame_494 (by decide) (fun c494 => ?_) (fun c494 => ?_)
                                · exact absurd rfl c494
                                · refine lv_aload_n hx hb dX1_isSame_497 rfl (lv_at hl 8 rfl) ?_
                                  refine lv_iload hx hb dX1_isSame_498 (lv_at hl 14 rfl) ?_
                                  refine cVi (As := [.int (nI k)]) (rest := []) hF (mX0_isMended hinv.1 hde k (by omega)) C0.mv hC (C0.rc hC) jyX0_isMended kl_RX1_93 ⟨rfl, rfl⟩ ⟨Nat.le_of_ble_eq_true rfl, Nat.le_of_ble_eq_true rfl⟩ rfl hl.1 rfl (Nat.le_of_ble_eq_true rfl) ⟨(by show _ ≤ 130; omega), (by show _ ≤ 320; omega)⟩ dX1_isSame_500 (fun r9 hr9 => ?_)
                                  subst hr9
                                  refine lv_aload hx hb dX1_isSame_503 (lv_at hl 15 rfl) ?_
                                  refine lv_iconst (v := 5) hx hb dX1_isSame_505 (by decide) ?_
                                  refine S0.ldR hF hX k (by omega) 5 (by decide) rfl dX1_isSame_506 ?_
                                  refine topI (show (rowV v st mk) k 5 = b2i (mk k) from rfl) ?_
                                  refine lv_iconst (v := 1) hx hb dX1_isSame_507 (by decide) ?_
                                  refine lv_icmp_ne (tgt := 515) hx hb dX1_isSame_508 (by decide) (fun c508 => ?_) (fun c508 => ?_)
                                  · refine lv_iconst (v := 0) hx hb dX1_isSame_515 (by decide) ?_
                                    refine lv_icmp_eq (tgt := 521) hx hb dX1_isSame_516 (by decide) (fun c516 => ?_) (fun c516 => ?_)
                                    · have c516b := b2i_f c516
                                      refine lv_iinc (v := (nI (k + 1))) (lv' := [(14, .int (nI (k + 1))), (12, .int (nI k)), (11, .int ((sumI (fun i => nt (v 0) st (i + 1)) k) + (nt (v 0) st (k + 1)))), (10, .int (mx (hi9 (v 0) st k) (nt (v 0) st (k + 1)))), (9, .int (lo99 (v 0) st (k + 1))), (7, .int (ctB (fold1 v st) (k + 1))), (6, .int ((sumI (v 1) k) + (v 1 k))), (8, .int (ctB (rtP v) (k + 1))), (0, .ref sm), (1, .ref (q 0)), (2, .int (nI N)), (3, .ref x1), (4, .ref x2), (5, .int (nI h)), (13, .ref x3), (15, .ref (a k)), (16, .ref x4), (17, .int (b2i (exB (rtE v k) (k + 1)))), (18, .int (nI (k + 1)))]) hx hb dX1_isSame_521 hl (k := 14) rfl (nI_1 _) (by decide) rfl (fun ls hl => ?_)
                                      refine lv_goto (tgt := 53) hx hb dX1_isSame_524 (by decide) ?_
                                      refine W.widen (k := 3 + 4 * (k + 1)) (n := 60 + 8 * (k + 1)) (by omega) (by omega) ?_
                                      exact ih1 (k + 1) (g8.1, g8.2, (upd u8.2.2 x0 ((u8.2.2 x0) + 1))) ls H locs (by omega) ⟨⟨by omega, hG1, hG2, sung_s hx0 hxe hk1.2.2.2⟩, hX, hC, h_x1, h_x2, h_x3, hS, by rw [hhe, fam_s2 (by omega) c350 c359b]; exact lv_sub hl [8, 9, 10, 11, 12, 13, 6, 5, 7, 4, 3, 2, 1, 14, 0] rfl⟩
                                    · have c516b := b2i_t c516
                                      exact absurd (by rw [b2i_n1 c508]; rfl) c516
                                  · refine lv_iconst (v := 1) hx hb dX1_isSame_511 (by decide) ?_
                                    refine lv_goto (tgt := 516) hx hb dX1_isSame_512 (by decide) ?_
                                    refine lv_icmp_eq (tgt := 521) hx hb dX1_isSame_516 (by decide) (fun c516 => ?_) (fun c516 => ?_)
                                    · refine lv_iinc (v := (nI (k + 1))) (lv' := [(14, .int (nI (k + 1))), (12, .int (nI k)), (11, .int ((sumI (fun i => nt (v 0) st (i + 1)) k) + (nt (v 0) st (k + 1)))), (10, .int (mx (hi9 (v 0) st k) (nt (v 0) st (k + 1)))), (9, .int (lo99 (v 0) st (k + 1))), (7, .int (ctB (fold1 v st) (k + 1))), (6, .int ((sumI (v 1) k) + (v 1 k))), (8, .int (ctB (rtP v) (k + 1))), (0, .ref sm), (1, .ref (q 0)), (2, .int (nI N)), (3, .ref x1), (4, .ref x2), (5, .int (nI h)), (13, .ref x3), (15, .ref (a k)), (16, .ref x4), (17, .int (b2i (exB (rtE v k) (k + 1)))), (18, .int (nI (k + 1)))]) hx hb dX1_isSame_521 hl (k := 14) rfl (nI_1 _) (by decide) rfl (fun ls hl => ?_)
                                      refine lv_goto (tgt := 53) hx hb dX1_isSame_524 (by decide) ?_
                                      refine W.widen (k := 3 + 4 * (k + 1)) (n := 60 + 8 * (k + 1)) (by omega) (by omega) ?_
                                      exact ih1 (k + 1) (g8.1, g8.2, (upd u8.2.2 x0 ((u8.2.2 x0) + 1))) ls H locs (by omega) ⟨⟨by omega, hG1, hG2, sung_s hx0 hxe hk1.2.2.2⟩, hX, hC, h_x1, h_x2, h_x3, hS, by rw [hhe, fam_s2 (by omega) c350 c359b]; exact lv_sub hl [8, 9, 10, 11, 12, 13, 6, 5, 7, 4, 3, 2, 1, 14, 0] rfl⟩
                                    · exact absurd c508 c516
      · have c221n : ¬ k < o := fun h9 => c221 ((nI_ltI (a := k) (b := o) (by omega) (by omega)).mpr h9)
        refine lv_iload hx hb dX1_isSame_224 (lv_at hl 17 rfl) ?_
        refine lv_aload_n hx hb dX1_isSame_226 rfl (lv_at hl 3 rfl) ?_
        refine lv_iload hx hb dX1_isSame_227 (lv_at hl 18 rfl) ?_
        refine ldI hF hX.2.1 h_x1 o (by omega) (by omega) rfl dX1_isSame_229 ?_
        refine topI (show (g8.1 o) = px (v 0) (v 1) o from hG1 o (by omega)) ?_
        refine lv_aload_n hx hb dX1_isSame_230 rfl (lv_at hl 3 rfl) ?_
        refine lv_iload hx hb dX1_isSame_231 (lv_at hl 14 rfl) ?_
        refine lv_iconst (v := 1) hx hb dX1_isSame_233 (by decide) ?_
        refine lv_iadd hx hb dX1_isSame_234 ?_
        refine topI (show ((nI k) + 1) = nI (k + 1) from nI_1 k) ?_
        refine ldI hF hX.2.1 h_x1 (k + 1) (by omega) (by omega) rfl dX1_isSame_235 ?_
        refine topI (show (g8.1 (k + 1)) = px (v 0) (v 1) (k + 1) from hG1 (k + 1) (Nat.le_refl _)) ?_
        refine lv_icmp_ne (tgt := 258) hx hb dX1_isSame_236 (by decide) (fun c236 => ?_) (fun c236 => ?_)
        · refine lv_iconst (v := 0) hx hb dX1_isSame_258 (by decide) ?_
          refine lv_ior hx hb dX1_isSame_259 ?_
          refine topI (show ((b2i (exB (rtE v k) o)) ||| 0) = b2i (exB (rtE v k) (o + 1)) from or_f (by simp [rtE, c236])) ?_
          refine lv_istore (lv' := [(17, .int (b2i (exB (rtE v k) (o + 1)))), (0, .ref sm), (1, .ref (q 0)), (2, .int (nI N)), (3, .ref x1), (4, .ref x2), (5, .int (nI h)), (6, .int (sumI (v 1) k)), (7, .int (ctB (fold1 v st) k)), (8, .int (ctB (rtP v) k)), (9, .int (lo99 (v 0) st k)), (10, .int (hi9 (v 0) st k)), (11, .int (sumI (fun i => nt (v 0) st (i + 1)) k)), (12, .int (fam v st mk k)), (13, .ref x3), (14, .int (nI k)), (15, .ref (a k)), (16, .ref x4), (18, .int (nI o))]) hx hb dX1_isSame_260 hl (by decide) rfl (fun ls hl => ?_)
          refine lv_iinc (v := (nI (o + 1))) (lv' := [(18, .int (nI (o + 1))), (17, .int (b2i (exB (rtE v k) (o + 1)))), (0, .ref sm), (1, .ref (q 0)), (2, .int (nI N)), (3, .ref x1), (4, .ref x2), (5, .int (nI h)), (6, .int (sumI (v 1) k)), (7, .int (ctB (fold1 v st) k)), (8, .int (ctB (rtP v) k)), (9, .int (lo99 (v 0) st k)), (10, .int (hi9 (v 0) st k)), (11, .int (sumI (fun i => nt (v 0) st (i + 1)) k)), (12, .int (fam v st mk k)), (13, .ref x3), (14, .int (nI k)), (15, .ref (a k)), (16, .ref x4)]) hx hb dX1_isSame_262 hl (k := 18) rfl (nI_1 _) (by decide) rfl (fun ls hl => ?_)
          refine lv_goto (tgt := 217) hx hb dX1_isSame_265 (by decide) ?_
          exact ih3 (o + 1) ls (by omega) ⟨by omega, by exact lv_sub hl [2, 3, 4, 5, 6, 7, 8, 9, 10, 11, 12, 13, 14, 15, 16, 17, 18, 1, 0] rfl⟩
        · refine lv_aload hx hb dX1_isSame_239 (lv_at hl 4 rfl) ?_
          refine lv_iload hx hb dX1_isSame_241 (lv_at hl 18 rfl) ?_
          refine ldI hF hX.2.1 h_x2 o (by omega) (by omega) rfl dX1_isSame_243 ?_
          refine topI (show (g8.2 o) = py (v 0) (v 1) o from hG2 o (by omega)) ?_
          refine lv_aload hx hb dX1_isSame_244 (lv_at hl 4 rfl) ?_
          refine lv_iload hx hb dX1_isSame_246 (lv_at hl 14 rfl) ?_
          refine lv_iconst (v := 1) hx hb dX1_isSame_248 (by decide) ?_
          refine lv_iadd hx hb dX1_isSame_249 ?_
          refine topI (show ((nI k) + 1) = nI (k + 1) from nI_1 k) ?_
          refine ldI hF hX.2.1 h_x2 (k + 1) (by omega) (by omega) rfl dX1_isSame_250 ?_
          refine topI (show (g8.2 (k + 1)) = py (v 0) (v 1) (k + 1) from hG2 (k + 1) (Nat.le_refl _)) ?_
          refine lv_icmp_ne (tgt := 258) hx hb dX1_isSame_251 (by decide) (fun c251 => ?_) (fun c251 => ?_)
          · refine lv_iconst (v := 0) hx hb dX1_isSame_258 (by decide) ?_
            refine lv_ior hx hb dX1_isSame_259 ?_
            refine topI (show ((b2i (exB (rtE v k) o)) ||| 0) = b2i (exB (rtE v k) (o + 1)) from or_f (by simp [rtE, c251])) ?_
            refine lv_istore (lv' := [(17, .int (b2i (exB (rtE v k) (o + 1)))), (0, .ref sm), (1, .ref (q 0)), (2, .int (nI N)), (3, .ref x1), (4, .ref x2), (5, .int (nI h)), (6, .int (sumI (v 1) k)), (7, .int (ctB (fold1 v st) k)), (8, .int (ctB (rtP v) k)), (9, .int (lo99 (v 0) st k)), (10, .int (hi9 (v 0) st k)), (11, .int (sumI (fun i => nt (v 0) st (i + 1)) k)), (12, .int (fam v st mk k)), (13, .ref x3), (14, .int (nI k)), (15, .ref (a k)), (16, .ref x4), (18, .int (nI o))]) hx hb dX1_isSame_260 hl (by decide) rfl (fun ls hl => ?_)
            refine lv_iinc (v := (nI (o + 1))) (lv' := [(18, .int (nI (o + 1))), (17, .int (b2i (exB (rtE v k) (o + 1)))), (0, .ref sm), (1, .ref (q 0)), (2, .int (nI N)), (3, .ref x1), (4, .ref x2), (5, .int (nI h)), (6, .int (sumI (v 1) k)), (7, .int (ctB (fold1 v st) k)), (8, .int (ctB (rtP v) k)), (9, .int (lo99 (v 0) st k)), (10, .int (hi9 (v 0) st k)), (11, .int (sumI (fun i => nt (v 0) st (i + 1)) k)), (12, .int (fam v st mk k)), (13, .ref x3), (14, .int (nI k)), (15, .ref (a k)), (16, .ref x4)]) hx hb dX1_isSame_262 hl (k := 18) rfl (nI_1 _) (by decide) rfl (fun ls hl => ?_)
            refine lv_goto (tgt := 217) hx hb dX1_isSame_265 (by decide) ?_
            exact ih3 (o + 1) ls (by omega) ⟨by omega, by exact lv_sub hl [2, 3, 4, 5, 6, 7, 8, 9, 10, 11, 12, 13, 14, 15, 16, 17, 18, 1, 0] rfl⟩
          · refine lv_iconst (v := 1) hx hb dX1_isSame_254 (by decide) ?_
            refine lv_goto (tgt := 259) hx hb dX1_isSame_255 (by decide) ?_
            refine lv_ior hx hb dX1_isSame_259 ?_
            refine topI (show ((b2i (exB (rtE v k) o)) ||| 1) = b2i (exB (rtE v k) (o + 1)) from or_t (by simp [rtE, c236, c251])) ?_
            refine lv_istore (lv' := [(17, .int (b2i (exB (rtE v k) (o + 1)))), (0, .ref sm), (1, .ref (q 0)), (2, .int (nI N)), (3, .ref x1), (4, .ref x2), (5, .int (nI h)), (6, .int (sumI (v 1) k)), (7, .int (ctB (fold1 v st) k)), (8, .int (ctB (rtP v) k)), (9, .int (lo99 (v 0) st k)), (10, .int (hi9 (v 0) st k)), (11, .int (sumI (fun i => nt (v 0) st (i + 1)) k)), (12, .int (fam v st mk k)), (13, .ref x3), (14, .int (nI k)), (15, .ref (a k)), (16, .ref x4), (18, .int (nI o))]) hx hb dX1_isSame_260 hl (by decide) rfl (fun ls hl => ?_)
            refine lv_iinc (v := (nI (o + 1))) (lv' := [(18, .int (nI (o + 1))), (17, .int (b2i (exB (rtE v k) (o + 1)))), (0, .ref sm), (1, .ref (q 0)), (2, .int (nI N)), (3, .ref x1), (4, .ref x2), (5, .int (nI h)), (6, .int (sumI (v 1) k)), (7, .int (ctB (fold1 v st) k)), (8, .int (ctB (rtP v) k)), (9, .int (lo99 (v 0) st k)), (10, .int (hi9 (v 0) st k)), (11, .int (sumI (fun i => nt (v 0) st (i + 1)) k)), (12, .int (fam v st mk k)), (13, .ref x3), (14, .int (nI k)), (15, .ref (a k)), (16, .ref x4)]) hx hb dX1_isSame_262 hl (k := 18) rfl (nI_1 _) (by decide) rfl (fun ls hl => ?_)
            refine lv_goto (tgt := 217) hx hb dX1_isSame_265 (by decide) ?_
            exact ih3 (o + 1) ls (by omega) ⟨by omega, by exact lv_sub hl [2, 3, 4, 5, 6, 7, 8, 9, 10, 11, 12, 13, 14, 15, 16, 17, 18, 1, 0] rfl⟩
    · have c122n : ¬ (l0 + 1) ≤ g0 := fun h9 => c122 ((nI_leI (a := (l0 + 1)) (b := g0) (by omega) (by omega)).mpr h9)
      refine lv_aload_n hx hb dX1_isSame_125 rfl (lv_at hl 3 rfl) ?_
      refine lv_iload hx hb dX1_isSame_126 (lv_at hl 14 rfl) ?_
      refine lv_iconst (v := 1) hx hb dX1_isSame_128 (by decide) ?_
      refine lv_iadd hx hb dX1_isSame_129 ?_
      refine topI (show ((nI k) + 1) = nI (k + 1) from nI_1 k) ?_
      refine lv_dup2_11 hx hb dX1_isSame_130 rfl rfl ?_
      refine ldI hF hX.2.1 h_x1 (k + 1) (by omega) (by omega) rfl dX1_isSame_131 ?_
      refine lv_iload hx hb dX1_isSame_132 (lv_at hl 5 rfl) ?_
      refine lv_if_le (tgt := 147) hx hb dX1_isSame_134 (by decide) (fun c134 => ?_) (fun c134 => ?_)
      · have c134n : h ≤ 0 := (nI_leI (a := h) (b := 0) (by omega) (by omega)).mp c134
        refine lv_iload hx hb dX1_isSame_147 (lv_at hl 5 rfl) ?_
        refine lv_iconst (v := 4) hx hb dX1_isSame_149 (by decide) ?_
        refine lv_icmp_le (tgt := 157) hx hb dX1_isSame_150 (by decide) (fun c150 => ?_) (fun c150 => ?_)
        · have c150n : h ≤ 4 := (nI_leI (a := h) (b := 4) (by omega) (by omega)).mp c150
          refine lv_iconst (v := 0) hx hb dX1_isSame_157 (by decide) ?_
          refine topI (show 0 = eaT h from dx_3 h hh8 (by omega) c150n) ?_
          refine lv_iadd hx hb dX1_isSame_158 ?_
          refine stI hF hX.2.1 h_x1 hS hA_x1 (k + 1) (by omega) (by omega) rfl dX1_isSame_159 (fun H locs h_x1 hz oq hS => ?_)
          have hX := hX0.up hS
          have hC := C0.upS hC0 hS
          have h_x2 := h_x2.k (oq _ n_x2_x1)
          have h_x3 := h_x3.k (oq _ n_x3_x1)
          have h_x4 := h_x4.k (oq _ n_x4_x1)
          refine lv_aload hx hb dX1_isSame_160 (lv_at hl 4 rfl) ?_
          refine lv_iload hx hb dX1_isSame_162 (lv_at hl 14 rfl) ?_
          refine lv_iconst (v := 1) hx hb dX1_isSame_164 (by decide) ?_
          refine lv_iadd hx hb dX1_isSame_165 ?_
          refine topI (show ((nI k) + 1) = nI (k + 1) from nI_1 k) ?_
          refine lv_dup2_11 hx hb dX1_isSame_166 rfl rfl ?_
          refine ldI hF hX.2.1 h_x2 (k + 1) (by omega) (by omega) rfl dX1_isSame_167 ?_
          refine lv_iload hx hb dX1_isSame_168 (lv_at hl 5 rfl) ?_
          refine lv_iconst (v := 2) hx hb dX1_isSame_170 (by decide) ?_
          refine lv_icmp_lt (tgt := 181) hx hb dX1_isSame_171 (by decide) (fun c171 => ?_) (fun c171 => ?_)
          · have c171n : h < 2 := (nI_ltI (a := h) (b := 2) (by omega) (by omega)).mp c171
            refine lv_iconst (v := 1) hx hb dX1_isSame_181 (by decide) ?_
            refine lv_goto (tgt := 203) hx hb dX1_isSame_182 (by decide) ?_
            refine topI (show 1 = noT h from dy_1 h hh8 (by omega)) ?_
            refine lv_iadd hx hb dX1_isSame_203 ?_
            refine stI hF hX.2.1 h_x2 hS hA_x2 (k + 1) (by omega) (by omega) rfl dX1_isSame_204 (fun H locs h_x2 hz oq hS => ?_)
            have hX := hX0.up hS
            have hC := C0.upS hC0 hS
            have h_x1 := h_x1.k (oq _ n_x1_x2)
            have h_x3 := h_x3.k (oq _ n_x3_x2)
            have h_x4 := h_x4.k (oq _ n_x4_x2)
            refine lv_iinc (v := (nI (g0 + 1))) (lv' := [(17, .int (nI (g0 + 1))), (0, .ref sm), (1, .ref (q 0)), (2, .int (nI N)), (3, .ref x1), (4, .ref x2), (5, .int (nI h)), (6, .int (sumI (v 1) k)), (7, .int (ctB (fold1 v st) k)), (8, .int (ctB (rtP v) k)), (9, .int (lo99 (v 0) st k)), (10, .int (hi9 (v 0) st k)), (11, .int (sumI (fun i => nt (v 0) st (i + 1)) k)), (12, .int (fam v st mk k)), (13, .ref x3), (14, .int (nI k)), (15, .ref (a k)), (16, .ref x4)]) hx hb dX1_isSame_205 hl (k := 17) rfl (nI_1 _) (by decide) rfl (fun ls hl => ?_)
            refine lv_goto (tgt := 116) hx hb dX1_isSame_208 (by decide) ?_
            refine W.widen (k := 3 + 4 * k + 1) (n := 60 + 8 * k + 2) (by omega) (by omega) ?_
            exact ih2 (g0 + 1) ((upd g8.1 (k + 1) ((g8.1 (k + 1)) + (eaT h))), (upd g8.2 (k + 1) ((g8.2 (k + 1)) + (noT h)))) ls H locs (by omega) ⟨⟨by omega, (go_s ⟨hg.2.1, hg.2.2.2.1⟩).1, (go_s ⟨hg.2.2.1, hg.2.2.2.2⟩).1, (go_s ⟨hg.2.1, hg.2.2.2.1⟩).2, (go_s ⟨hg.2.2.1, hg.2.2.2.2⟩).2⟩, hX, hC, h_x1, h_x2, h_x3, h_x4, hS, by exact lv_sub hl [1, 2, 3, 4, 5, 6, 7, 8, 9, 10, 11, 12, 13, 14, 15, 16, 17, 0] rfl⟩
          · have c171n : ¬ h < 2 := fun h9 => c171 ((nI_ltI (a := h) (b := 2) (by omega) (by omega)).mpr h9)
            refine lv_iload hx hb dX1_isSame_174 (lv_at hl 5 rfl) ?_
            refine lv_bipush (v := 7) hx hb dX1_isSame_176 (by decide) ?_
            refine lv_icmp_ne (tgt := 185) hx hb dX1_isSame_178 (by decide) (fun c178 => ?_) (fun c178 => ?_)
            · have c178n : ¬ h = 7 := fun h9 => c178 ((nI_eq (a := h) (b := 7) (by omega) (by omega)).mpr h9)
              refine lv_iload hx hb dX1_isSame_185 (lv_at hl 5 rfl) ?_
              refine lv_iconst (v := 2) hx hb dX1_isSame_187 (by decide) ?_
              refine lv_icmp_le (tgt := 202) hx hb dX1_isSame_188 (by decide) (fun c188 => ?_) (fun c188 => ?_)
              · have c188n : h ≤ 2 := (nI_leI (a := h) (b := 2) (by omega) (by omega)).mp c188
                refine lv_iconst (v := 0) hx hb dX1_isSame_202 (by decide) ?_
                refine topI (show 0 = noT h from dy_3 h hh8 c171n c178n (by omega)) ?_
                refine lv_iadd hx hb dX1_isSame_203 ?_
                refine stI hF hX.2.1 h_x2 hS hA_x2 (k + 1) (by omega) (by omega) rfl dX1_isSame_204 (fun H locs h_x2 hz oq hS => ?_)
                have hX := hX0.up hS
                have hC := C0.upS hC0 hS
                have h_x1 := h_x1.k (oq _ n_x1_x2)
                have h_x3 := h_x3.k (oq _ n_x3_x2)
                have h_x4 := h_x4.k (oq _ n_x4_x2)
                refine lv_iinc (v := (nI (g0 + 1))) (lv' := [(17, .int (nI (g0 + 1))), (0, .ref sm), (1, .ref (q 0)), (2, .int (nI N)), (3, .ref x1), (4, .ref x2), (5, .int (nI h)), (6, .int (sumI (v 1) k)), (7, .int (ctB (fold1 v st) k)), (8, .int (ctB (rtP v) k)), (9, .int (lo99 (v 0) st k)), (10, .int (hi9 (v 0) st k)), (11, .int (sumI (fun i => nt (v 0) st (i + 1)) k)), (12, .int (fam v st mk k)), (13, .ref x3), (14, .int (nI k)), (15, .ref (a k)), (16, .ref x4)]) hx hb dX1_isSame_205 hl (k := 17) rfl (nI_1 _) (by decide) rfl (fun ls hl => ?_)
                refine lv_goto (tgt := 116) hx hb dX1_isSame_208 (by decide) ?_
                refine W.widen (k := 3 + 4 * k + 1) (n := 60 + 8 * k + 2) (by omega) (by omega) ?_
                exact ih2 (g0 + 1) ((upd g8.1 (k + 1) ((g8.1 (k + 1)) + (eaT h))), (upd g8.2 (k + 1) ((g8.2 (k + 1)) + (noT h)))) ls H locs (by omega) ⟨⟨by omega, (go_s ⟨hg.2.1, hg.2.2.2.1⟩).1, (go_s ⟨hg.2.2.1, hg.2.2.2.2⟩).1, (go_s ⟨hg.2.1, hg.2.2.2.1⟩).2, (go_s ⟨hg.2.2.1, hg.2.2.2.2⟩).2⟩, hX, hC, h_x1, h_x2, h_x3, h_x4, hS, by exact lv_sub hl [1, 2, 3, 4, 5, 6, 7, 8, 9, 10, 11, 12, 13, 14, 15, 16, 17, 0] rfl⟩
              · have c188n : ¬ h ≤ 2 := fun h9 => c188 ((nI_leI (a := h) (b := 2) (by omega) (by omega)).mpr h9)
                refine lv_iload hx hb dX1_isSame_191 (lv_at hl 5 rfl) ?_
                refine lv_bipush (v := 6) hx hb dX1_isSame_193 (by decide) ?_
                refine lv_icmp_ge (tgt := 202) hx hb dX1_isSame_195 (by decide) (fun c195 => ?_) (fun c195 => ?_)
                · have c195n : 6 ≤ h := (nI_leI (a := 6) (b := h) (by omega) (by omega)).mp c195
                  refine lv_iconst (v := 0) hx hb dX1_isSame_202 (by decide) ?_
                  refine topI (show 0 = noT h from dy_3 h hh8 c171n c178n (by omega)) ?_
                  refine lv_iadd hx hb dX1_isSame_203 ?_
                  refine stI hF hX.2.1 h_x2 hS hA_x2 (k + 1) (by omega) (by omega) rfl dX1_isSame_204 (fun H locs h_x2 hz oq hS => ?_)
                  have hX := hX0.up hS
                  have hC := C0.upS hC0 hS
                  have h_x1 := h_x1.k (oq _ n_x1_x2)
                  have h_x3 := h_x3.k (oq _ n_x3_x2)
                  have h_x4 := h_x4.k (oq _ n_x4_x2)
                  refine lv_iinc (v := (nI (g0 + 1))) (lv' := [(17, .int (nI (g0 + 1))), (0, .ref sm), (1, .ref (q 0)), (2, .int (nI N)), (3, .ref x1), (4, .ref x2), (5, .int (nI h)), (6, .int (sumI (v 1) k)), (7, .int (ctB (fold1 v st) k)), (8, .int (ctB (rtP v) k)), (9, .int (lo99 (v 0) st k)), (10, .int (hi9 (v 0) st k)), (11, .int (sumI (fun i => nt (v 0) st (i + 1)) k)), (12, .int (fam v st mk k)), (13, .ref x3), (14, .int (nI k)), (15, .ref (a k)), (16, .ref x4)]) hx hb dX1_isSame_205 hl (k := 17) rfl (nI_1 _) (by decide) rfl (fun ls hl => ?_)
                  refine lv_goto (tgt := 116) hx hb dX1_isSame_208 (by decide) ?_
                  refine W.widen (k := 3 + 4 * k + 1) (n := 60 + 8 * k + 2) (by omega) (by omega) ?_
                  exact ih2 (g0 + 1) ((upd g8.1 (k + 1) ((g8.1 (k + 1)) + (eaT h))), (upd g8.2 (k + 1) ((g8.2 (k + 1)) + (noT h)))) ls H locs (by omega) ⟨⟨by omega, (go_s ⟨hg.2.1, hg.2.2.2.1⟩).1, (go_s ⟨hg.2.2.1, hg.2.2.2.2⟩).1, (go_s ⟨hg.2.1, hg.2.2.2.1⟩).2, (go_s ⟨hg.2.2.1, hg.2.2.2.2⟩).2⟩, hX, hC, h_x1, h_x2, h_x3, h_x4, hS, by exact lv_sub hl [1, 2, 3, 4, 5, 6, 7, 8, 9, 10, 11, 12, 13, 14, 15, 16, 17, 0] rfl⟩
                · have c195n : ¬ 6 ≤ h := fun h9 => c195 ((nI_leI (a := 6) (b := h) (by omega) (by omega)).mpr h9)
                  refine lv_iconst (v := (-1)) hx hb dX1_isSame_198 (by decide) ?_
                  refine lv_goto (tgt := 203) hx hb dX1_isSame_199 (by decide) ?_
                  refine topI (show (-1) = noT h from dy_2 h hh8 c188n c195n) ?_
                  refine lv_iadd hx hb dX1_isSame_203 ?_
                  refine stI hF hX.2.1 h_x2 hS hA_x2 (k + 1) (by omega) (by omega) rfl dX1_isSame_204 (fun H locs h_x2 hz oq hS => ?_)
                  have hX := hX0.up hS
                  have hC := C0.upS hC0 hS
                  have h_x1 := h_x1.k (oq _ n_x1_x2)
                  have h_x3 := h_x3.k (oq _ n_x3_x2)
                  have h_x4 := h_x4.k (oq _ n_x4_x2)
                  refine lv_iinc (v := (nI (g0 + 1))) (lv' := [(17, .int (nI (g0 + 1))), (0, .ref sm), (1, .ref (q 0)), (2, .int (nI N)), (3, .ref x1), (4, .ref x2), (5, .int (nI h)), (6, .int (sumI (v 1) k)), (7, .int (ctB (fold1 v st) k)), (8, .int (ctB (rtP v) k)), (9, .int (lo99 (v 0) st k)), (10, .int (hi9 (v 0) st k)), (11, .int (sumI (fun i => nt (v 0) st (i + 1)) k)), (12, .int (fam v st mk k)), (13, .ref x3), (14, .int (nI k)), (15, .ref (a k)), (16, .ref x4)]) hx hb dX1_isSame_205 hl (k := 17) rfl (nI_1 _) (by decide) rfl (fun ls hl => ?_)
                  refine lv_goto (tgt := 116) hx hb dX1_isSame_208 (by decide) ?_
                  refine W.widen (k := 3 + 4 * k + 1) (n := 60 + 8 * k + 2) (by omega) (by omega) ?_
                  exact ih2 (g0 + 1) ((upd g8.1 (k + 1) ((g8.1 (k + 1)) + (eaT h))), (upd g8.2 (k + 1) ((g8.2 (k + 1)) + (noT h)))) ls H locs (by omega) ⟨⟨by omega, (go_s ⟨hg.2.1, hg.2.2.2.1⟩).1, (go_s ⟨hg.2.2.1, hg.2.2.2.2⟩).1, (go_s ⟨hg.2.1, hg.2.2.2.1⟩).2, (go_s ⟨hg.2.2.1, hg.2.2.2.2⟩).2⟩, hX, hC, h_x1, h_x2, h_x3, h_x4, hS, by exact lv_sub hl [1, 2, 3, 4, 5, 6, 7, 8, 9, 10, 11, 12, 13, 14, 15, 16, 17, 0] rfl⟩
            · have c178n : h = 7 := (nI_eq (a := h) (b := 7) (by omega) (by omega)).mp c178
              refine lv_iconst (v := 1) hx hb dX1_isSame_181 (by decide) ?_
              refine lv_goto (tgt := 203) hx hb dX1_isSame_182 (by decide) ?_
              refine topI (show 1 = noT h from dy_1 h hh8 (by omega)) ?_
              refine lv_iadd hx hb dX1_isSame_203 ?_
              refine stI hF hX.2.1 h_x2 hS hA_x2 (k + 1) (by omega) (by omega) rfl dX1_isSame_204 (fun H locs h_x2 hz oq hS => ?_)
              have hX := hX0.up hS
              have hC := C0.upS hC0 hS
              have h_x1 := h_x1.k (oq _ n_x1_x2)
              have h_x3 := h_x3.k (oq _ n_x3_x2)
              have h_x4 := h_x4.k (oq _ n_x4_x2)
              refine lv_iinc (v := (nI (g0 + 1))) (lv' := [(17, .int (nI (g0 + 1))), (0, .ref sm), (1, .ref (q 0)), (2, .int (nI N)), (3, .ref x1), (4, .ref x2), (5, .int (nI h)), (6, .int (sumI (v 1) k)), (7, .int (ctB (fold1 v st) k)), (8, .int (ctB (rtP v) k)), (9, .int (lo99 (v 0) st k)), (10, .int (hi9 (v 0) st k)), (11, .int (sumI (fun i => nt (v 0) st (i + 1)) k)), (12, .int (fam v st mk k)), (13, .ref x3), (14, .int (nI k)), (15, .ref (a k)), (16, .ref x4)]) hx hb dX1_isSame_205 hl (k := 17) rfl (nI_1 _) (by decide) rfl (fun ls hl => ?_)
              refine lv_goto (tgt := 116) hx hb dX1_isSame_208 (by decide) ?_
              refine W.widen (k := 3 + 4 * k + 1) (n := 60 + 8 * k + 2) (by omega) (by omega) ?_
              exact ih2 (g0 + 1) ((upd g8.1 (k + 1) ((g8.1 (k + 1)) + (eaT h))), (upd g8.2 (k + 1) ((g8.2 (k + 1)) + (noT h)))) ls H locs (by omega) ⟨⟨by omega, (go_s ⟨hg.2.1, hg.2.2.2.1⟩).1, (go_s ⟨hg.2.2.1, hg.2.2.2.2⟩).1, (go_s ⟨hg.2.1, hg.2.2.2.1⟩).2, (go_s ⟨hg.2.2.1, hg.2.2.2.2⟩).2⟩, hX, hC, h_x1, h_x2, h_x3, h_x4, hS, by exact lv_sub hl [1, 2, 3, 4, 5, 6, 7, 8, 9, 10, 11, 12, 13, 14, 15, 16, 17, 0] rfl⟩
        · have c150n : ¬ h ≤ 4 := fun h9 => c150 ((nI_leI (a := h) (b := 4) (by omega) (by omega)).mpr h9)
          refine lv_iconst (v := (-1)) hx hb dX1_isSame_153 (by decide) ?_
          refine lv_goto (tgt := 158) hx hb dX1_isSame_154 (by decide) ?_
          refine topI (show (-1) = eaT h from dx_2 h hh8 c150n) ?_
          refine lv_iadd hx hb dX1_isSame_158 ?_
          refine stI hF hX.2.1 h_x1 hS hA_x1 (k + 1) (by omega) (by omega) rfl dX1_isSame_159 (fun H locs h_x1 hz oq hS => ?_)
          have hX := hX0.up hS
          have hC := C0.upS hC0 hS
          have h_x2 := h_x2.k (oq _ n_x2_x1)
          have h_x3 := h_x3.k (oq _ n_x3_x1)
          have h_x4 := h_x4.k (oq _ n_x4_x1)
          refine lv_aload hx hb dX1_isSame_160 (lv_at hl 4 rfl) ?_
          refine lv_iload hx hb dX1_isSame_162 (lv_at hl 14 rfl) ?_
          refine lv_iconst (v := 1) hx hb dX1_isSame_164 (by decide) ?_
          refine lv_iadd hx hb dX1_isSame_165 ?_
          refine topI (show ((nI k) + 1) = nI (k + 1) from nI_1 k) ?_
          refine lv_dup2_11 hx hb dX1_isSame_166 rfl rfl ?_
          refine ldI hF hX.2.1 h_x2 (k + 1) (by omega) (by omega) rfl dX1_isSame_167 ?_
          refine lv_iload hx hb dX1_isSame_168 (lv_at hl 5 rfl) ?_
          refine lv_iconst (v := 2) hx hb dX1_isSame_170 (by decide) ?_
          refine lv_icmp_lt (tgt := 181) hx hb dX1_isSame_171 (by decide) (fun c171 => ?_) (fun c171 => ?_)
          · have c171n : h < 2 := (nI_ltI (a := h) (b := 2) (by omega) (by omega)).mp c171
            refine lv_iconst (v := 1) hx hb dX1_isSame_181 (by decide) ?_
            refine lv_goto (tgt := 203) hx hb dX1_isSame_182 (by decide) ?_
            refine topI (show 1 = noT h from dy_1 h hh8 (by omega)) ?_
            refine lv_iadd hx hb dX1_isSame_203 ?_
            refine stI hF hX.2.1 h_x2 hS hA_x2 (k + 1) (by omega) (by omega) rfl dX1_isSame_204 (fun H locs h_x2 hz oq hS => ?_)
            have hX := hX0.up hS
            have hC := C0.upS hC0 hS
            have h_x1 := h_x1.k (oq _ n_x1_x2)
            have h_x3 := h_x3.k (oq _ n_x3_x2)
            have h_x4 := h_x4.k (oq _ n_x4_x2)
            refine lv_iinc (v := (nI (g0 + 1))) (lv' := [(17, .int (nI (g0 + 1))), (0, .ref sm), (1, .ref (q 0)), (2, .int (nI N)), (3, .ref x1), (4, .ref x2), (5, .int (nI h)), (6, .int (sumI (v 1) k)), (7, .int (ctB (fold1 v st) k)), (8, .int (ctB (rtP v) k)), (9, .int (lo99 (v 0) st k)), (10, .int (hi9 (v 0) st k)), (11, .int (sumI (fun i => nt (v 0) st (i + 1)) k)), (12, .int (fam v st mk k)), (13, .ref x3), (14, .int (nI k)), (15, .ref (a k)), (16, .ref x4)]) hx hb dX1_isSame_205 hl (k := 17) rfl (nI_1 _) (by decide) rfl (fun ls hl => ?_)
            refine lv_goto (tgt := 116) hx hb dX1_isSame_208 (by decide) ?_
            refine W.widen (k := 3 + 4 * k + 1) (n := 60 + 8 * k + 2) (by omega) (by omega) ?_
            exact ih2 (g0 + 1) ((upd g8.1 (k + 1) ((g8.1 (k + 1)) + (eaT h))), (upd g8.2 (k + 1) ((g8.2 (k + 1)) + (noT h)))) ls H locs (by omega) ⟨⟨by omega, (go_s ⟨hg.2.1, hg.2.2.2.1⟩).1, (go_s ⟨hg.2.2.1, hg.2.2.2.2⟩).1, (go_s ⟨hg.2.1, hg.2.2.2.1⟩).2, (go_s ⟨hg.2.2.1, hg.2.2.2.2⟩).2⟩, hX, hC, h_x1, h_x2, h_x3, h_x4, hS, by exact lv_sub hl [1, 2, 3, 4, 5, 6, 7, 8, 9, 10, 11, 12, 13, 14, 15, 16, 17, 0] rfl⟩
          · have c171n : ¬ h < 2 := fun h9 => c171 ((nI_ltI (a := h) (b := 2) (by omega) (by omega)).mpr h9)
            refine lv_iload hx hb dX1_isSame_174 (lv_at hl 5 rfl) ?_
            refine lv_bipush (v := 7) hx hb dX1_isSame_176 (by decide) ?_
            refine lv_icmp_ne (tgt := 185) hx hb dX1_isSame_178 (by decide) (fun c178 => ?_) (fun c178 => ?_)
            · have c178n : ¬ h = 7 := fun h9 => c178 ((nI_eq (a := h) (b := 7) (by omega) (by omega)).mpr h9)
              refine lv_iload hx hb dX1_isSame_185 (lv_at hl 5 rfl) ?_
              refine lv_iconst (v := 2) hx hb dX1_isSame_187 (by decide) ?_
              refine lv_icmp_le (tgt := 202) hx hb dX1_isSame_188 (by decide) (fun c188 => ?_) (fun c188 => ?_)
              · have c188n : h ≤ 2 := (nI_leI (a := h) (b := 2) (by omega) (by omega)).mp c188
                refine lv_iconst (v := 0) hx hb dX1_isSame_202 (by decide) ?_
                refine topI (show 0 = noT h from dy_3 h hh8 c171n c178n (by omega)) ?_
                refine lv_iadd hx hb dX1_isSame_203 ?_
                refine stI hF hX.2.1 h_x2 hS hA_x2 (k + 1) (by omega) (by omega) rfl dX1_isSame_204 (fun H locs h_x2 hz oq hS => ?_)
                have hX := hX0.up hS
                have hC := C0.upS hC0 hS
                have h_x1 := h_x1.k (oq _ n_x1_x2)
                have h_x3 := h_x3.k (oq _ n_x3_x2)
                have h_x4 := h_x4.k (oq _ n_x4_x2)
                refine lv_iinc (v := (nI (g0 + 1))) (lv' := [(17, .int (nI (g0 + 1))), (0, .ref sm), (1, .ref (q 0)), (2, .int (nI N)), (3, .ref x1), (4, .ref x2), (5, .int (nI h)), (6, .int (sumI (v 1) k)), (7, .int (ctB (fold1 v st) k)), (8, .int (ctB (rtP v) k)), (9, .int (lo99 (v 0) st k)), (10, .int (hi9 (v 0) st k)), (11, .int (sumI (fun i => nt (v 0) st (i + 1)) k)), (12, .int (fam v st mk k)), (13, .ref x3), (14, .int (nI k)), (15, .ref (a k)), (16, .ref x4)]) hx hb dX1_isSame_205 hl (k := 17) rfl (nI_1 _) (by decide) rfl (fun ls hl => ?_)
                refine lv_goto (tgt := 116) hx hb dX1_isSame_208 (by decide) ?_
                refine W.widen (k := 3 + 4 * k + 1) (n := 60 + 8 * k + 2) (by omega) (by omega) ?_
                exact ih2 (g0 + 1) ((upd g8.1 (k + 1) ((g8.1 (k + 1)) + (eaT h))), (upd g8.2 (k + 1) ((g8.2 (k + 1)) + (noT h)))) ls H locs (by omega) ⟨⟨by omega, (go_s ⟨hg.2.1, hg.2.2.2.1⟩).1, (go_s ⟨hg.2.2.1, hg.2.2.2.2⟩).1, (go_s ⟨hg.2.1, hg.2.2.2.1⟩).2, (go_s ⟨hg.2.2.1, hg.2.2.2.2⟩).2⟩, hX, hC, h_x1, h_x2, h_x3, h_x4, hS, by exact lv_sub hl [1, 2, 3, 4, 5, 6, 7, 8, 9, 10, 11, 12, 13, 14, 15, 16, 17, 0] rfl⟩
              · have c188n : ¬ h ≤ 2 := fun h9 => c188 ((nI_leI (a := h) (b := 2) (by omega) (by omega)).mpr h9)
                refine lv_iload hx hb dX1_isSame_191 (lv_at hl 5 rfl) ?_
                refine lv_bipush (v := 6) hx hb dX1_isSame_193 (by decide) ?_
                refine lv_icmp_ge (tgt := 202) hx hb dX1_isSame_195 (by decide) (fun c195 => ?_) (fun c195 => ?_)
                · have c195n : 6 ≤ h := (nI_leI (a := 6) (b := h) (by omega) (by omega)).mp c195
                  refine lv_iconst (v := 0) hx hb dX1_isSame_202 (by decide) ?_
                  refine topI (show 0 = noT h from dy_3 h hh8 c171n c178n (by omega)) ?_
                  refine lv_iadd hx hb dX1_isSame_203 ?_
                  refine stI hF hX.2.1 h_x2 hS hA_x2 (k + 1) (by omega) (by omega) rfl dX1_isSame_204 (fun H locs h_x2 hz oq hS => ?_)
                  have hX := hX0.up hS
                  have hC := C0.upS hC0 hS
                  have h_x1 := h_x1.k (oq _ n_x1_x2)
                  have h_x3 := h_x3.k (oq _ n_x3_x2)
                  have h_x4 := h_x4.k (oq _ n_x4_x2)
                  refine lv_iinc (v := (nI (g0 + 1))) (lv' := [(17, .int (nI (g0 + 1))), (0, .ref sm), (1, .ref (q 0)), (2, .int (nI N)), (3, .ref x1), (4, .ref x2), (5, .int (nI h)), (6, .int (sumI (v 1) k)), (7, .int (ctB (fold1 v st) k)), (8, .int (ctB (rtP v) k)), (9, .int (lo99 (v 0) st k)), (10, .int (hi9 (v 0) st k)), (11, .int (sumI (fun i => nt (v 0) st (i + 1)) k)), (12, .int (fam v st mk k)), (13, .ref x3), (14, .int (nI k)), (15, .ref (a k)), (16, .ref x4)]) hx hb dX1_isSame_205 hl (k := 17) rfl (nI_1 _) (by decide) rfl (fun ls hl => ?_)
                  refine lv_goto (tgt := 116) hx hb dX1_isSame_208 (by decide) ?_
                  refine W.widen (k := 3 + 4 * k + 1) (n := 60 + 8 * k + 2) (by omega) (by omega) ?_
                  exact ih2 (g0 + 1) ((upd g8.1 (k + 1) ((g8.1 (k + 1)) + (eaT h))), (upd g8.2 (k + 1) ((g8.2 (k + 1)) + (noT h)))) ls H locs (by omega) ⟨⟨by omega, (go_s ⟨hg.2.1, hg.2.2.2.1⟩).1, (go_s ⟨hg.2.2.1, hg.2.2.2.2⟩).1, (go_s ⟨hg.2.1, hg.2.2.2.1⟩).2, (go_s ⟨hg.2.2.1, hg.2.2.2.2⟩).2⟩, hX, hC, h_x1, h_x2, h_x3, h_x4, hS, by exact lv_sub hl [1, 2, 3, 4, 5, 6, 7, 8, 9, 10, 11, 12, 13, 14, 15, 16, 17, 0] rfl⟩
                · have c195n : ¬ 6 ≤ h := fun h9 => c195 ((nI_leI (a := 6) (b := h) (by omega) (by omega)).mpr h9)
                  refine lv_iconst (v := (-1)) hx hb dX1_isSame_198 (by decide) ?_
                  refine lv_goto (tgt := 203) hx hb dX1_isSame_199 (by decide) ?_
                  refine topI (show (-1) = noT h from dy_2 h hh8 c188n c195n) ?_
                  refine lv_iadd hx hb dX1_isSame_203 ?_
                  refine stI hF hX.2.1 h_x2 hS hA_x2 (k + 1) (by omega) (by omega) rfl dX1_isSame_204 (fun H locs h_x2 hz oq hS => ?_)
                  have hX := hX0.up hS
                  have hC := C0.upS hC0 hS
                  have h_x1 := h_x1.k (oq _ n_x1_x2)
                  have h_x3 := h_x3.k (oq _ n_x3_x2)
                  have h_x4 := h_x4.k (oq _ n_x4_x2)
                  refine lv_iinc (v := (nI (g0 + 1))) (lv' := [(17, .int (nI (g0 + 1))), (0, .ref sm), (1, .ref (q 0)), (2, .int (nI N)), (3, .ref x1), (4, .ref x2), (5, .int (nI h)), (6, .int (sumI (v 1) k)), (7, .int (ctB (fold1 v st) k)), (8, .int (ctB (rtP v) k)), (9, .int (lo99 (v 0) st k)), (10, .int (hi9 (v 0) st k)), (11, .int (sumI (fun i => nt (v 0) st (i + 1)) k)), (12, .int (fam v st mk k)), (13, .ref x3), (14, .int (nI k)), (15, .ref (a k)), (16, .ref x4)]) hx hb dX1_isSame_205 hl (k := 17) rfl (nI_1 _) (by decide) rfl (fun ls hl => ?_)
                  refine lv_goto (tgt := 116) hx hb dX1_isSame_208 (by decide) ?_
                  refine W.widen (k := 3 + 4 * k + 1) (n := 60 + 8 * k + 2) (by omega) (by omega) ?_
                  exact ih2 (g0 + 1) ((upd g8.1 (k + 1) ((g8.1 (k + 1)) + (eaT h))), (upd g8.2 (k + 1) ((g8.2 (k + 1)) + (noT h)))) ls H locs (by omega) ⟨⟨by omega, (go_s ⟨hg.2.1, hg.2.2.2.1⟩).1, (go_s ⟨hg.2.2.1, hg.2.2.2.2⟩).1, (go_s ⟨hg.2.1, hg.2.2.2.1⟩).2, (go_s ⟨hg.2.2.1, hg.2.2.2.2⟩).2⟩, hX, hC, h_x1, h_x2, h_x3, h_x4, hS, by exact lv_sub hl [1, 2, 3, 4, 5, 6, 7, 8, 9, 10, 11, 12, 13, 14, 15, 16, 17, 0] rfl⟩
            · have c178n : h = 7 := (nI_eq (a := h) (b := 7) (by omega) (by omega)).mp c178
              refine lv_iconst (v := 1) hx hb dX1_isSame_181 (by decide) ?_
              refine lv_goto (tgt := 203) hx hb dX1_isSame_182 (by decide) ?_
              refine topI (show 1 = noT h from dy_1 h hh8 (by omega)) ?_
              refine lv_iadd hx hb dX1_isSame_203 ?_
              refine stI hF hX.2.1 h_x2 hS hA_x2 (k + 1) (by omega) (by omega) rfl dX1_isSame_204 (fun H locs h_x2 hz oq hS => ?_)
              have hX := hX0.up hS
              have hC := C0.upS hC0 hS
              have h_x1 := h_x1.k (oq _ n_x1_x2)
              have h_x3 := h_x3.k (oq _ n_x3_x2)
              have h_x4 := h_x4.k (oq _ n_x4_x2)
              refine lv_iinc (v := (nI (g0 + 1))) (lv' := [(17, .int (nI (g0 + 1))), (0, .ref sm), (1, .ref (q 0)), (2, .int (nI N)), (3, .ref x1), (4, .ref x2), (5, .int (nI h)), (6, .int (sumI (v 1) k)), (7, .int (ctB (fold1 v st) k)), (8, .int (ctB (rtP v) k)), (9, .int (lo99 (v 0) st k)), (10, .int (hi9 (v 0) st k)), (11, .int (sumI (fun i => nt (v 0) st (i + 1)) k)), (12, .int (fam v st mk k)), (13, .ref x3), (14, .int (nI k)), (15, .ref (a k)), (16, .ref x4)]) hx hb dX1_isSame_205 hl (k := 17) rfl (nI_1 _) (by decide) rfl (fun ls hl => ?_)
              refine lv_goto (tgt := 116) hx hb dX1_isSame_208 (by decide) ?_
              refine W.widen (k := 3 + 4 * k + 1) (n := 60 + 8 * k + 2) (by omega) (by omega) ?_
              exact ih2 (g0 + 1) ((upd g8.1 (k + 1) ((g8.1 (k + 1)) + (eaT h))), (upd g8.2 (k + 1) ((g8.2 (k + 1)) + (noT h)))) ls H locs (by omega) ⟨⟨by omega, (go_s ⟨hg.2.1, hg.2.2.2.1⟩).1, (go_s ⟨hg.2.2.1, hg.2.2.2.2⟩).1, (go_s ⟨hg.2.1, hg.2.2.2.1⟩).2, (go_s ⟨hg.2.2.1, hg.2.2.2.2⟩).2⟩, hX, hC, h_x1, h_x2, h_x3, h_x4, hS, by exact lv_sub hl [1, 2, 3, 4, 5, 6, 7, 8, 9, 10, 11, 12, 13, 14, 15, 16, 17, 0] rfl⟩
      · have c134n : ¬ h ≤ 0 := fun h9 => c134 ((nI_leI (a := h) (b := 0) (by omega) (by omega)).mpr h9)
        refine lv_iload hx hb dX1_isSame_137 (lv_at hl 5 rfl) ?_
        refine lv_iconst (v := 4) hx hb dX1_isSame_139 (by decide) ?_
        refine lv_icmp_ge (tgt := 147) hx hb dX1_isSame_140 (by decide) (fun c140 => ?_) (fun c140 => ?_)
        · have c140n : 4 ≤ h := (nI_leI (a := 4) (b := h) (by omega) (by omega)).mp c140
          refine lv_iload hx hb dX1_isSame_147 (lv_at hl 5 rfl) ?_
          refine lv_iconst (v := 4) hx hb dX1_isSame_149 (by decide) ?_
          refine lv_icmp_le (tgt := 157) hx hb dX1_isSame_150 (by decide) (fun c150 => ?_) (fun c150 => ?_)
          · have c150n : h ≤ 4 := (nI_leI (a := h) (b := 4) (by omega) (by omega)).mp c150
            refine lv_iconst (v := 0) hx hb dX1_isSame_157 (by decide) ?_
            refine topI (show 0 = eaT h from dx_3 h hh8 (by omega) c150n) ?_
            refine lv_iadd hx hb dX1_isSame_158 ?_
            refine stI hF hX.2.1 h_x1 hS hA_x1 (k + 1) (by omega) (by omega) rfl dX1_isSame_159 (fun H locs h_x1 hz oq hS => ?_)
            have hX := hX0.up hS
            have hC := C0.upS hC0 hS
            have h_x2 := h_x2.k (oq _ n_x2_x1)
            have h_x3 := h_x3.k (oq _ n_x3_x1)
            have h_x4 := h_x4.k (oq _ n_x4_x1)
            refine lv_aload hx hb dX1_isSame_160 (lv_at hl 4 rfl) ?_
            refine lv_iload hx hb dX1_isSame_162 (lv_at hl 14 rfl) ?_
            refine lv_iconst (v := 1) hx hb dX1_isSame_164 (by decide) ?_
            refine lv_iadd hx hb dX1_isSame_165 ?_
            refine topI (show ((nI k) + 1) = nI (k + 1) from nI_1 k) ?_
            refine lv_dup2_11 hx hb dX1_isSame_166 rfl rfl ?_
            refine ldI hF hX.2.1 h_x2 (k + 1) (by omega) (by omega) rfl dX1_isSame_167 ?_
            refine lv_iload hx hb dX1_isSame_168 (lv_at hl 5 rfl) ?_
            refine lv_iconst (v := 2) hx hb dX1_isSame_170 (by decide) ?_
            refine lv_icmp_lt (tgt := 181) hx hb dX1_isSame_171 (by decide) (fun c171 => ?_) (fun c171 => ?_)
            · have c171n : h < 2 := (nI_ltI (a := h) (b := 2) (by omega) (by omega)).mp c171
              refine lv_iconst (v := 1) hx hb dX1_isSame_181 (by decide) ?_
              refine lv_goto (tgt := 203) hx hb dX1_isSame_182 (by decide) ?_
              refine topI (show 1 = noT h from dy_1 h hh8 (by omega)) ?_
              refine lv_iadd hx hb dX1_isSame_203 ?_
              refine stI hF hX.2.1 h_x2 hS hA_x2 (k + 1) (by omega) (by omega) rfl dX1_isSame_204 (fun H locs h_x2 hz oq hS => ?_)
              have hX := hX0.up hS
              have hC := C0.upS hC0 hS
              have h_x1 := h_x1.k (oq _ n_x1_x2)
              have h_x3 := h_x3.k (oq _ n_x3_x2)
              have h_x4 := h_x4.k (oq _ n_x4_x2)
              refine lv_iinc (v := (nI (g0 + 1))) (lv' := [(17, .int (nI (g0 + 1))), (0, .ref sm), (1, .ref (q 0)), (2, .int (nI N)), (3, .ref x1), (4, .ref x2), (5, .int (nI h)), (6, .int (sumI (v 1) k)), (7, .int (ctB (fold1 v st) k)), (8, .int (ctB (rtP v) k)), (9, .int (lo99 (v 0) st k)), (10, .int (hi9 (v 0) st k)), (11, .int (sumI (fun i => nt (v 0) st (i + 1)) k)), (12, .int (fam v st mk k)), (13, .ref x3), (14, .int (nI k)), (15, .ref (a k)), (16, .ref x4)]) hx hb dX1_isSame_205 hl (k := 17) rfl (nI_1 _) (by decide) rfl (fun ls hl => ?_)
              refine lv_goto (tgt := 116) hx hb dX1_isSame_208 (by decide) ?_
              refine W.widen (k := 3 + 4 * k + 1) (n := 60 + 8 * k + 2) (by omega) (by omega) ?_
              exact ih2 (g0 + 1) ((upd g8.1 (k + 1) ((g8.1 (k + 1)) + (eaT h))), (upd g8.2 (k + 1) ((g8.2 (k + 1)) + (noT h)))) ls H locs (by omega) ⟨⟨by omega, (go_s ⟨hg.2.1, hg.2.2.2.1⟩).1, (go_s ⟨hg.2.2.1, hg.2.2.2.2⟩).1, (go_s ⟨hg.2.1, hg.2.2.2.1⟩).2, (go_s ⟨hg.2.2.1, hg.2.2.2.2⟩).2⟩, hX, hC, h_x1, h_x2, h_x3, h_x4, hS, by exact lv_sub hl [1, 2, 3, 4, 5, 6, 7, 8, 9, 10, 11, 12, 13, 14, 15, 16, 17, 0] rfl⟩
            · have c171n : ¬ h < 2 := fun h9 => c171 ((nI_ltI (a := h) (b := 2) (by omega) (by omega)).mpr h9)
              refine lv_iload hx hb dX1_isSame_174 (lv_at hl 5 rfl) ?_
              refine lv_bipush (v := 7) hx hb dX1_isSame_176 (by decide) ?_
              refine lv_icmp_ne (tgt := 185) hx hb dX1_isSame_178 (by decide) (fun c178 => ?_) (fun c178 => ?_)
              · have c178n : ¬ h = 7 := fun h9 => c178 ((nI_eq (a := h) (b := 7) (by omega) (by omega)).mpr h9)
                refine lv_iload hx hb dX1_isSame_185 (lv_at hl 5 rfl) ?_
                refine lv_iconst (v := 2) hx hb dX1_isSame_187 (by decide) ?_
                refine lv_icmp_le (tgt := 202) hx hb dX1_isSame_188 (by decide) (fun c188 => ?_) (fun c188 => ?_)
                · have c188n : h ≤ 2 := (nI_leI (a := h) (b := 2) (by omega) (by omega)).mp c188
                  refine lv_iconst (v := 0) hx hb dX1_isSame_202 (by decide) ?_
                  refine topI (show 0 = noT h from dy_3 h hh8 c171n c178n (by omega)) ?_
                  refine lv_iadd hx hb dX1_isSame_203 ?_
                  refine stI hF hX.2.1 h_x2 hS hA_x2 (k + 1) (by omega) (by omega) rfl dX1_isSame_204 (fun H locs h_x2 hz oq hS => ?_)
                  have hX := hX0.up hS
                  have hC := C0.upS hC0 hS
                  have h_x1 := h_x1.k (oq _ n_x1_x2)
                  have h_x3 := h_x3.k (oq _ n_x3_x2)
                  have h_x4 := h_x4.k (oq _ n_x4_x2)
                  refine lv_iinc (v := (nI (g0 + 1))) (lv' := [(17, .int (nI (g0 + 1))), (0, .ref sm), (1, .ref (q 0)), (2, .int (nI N)), (3, .ref x1), (4, .ref x2), (5, .int (nI h)), (6, .int (sumI (v 1) k)), (7, .int (ctB (fold1 v st) k)), (8, .int (ctB (rtP v) k)), (9, .int (lo99 (v 0) st k)), (10, .int (hi9 (v 0) st k)), (11, .int (sumI (fun i => nt (v 0) st (i + 1)) k)), (12, .int (fam v st mk k)), (13, .ref x3), (14, .int (nI k)), (15, .ref (a k)), (16, .ref x4)]) hx hb dX1_isSame_205 hl (k := 17) rfl (nI_1 _) (by decide) rfl (fun ls hl => ?_)
                  refine lv_goto (tgt := 116) hx hb dX1_isSame_208 (by decide) ?_
                  refine W.widen (k := 3 + 4 * k + 1) (n := 60 + 8 * k + 2) (by omega) (by omega) ?_
                  exact ih2 (g0 + 1) ((upd g8.1 (k + 1) ((g8.1 (k + 1)) + (eaT h))), (upd g8.2 (k + 1) ((g8.2 (k + 1)) + (noT h)))) ls H locs (by omega) ⟨⟨by omega, (go_s ⟨hg.2.1, hg.2.2.2.1⟩).1, (go_s ⟨hg.2.2.1, hg.2.2.2.2⟩).1, (go_s ⟨hg.2.1, hg.2.2.2.1⟩).2, (go_s ⟨hg.2.2.1, hg.2.2.2.2⟩).2⟩, hX, hC, h_x1, h_x2, h_x3, h_x4, hS, by exact lv_sub hl [1, 2, 3, 4, 5, 6, 7, 8, 9, 10, 11, 12, 13, 14, 15, 16, 17, 0] rfl⟩
                · have c188n : ¬ h ≤ 2 := fun h9 => c188 ((nI_leI (a := h) (b := 2) (by omega) (by omega)).mpr h9)
                  refine lv_iload hx hb dX1_isSame_191 (lv_at hl 5 rfl) ?_
                  refine lv_bipush (v := 6) hx hb dX1_isSame_193 (by decide) ?_
                  refine lv_icmp_ge (tgt := 202) hx hb dX1_isSame_195 (by decide) (fun c195 => ?_) (fun c195 => ?_)
                  · have c195n : 6 ≤ h := (nI_leI (a := 6) (b := h) (by omega) (by omega)).mp c195
                    refine lv_iconst (v := 0) hx hb dX1_isSame_202 (by decide) ?_
                    refine topI (show 0 = noT h from dy_3 h hh8 c171n c178n (by omega)) ?_
                    refine lv_iadd hx hb dX1_isSame_203 ?_
                    refine stI hF hX.2.1 h_x2 hS hA_x2 (k + 1) (by omega) (by omega) rfl dX1_isSame_204 (fun H locs h_x2 hz oq hS => ?_)
                    have hX := hX0.up hS
                    have hC := C0.upS hC0 hS
                    have h_x1 := h_x1.k (oq _ n_x1_x2)
                    have h_x3 := h_x3.k (oq _ n_x3_x2)
                    have h_x4 := h_x4.k (oq _ n_x4_x2)
                    refine lv_iinc (v := (nI (g0 + 1))) (lv' := [(17, .int (nI (g0 + 1))), (0, .ref sm), (1, .ref (q 0)), (2, .int (nI N)), (3, .ref x1), (4, .ref x2), (5, .int (nI h)), (6, .int (sumI (v 1) k)), (7, .int (ctB (fold1 v st) k)), (8, .int (ctB (rtP v) k)), (9, .int (lo99 (v 0) st k)), (10, .int (hi9 (v 0) st k)), (11, .int (sumI (fun i => nt (v 0) st (i + 1)) k)), (12, .int (fam v st mk k)), (13, .ref x3), (14, .int (nI k)), (15, .ref (a k)), (16, .ref x4)]) hx hb dX1_isSame_205 hl (k := 17) rfl (nI_1 _) (by decide) rfl (fun ls hl => ?_)
                    refine lv_goto (tgt := 116) hx hb dX1_isSame_208 (by decide) ?_
                    refine W.widen (k := 3 + 4 * k + 1) (n := 60 + 8 * k + 2) (by omega) (by omega) ?_
                    exact ih2 (g0 + 1) ((upd g8.1 (k + 1) ((g8.1 (k + 1)) + (eaT h))), (upd g8.2 (k + 1) ((g8.2 (k + 1)) + (noT h)))) ls H locs (by omega) ⟨⟨by omega, (go_s ⟨hg.2.1, hg.2.2.2.1⟩).1, (go_s ⟨hg.2.2.1, hg.2.2.2.2⟩).1, (go_s ⟨hg.2.1, hg.2.2.2.1⟩).2, (go_s ⟨hg.2.2.1, hg.2.2.2.2⟩).2⟩, hX, hC, h_x1, h_x2, h_x3, h_x4, hS, by exact lv_sub hl [1, 2, 3, 4, 5, 6, 7, 8, 9, 10, 11, 12, 13, 14, 15, 16, 17, 0] rfl⟩
                  · have c195n : ¬ 6 ≤ h := fun h9 => c195 ((nI_leI (a := 6) (b := h) (by omega) (by omega)).mpr h9)
                    refine lv_iconst (v := (-1)) hx hb dX1_isSame_198 (by decide) ?_
                    refine lv_goto (tgt := 203) hx hb dX1_isSame_199 (by decide) ?_
                    refine topI (show (-1) = noT h from dy_2 h hh8 c188n c195n) ?_
                    refine lv_iadd hx hb dX1_isSame_203 ?_
                    refine stI hF hX.2.1 h_x2 hS hA_x2 (k + 1) (by omega) (by omega) rfl dX1_isSame_204 (fun H locs h_x2 hz oq hS => ?_)
                    have hX := hX0.up hS
                    have hC := C0.upS hC0 hS
                    have h_x1 := h_x1.k (oq _ n_x1_x2)
                    have h_x3 := h_x3.k (oq _ n_x3_x2)
                    have h_x4 := h_x4.k (oq _ n_x4_x2)
                    refine lv_iinc (v := (nI (g0 + 1))) (lv' := [(17, .int (nI (g0 + 1))), (0, .ref sm), (1, .ref (q 0)), (2, .int (nI N)), (3, .ref x1), (4, .ref x2), (5, .int (nI h)), (6, .int (sumI (v 1) k)), (7, .int (ctB (fold1 v st) k)), (8, .int (ctB (rtP v) k)), (9, .int (lo99 (v 0) st k)), (10, .int (hi9 (v 0) st k)), (11, .int (sumI (fun i => nt (v 0) st (i + 1)) k)), (12, .int (fam v st mk k)), (13, .ref x3), (14, .int (nI k)), (15, .ref (a k)), (16, .ref x4)]) hx hb dX1_isSame_205 hl (k := 17) rfl (nI_1 _) (by decide) rfl (fun ls hl => ?_)
                    refine lv_goto (tgt := 116) hx hb dX1_isSame_208 (by decide) ?_
                    refine W.widen (k := 3 + 4 * k + 1) (n := 60 + 8 * k + 2) (by omega) (by omega) ?_
                    exact ih2 (g0 + 1) ((upd g8.1 (k + 1) ((g8.1 (k + 1)) + (eaT h))), (upd g8.2 (k + 1) ((g8.2 (k + 1)) + (noT h)))) ls H locs (by omega) ⟨⟨by omega, (go_s ⟨hg.2.1, hg.2.2.2.1⟩).1, (go_s ⟨hg.2.2.1, hg.2.2.2.2⟩).1, (go_s ⟨hg.2.1, hg.2.2.2.1⟩).2, (go_s ⟨hg.2.2.1, hg.2.2.2.2⟩).2⟩, hX, hC, h_x1, h_x2, h_x3, h_x4, hS, by exact lv_sub hl [1, 2, 3, 4, 5, 6, 7, 8, 9, 10, 11, 12, 13, 14, 15, 16, 17, 0] rfl⟩
              · have c178n : h = 7 := (nI_eq (a := h) (b := 7) (by omega) (by omega)).mp c178
                refine lv_iconst (v := 1) hx hb dX1_isSame_181 (by decide) ?_
                refine lv_goto (tgt := 203) hx hb dX1_isSame_182 (by decide) ?_
                refine topI (show 1 = noT h from dy_1 h hh8 (by omega)) ?_
                refine lv_iadd hx hb dX1_isSame_203 ?_
                refine stI hF hX.2.1 h_x2 hS hA_x2 (k + 1) (by omega) (by omega) rfl dX1_isSame_204 (fun H locs h_x2 hz oq hS => ?_)
                have hX := hX0.up hS
                have hC := C0.upS hC0 hS
                have h_x1 := h_x1.k (oq _ n_x1_x2)
                have h_x3 := h_x3.k (oq _ n_x3_x2)
                have h_x4 := h_x4.k (oq _ n_x4_x2)
                refine lv_iinc (v := (nI (g0 + 1))) (lv' := [(17, .int (nI (g0 + 1))), (0, .ref sm), (1, .ref (q 0)), (2, .int (nI N)), (3, .ref x1), (4, .ref x2), (5, .int (nI h)), (6, .int (sumI (v 1) k)), (7, .int (ctB (fold1 v st) k)), (8, .int (ctB (rtP v) k)), (9, .int (lo99 (v 0) st k)), (10, .int (hi9 (v 0) st k)), (11, .int (sumI (fun i => nt (v 0) st (i + 1)) k)), (12, .int (fam v st mk k)), (13, .ref x3), (14, .int (nI k)), (15, .ref (a k)), (16, .ref x4)]) hx hb dX1_isSame_205 hl (k := 17) rfl (nI_1 _) (by decide) rfl (fun ls hl => ?_)
                refine lv_goto (tgt := 116) hx hb dX1_isSame_208 (by decide) ?_
                refine W.widen (k := 3 + 4 * k + 1) (n := 60 + 8 * k + 2) (by omega) (by omega) ?_
                exact ih2 (g0 + 1) ((upd g8.1 (k + 1) ((g8.1 (k + 1)) + (eaT h))), (upd g8.2 (k + 1) ((g8.2 (k + 1)) + (noT h)))) ls H locs (by omega) ⟨⟨by omega, (go_s ⟨hg.2.1, hg.2.2.2.1⟩).1, (go_s ⟨hg.2.2.1, hg.2.2.2.2⟩).1, (go_s ⟨hg.2.1, hg.2.2.2.1⟩).2, (go_s ⟨hg.2.2.1, hg.2.2.2.2⟩).2⟩, hX, hC, h_x1, h_x2, h_x3, h_x4, hS, by exact lv_sub hl [1, 2, 3, 4, 5, 6, 7, 8, 9, 10, 11, 12, 13, 14, 15, 16, 17, 0] rfl⟩
          · have c150n : ¬ h ≤ 4 := fun h9 => c150 ((nI_leI (a := h) (b := 4) (by omega) (by omega)).mpr h9)
            refine lv_iconst (v := (-1)) hx hb dX1_isSame_153 (by decide) ?_
            refine lv_goto (tgt := 158) hx hb dX1_isSame_154 (by decide) ?_
            refine topI (show (-1) = eaT h from dx_2 h hh8 c150n) ?_
            refine lv_iadd hx hb dX1_isSame_158 ?_
            refine stI hF hX.2.1 h_x1 hS hA_x1 (k + 1) (by omega) (by omega) rfl dX1_isSame_159 (fun H locs h_x1 hz oq hS => ?_)
            have hX := hX0.up hS
            have hC := C0.upS hC0 hS
            have h_x2 := h_x2.k (oq _ n_x2_x1)
            have h_x3 := h_x3.k (oq _ n_x3_x1)
            have h_x4 := h_x4.k (oq _ n_x4_x1)
            refine lv_aload hx hb dX1_isSame_160 (lv_at hl 4 rfl) ?_
            refine lv_iload hx hb dX1_isSame_162 (lv_at hl 14 rfl) ?_
            refine lv_iconst (v := 1) hx hb dX1_isSame_164 (by decide) ?_
            refine lv_iadd hx hb dX1_isSame_165 ?_
            refine topI (show ((nI k) + 1) = nI (k + 1) from nI_1 k) ?_
            refine lv_dup2_11 hx hb dX1_isSame_166 rfl rfl ?_
            refine ldI hF hX.2.1 h_x2 (k + 1) (by omega) (by omega) rfl dX1_isSame_167 ?_
            refine lv_iload hx hb dX1_isSame_168 (lv_at hl 5 rfl) ?_
            refine lv_iconst (v := 2) hx hb dX1_isSame_170 (by decide) ?_
            refine lv_icmp_lt (tgt := 181) hx hb dX1_isSame_171 (by decide) (fun c171 => ?_) (fun c171 => ?_)
            · have c171n : h < 2 := (nI_ltI (a := h) (b := 2) (by omega) (by omega)).mp c171
              refine lv_iconst (v := 1) hx hb dX1_isSame_181 (by decide) ?_
              refine lv_goto (tgt := 203) hx hb dX1_isSame_182 (by decide) ?_
              refine topI (show 1 = noT h from dy_1 h hh8 (by omega)) ?_
              refine lv_iadd hx hb dX1_isSame_203 ?_
              refine stI hF hX.2.1 h_x2 hS hA_x2 (k + 1) (by omega) (by omega) rfl dX1_isSame_204 (fun H locs h_x2 hz oq hS => ?_)
              have hX := hX0.up hS
              have hC := C0.upS hC0 hS
              have h_x1 := h_x1.k (oq _ n_x1_x2)
              have h_x3 := h_x3.k (oq _ n_x3_x2)
              have h_x4 := h_x4.k (oq _ n_x4_x2)
              refine lv_iinc (v := (nI (g0 + 1))) (lv' := [(17, .int (nI (g0 + 1))), (0, .ref sm), (1, .ref (q 0)), (2, .int (nI N)), (3, .ref x1), (4, .ref x2), (5, .int (nI h)), (6, .int (sumI (v 1) k)), (7, .int (ctB (fold1 v st) k)), (8, .int (ctB (rtP v) k)), (9, .int (lo99 (v 0) st k)), (10, .int (hi9 (v 0) st k)), (11, .int (sumI (fun i => nt (v 0) st (i + 1)) k)), (12, .int (fam v st mk k)), (13, .ref x3), (14, .int (nI k)), (15, .ref (a k)), (16, .ref x4)]) hx hb dX1_isSame_205 hl (k := 17) rfl (nI_1 _) (by decide) rfl (fun ls hl => ?_)
              refine lv_goto (tgt := 116) hx hb dX1_isSame_208 (by decide) ?_
              refine W.widen (k := 3 + 4 * k + 1) (n := 60 + 8 * k + 2) (by omega) (by omega) ?_
              exact ih2 (g0 + 1) ((upd g8.1 (k + 1) ((g8.1 (k + 1)) + (eaT h))), (upd g8.2 (k + 1) ((g8.2 (k + 1)) + (noT h)))) ls H locs (by omega) ⟨⟨by omega, (go_s ⟨hg.2.1, hg.2.2.2.1⟩).1, (go_s ⟨hg.2.2.1, hg.2.2.2.2⟩).1, (go_s ⟨hg.2.1, hg.2.2.2.1⟩).2, (go_s ⟨hg.2.2.1, hg.2.2.2.2⟩).2⟩, hX, hC, h_x1, h_x2, h_x3, h_x4, hS, by exact lv_sub hl [1, 2, 3, 4, 5, 6, 7, 8, 9, 10, 11, 12, 13, 14, 15, 16, 17, 0] rfl⟩
            · have c171n : ¬ h < 2 := fun h9 => c171 ((nI_ltI (a := h) (b := 2) (by omega) (by omega)).mpr h9)
              refine lv_iload hx hb dX1_isSame_174 (lv_at hl 5 rfl) ?_
              refine lv_bipush (v := 7) hx hb dX1_isSame_176 (by decide) ?_
              refine lv_icmp_ne (tgt := 185) hx hb dX1_isSame_178 (by decide) (fun c178 => ?_) (fun c178 => ?_)
              · have c178n : ¬ h = 7 := fun h9 => c178 ((nI_eq (a := h) (b := 7) (by omega) (by omega)).mpr h9)
                refine lv_iload hx hb dX1_isSame_185 (lv_at hl 5 rfl) ?_
                refine lv_iconst (v := 2) hx hb dX1_isSame_187 (by decide) ?_
                refine lv_icmp_le (tgt := 202) hx hb dX1_isSame_188 (by decide) (fun c188 => ?_) (fun c188 => ?_)
                · have c188n : h ≤ 2 := (nI_leI (a := h) (b := 2) (by omega) (by omega)).mp c188
                  refine lv_iconst (v := 0) hx hb dX1_isSame_202 (by decide) ?_
                  refine topI (show 0 = noT h from dy_3 h hh8 c171n c178n (by omega)) ?_
                  refine lv_iadd hx hb dX1_isSame_203 ?_
                  refine stI hF hX.2.1 h_x2 hS hA_x2 (k + 1) (by omega) (by omega) rfl dX1_isSame_204 (fun H locs h_x2 hz oq hS => ?_)
                  have hX := hX0.up hS
                  have hC := C0.upS hC0 hS
                  have h_x1 := h_x1.k (oq _ n_x1_x2)
                  have h_x3 := h_x3.k (oq _ n_x3_x2)
                  have h_x4 := h_x4.k (oq _ n_x4_x2)
                  refine lv_iinc (v := (nI (g0 + 1))) (lv' := [(17, .int (nI (g0 + 1))), (0, .ref sm), (1, .ref (q 0)), (2, .int (nI N)), (3, .ref x1), (4, .ref x2), (5, .int (nI h)), (6, .int (sumI (v 1) k)), (7, .int (ctB (fold1 v st) k)), (8, .int (ctB (rtP v) k)), (9, .int (lo99 (v 0) st k)), (10, .int (hi9 (v 0) st k)), (11, .int (sumI (fun i => nt (v 0) st (i + 1)) k)), (12, .int (fam v st mk k)), (13, .ref x3), (14, .int (nI k)), (15, .ref (a k)), (16, .ref x4)]) hx hb dX1_isSame_205 hl (k := 17) rfl (nI_1 _) (by decide) rfl (fun ls hl => ?_)
                  refine lv_goto (tgt := 116) hx hb dX1_isSame_208 (by decide) ?_
                  refine W.widen (k := 3 + 4 * k + 1) (n := 60 + 8 * k + 2) (by omega) (by omega) ?_
                  exact ih2 (g0 + 1) ((upd g8.1 (k + 1) ((g8.1 (k + 1)) + (eaT h))), (upd g8.2 (k + 1) ((g8.2 (k + 1)) + (noT h)))) ls H locs (by omega) ⟨⟨by omega, (go_s ⟨hg.2.1, hg.2.2.2.1⟩).1, (go_s ⟨hg.2.2.1, hg.2.2.2.2⟩).1, (go_s ⟨hg.2.1, hg.2.2.2.1⟩).2, (go_s ⟨hg.2.2.1, hg.2.2.2.2⟩).2⟩, hX, hC, h_x1, h_x2, h_x3, h_x4, hS, by exact lv_sub hl [1, 2, 3, 4, 5, 6, 7, 8, 9, 10, 11, 12, 13, 14, 15, 16, 17, 0] rfl⟩
                · have c188n : ¬ h ≤ 2 := fun h9 => c188 ((nI_leI (a := h) (b := 2) (by omega) (by omega)).mpr h9)
                  refine lv_iload hx hb dX1_isSame_191 (lv_at hl 5 rfl) ?_
                  refine lv_bipush (v := 6) hx hb dX1_isSame_193 (by decide) ?_
                  refine lv_icmp_ge (tgt := 202) hx hb dX1_isSame_195 (by decide) (fun c195 => ?_) (fun c195 => ?_)
                  · have c195n : 6 ≤ h := (nI_leI (a := 6) (b := h) (by omega) (by omega)).mp c195
                    refine lv_iconst (v := 0) hx hb dX1_isSame_202 (by decide) ?_
                    refine topI (show 0 = noT h from dy_3 h hh8 c171n c178n (by omega)) ?_
                    refine lv_iadd hx hb dX1_isSame_203 ?_
                    refine stI hF hX.2.1 h_x2 hS hA_x2 (k + 1) (by omega) (by omega) rfl dX1_isSame_204 (fun H locs h_x2 hz oq hS => ?_)
                    have hX := hX0.up hS
                    have hC := C0.upS hC0 hS
                    have h_x1 := h_x1.k (oq _ n_x1_x2)
                    have h_x3 := h_x3.k (oq _ n_x3_x2)
                    have h_x4 := h_x4.k (oq _ n_x4_x2)
                    refine lv_iinc (v := (nI (g0 + 1))) (lv' := [(17, .int (nI (g0 + 1))), (0, .ref sm), (1, .ref (q 0)), (2, .int (nI N)), (3, .ref x1), (4, .ref x2), (5, .int (nI h)), (6, .int (sumI (v 1) k)), (7, .int (ctB (fold1 v st) k)), (8, .int (ctB (rtP v) k)), (9, .int (lo99 (v 0) st k)), (10, .int (hi9 (v 0) st k)), (11, .int (sumI (fun i => nt (v 0) st (i + 1)) k)), (12, .int (fam v st mk k)), (13, .ref x3), (14, .int (nI k)), (15, .ref (a k)), (16, .ref x4)]) hx hb dX1_isSame_205 hl (k := 17) rfl (nI_1 _) (by decide) rfl (fun ls hl => ?_)
                    refine lv_goto (tgt := 116) hx hb dX1_isSame_208 (by decide) ?_
                    refine W.widen (k := 3 + 4 * k + 1) (n := 60 + 8 * k + 2) (by omega) (by omega) ?_
                    exact ih2 (g0 + 1) ((upd g8.1 (k + 1) ((g8.1 (k + 1)) + (eaT h))), (upd g8.2 (k + 1) ((g8.2 (k + 1)) + (noT h)))) ls H locs (by omega) ⟨⟨by omega, (go_s ⟨hg.2.1, hg.2.2.2.1⟩).1, (go_s ⟨hg.2.2.1, hg.2.2.2.2⟩).1, (go_s ⟨hg.2.1, hg.2.2.2.1⟩).2, (go_s ⟨hg.2.2.1, hg.2.2.2.2⟩).2⟩, hX, hC, h_x1, h_x2, h_x3, h_x4, hS, by exact lv_sub hl [1, 2, 3, 4, 5, 6, 7, 8, 9, 10, 11, 12, 13, 14, 15, 16, 17, 0] rfl⟩
                  · have c195n : ¬ 6 ≤ h := fun h9 => c195 ((nI_leI (a := 6) (b := h) (by omega) (by omega)).mpr h9)
                    refine lv_iconst (v := (-1)) hx hb dX1_isSame_198 (by decide) ?_
                    refine lv_goto (tgt := 203) hx hb dX1_isSame_199 (by decide) ?_
                    refine topI (show (-1) = noT h from dy_2 h hh8 c188n c195n) ?_
                    refine lv_iadd hx hb dX1_isSame_203 ?_
                    refine stI hF hX.2.1 h_x2 hS hA_x2 (k + 1) (by omega) (by omega) rfl dX1_isSame_204 (fun H locs h_x2 hz oq hS => ?_)
                    have hX := hX0.up hS
                    have hC := C0.upS hC0 hS
                    have h_x1 := h_x1.k (oq _ n_x1_x2)
                    have h_x3 := h_x3.k (oq _ n_x3_x2)
                    have h_x4 := h_x4.k (oq _ n_x4_x2)
                    refine lv_iinc (v := (nI (g0 + 1))) (lv' := [(17, .int (nI (g0 + 1))), (0, .ref sm), (1, .ref (q 0)), (2, .int (nI N)), (3, .ref x1), (4, .ref x2), (5, .int (nI h)), (6, .int (sumI (v 1) k)), (7, .int (ctB (fold1 v st) k)), (8, .int (ctB (rtP v) k)), (9, .int (lo99 (v 0) st k)), (10, .int (hi9 (v 0) st k)), (11, .int (sumI (fun i => nt (v 0) st (i + 1)) k)), (12, .int (fam v st mk k)), (13, .ref x3), (14, .int (nI k)), (15, .ref (a k)), (16, .ref x4)]) hx hb dX1_isSame_205 hl (k := 17) rfl (nI_1 _) (by decide) rfl (fun ls hl => ?_)
                    refine lv_goto (tgt := 116) hx hb dX1_isSame_208 (by decide) ?_
                    refine W.widen (k := 3 + 4 * k + 1) (n := 60 + 8 * k + 2) (by omega) (by omega) ?_
                    exact ih2 (g0 + 1) ((upd g8.1 (k + 1) ((g8.1 (k + 1)) + (eaT h))), (upd g8.2 (k + 1) ((g8.2 (k + 1)) + (noT h)))) ls H locs (by omega) ⟨⟨by omega, (go_s ⟨hg.2.1, hg.2.2.2.1⟩).1, (go_s ⟨hg.2.2.1, hg.2.2.2.2⟩).1, (go_s ⟨hg.2.1, hg.2.2.2.1⟩).2, (go_s ⟨hg.2.2.1, hg.2.2.2.2⟩).2⟩, hX, hC, h_x1, h_x2, h_x3, h_x4, hS, by exact lv_sub hl [1, 2, 3, 4, 5, 6, 7, 8, 9, 10, 11, 12, 13, 14, 15, 16, 17, 0] rfl⟩
              · have c178n : h = 7 := (nI_eq (a := h) (b := 7) (by omega) (by omega)).mp c178
                refine lv_iconst (v := 1) hx hb dX1_isSame_181 (by decide) ?_
                refine lv_goto (tgt := 203) hx hb dX1_isSame_182 (by decide) ?_
                refine topI (show 1 = noT h from dy_1 h hh8 (by omega)) ?_
                refine lv_iadd hx hb dX1_isSame_203 ?_
                refine stI hF hX.2.1 h_x2 hS hA_x2 (k + 1) (by omega) (by omega) rfl dX1_isSame_204 (fun H locs h_x2 hz oq hS => ?_)
                have hX := hX0.up hS
                have hC := C0.upS hC0 hS
                have h_x1 := h_x1.k (oq _ n_x1_x2)
                have h_x3 := h_x3.k (oq _ n_x3_x2)
                have h_x4 := h_x4.k (oq _ n_x4_x2)
                refine lv_iinc (v := (nI (g0 + 1))) (lv' := [(17, .int (nI (g0 + 1))), (0, .ref sm), (1, .ref (q 0)), (2, .int (nI N)), (3, .ref x1), (4, .ref x2), (5, .int (nI h)), (6, .int (sumI (v 1) k)), (7, .int (ctB (fold1 v st) k)), (8, .int (ctB (rtP v) k)), (9, .int (lo99 (v 0) st k)), (10, .int (hi9 (v 0) st k)), (11, .int (sumI (fun i => nt (v 0) st (i + 1)) k)), (12, .int (fam v st mk k)), (13, .ref x3), (14, .int (nI k)), (15, .ref (a k)), (16, .ref x4)]) hx hb dX1_isSame_205 hl (k := 17) rfl (nI_1 _) (by decide) rfl (fun ls hl => ?_)
                refine lv_goto (tgt := 116) hx hb dX1_isSame_208 (by decide) ?_
                refine W.widen (k := 3 + 4 * k + 1) (n := 60 + 8 * k + 2) (by omega) (by omega) ?_
                exact ih2 (g0 + 1) ((upd g8.1 (k + 1) ((g8.1 (k + 1)) + (eaT h))), (upd g8.2 (k + 1) ((g8.2 (k + 1)) + (noT h)))) ls H locs (by omega) ⟨⟨by omega, (go_s ⟨hg.2.1, hg.2.2.2.1⟩).1, (go_s ⟨hg.2.2.1, hg.2.2.2.2⟩).1, (go_s ⟨hg.2.1, hg.2.2.2.1⟩).2, (go_s ⟨hg.2.2.1, hg.2.2.2.2⟩).2⟩, hX, hC, h_x1, h_x2, h_x3, h_x4, hS, by exact lv_sub hl [1, 2, 3, 4, 5, 6, 7, 8, 9, 10, 11, 12, 13, 14, 15, 16, 17, 0] rfl⟩
        · have c140n : ¬ 4 ≤ h := fun h9 => c140 ((nI_leI (a := 4) (b := h) (by omega) (by omega)).mpr h9)
          refine lv_iconst (v := 1) hx hb dX1_isSame_143 (by decide) ?_
          refine lv_goto (tgt := 158) hx hb dX1_isSame_144 (by decide) ?_
          refine topI (show 1 = eaT h from dx_1 h hh8 c134n c140n) ?_
          refine lv_iadd hx hb dX1_isSame_158 ?_
          refine stI hF hX.2.1 h_x1 hS hA_x1 (k + 1) (by omega) (by omega) rfl dX1_isSame_159 (fun H locs h_x1 hz oq hS => ?_)
          have hX := hX0.up hS
          have hC := C0.upS hC0 hS
          have h_x2 := h_x2.k (oq _ n_x2_x1)
          have h_x3 := h_x3.k (oq _ n_x3_x1)
          have h_x4 := h_x4.k (oq _ n_x4_x1)
          refine lv_aload hx hb dX1_isSame_160 (lv_at hl 4 rfl) ?_
          refine lv_iload hx hb dX1_isSame_162 (lv_at hl 14 rfl) ?_
          refine lv_iconst (v := 1) hx hb dX1_isSame_164 (by decide) ?_
          refine lv_iadd hx hb dX1_isSame_165 ?_
          refine topI (show ((nI k) + 1) = nI (k + 1) from nI_1 k) ?_
          refine lv_dup2_11 hx hb dX1_isSame_166 rfl rfl ?_
          refine ldI hF hX.2.1 h_x2 (k + 1) (by omega) (by omega) rfl dX1_isSame_167 ?_
          refine lv_iload hx hb dX1_isSame_168 (lv_at hl 5 rfl) ?_
          refine lv_iconst (v := 2) hx hb dX1_isSame_170 (by decide) ?_
          refine lv_icmp_lt (tgt := 181) hx hb dX1_isSame_171 (by decide) (fun c171 => ?_) (fun c171 => ?_)
          · have c171n : h < 2 := (nI_ltI (a := h) (b := 2) (by omega) (by omega)).mp c171
            refine lv_iconst (v := 1) hx hb dX1_isSame_181 (by decide) ?_
            refine lv_goto (tgt := 203) hx hb dX1_isSame_182 (by decide) ?_
            refine topI (show 1 = noT h from dy_1 h hh8 (by omega)) ?_
            refine lv_iadd hx hb dX1_isSame_203 ?_
            refine stI hF hX.2.1 h_x2 hS hA_x2 (k + 1) (by omega) (by omega) rfl dX1_isSame_204 (fun H locs h_x2 hz oq hS => ?_)
            have hX := hX0.up hS
            have hC := C0.upS hC0 hS
            have h_x1 := h_x1.k (oq _ n_x1_x2)
            have h_x3 := h_x3.k (oq _ n_x3_x2)
            have h_x4 := h_x4.k (oq _ n_x4_x2)
            refine lv_iinc (v := (nI (g0 + 1))) (lv' := [(17, .int (nI (g0 + 1))), (0, .ref sm), (1, .ref (q 0)), (2, .int (nI N)), (3, .ref x1), (4, .ref x2), (5, .int (nI h)), (6, .int (sumI (v 1) k)), (7, .int (ctB (fold1 v st) k)), (8, .int (ctB (rtP v) k)), (9, .int (lo99 (v 0) st k)), (10, .int (hi9 (v 0) st k)), (11, .int (sumI (fun i => nt (v 0) st (i + 1)) k)), (12, .int (fam v st mk k)), (13, .ref x3), (14, .int (nI k)), (15, .ref (a k)), (16, .ref x4)]) hx hb dX1_isSame_205 hl (k := 17) rfl (nI_1 _) (by decide) rfl (fun ls hl => ?_)
            refine lv_goto (tgt := 116) hx hb dX1_isSame_208 (by decide) ?_
            refine W.widen (k := 3 + 4 * k + 1) (n := 60 + 8 * k + 2) (by omega) (by omega) ?_
            exact ih2 (g0 + 1) ((upd g8.1 (k + 1) ((g8.1 (k + 1)) + (eaT h))), (upd g8.2 (k + 1) ((g8.2 (k + 1)) + (noT h)))) ls H locs (by omega) ⟨⟨by omega, (go_s ⟨hg.2.1, hg.2.2.2.1⟩).1, (go_s ⟨hg.2.2.1, hg.2.2.2.2⟩).1, (go_s ⟨hg.2.1, hg.2.2.2.1⟩).2, (go_s ⟨hg.2.2.1, hg.2.2.2.2⟩).2⟩, hX, hC, h_x1, h_x2, h_x3, h_x4, hS, by exact lv_sub hl [1, 2, 3, 4, 5, 6, 7, 8, 9, 10, 11, 12, 13, 14, 15, 16, 17, 0] rfl⟩
          · have c171n : ¬ h < 2 := fun h9 => c171 ((nI_ltI (a := h) (b := 2) (by omega) (by omega)).mpr h9)
            refine lv_iload hx hb dX1_isSame_174 (lv_at hl 5 rfl) ?_
            refine lv_bipush (v := 7) hx hb dX1_isSame_176 (by decide) ?_
            refine lv_icmp_ne (tgt := 185) hx hb dX1_isSame_178 (by decide) (fun c178 => ?_) (fun c178 => ?_)
            · have c178n : ¬ h = 7 := fun h9 => c178 ((nI_eq (a := h) (b := 7) (by omega) (by omega)).mpr h9)
              refine lv_iload hx hb dX1_isSame_185 (lv_at hl 5 rfl) ?_
              refine lv_iconst (v := 2) hx hb dX1_isSame_187 (by decide) ?_
              refine lv_icmp_le (tgt := 202) hx hb dX1_isSame_188 (by decide) (fun c188 => ?_) (fun c188 => ?_)
              · have c188n : h ≤ 2 := (nI_leI (a := h) (b := 2) (by omega) (by omega)).mp c188
                refine lv_iconst (v := 0) hx hb dX1_isSame_202 (by decide) ?_
                refine topI (show 0 = noT h from dy_3 h hh8 c171n c178n (by omega)) ?_
                refine lv_iadd hx hb dX1_isSame_203 ?_
                refine stI hF hX.2.1 h_x2 hS hA_x2 (k + 1) (by omega) (by omega) rfl dX1_isSame_204 (fun H locs h_x2 hz oq hS => ?_)
                have hX := hX0.up hS
                have hC := C0.upS hC0 hS
                have h_x1 := h_x1.k (oq _ n_x1_x2)
                have h_x3 := h_x3.k (oq _ n_x3_x2)
                have h_x4 := h_x4.k (oq _ n_x4_x2)
                refine lv_iinc (v := (nI (g0 + 1))) (lv' := [(17, .int (nI (g0 + 1))), (0, .ref sm), (1, .ref (q 0)), (2, .int (nI N)), (3, .ref x1), (4, .ref x2), (5, .int (nI h)), (6, .int (sumI (v 1) k)), (7, .int (ctB (fold1 v st) k)), (8, .int (ctB (rtP v) k)), (9, .int (lo99 (v 0) st k)), (10, .int (hi9 (v 0) st k)), (11, .int (sumI (fun i => nt (v 0) st (i + 1)) k)), (12, .int (fam v st mk k)), (13, .ref x3), (14, .int (nI k)), (15, .ref (a k)), (16, .ref x4)]) hx hb dX1_isSame_205 hl (k := 17) rfl (nI_1 _) (by decide) rfl (fun ls hl => ?_)
                refine lv_goto (tgt := 116) hx hb dX1_isSame_208 (by decide) ?_
                refine W.widen (k := 3 + 4 * k + 1) (n := 60 + 8 * k + 2) (by omega) (by omega) ?_
                exact ih2 (g0 + 1) ((upd g8.1 (k + 1) ((g8.1 (k + 1)) + (eaT h))), (upd g8.2 (k + 1) ((g8.2 (k + 1)) + (noT h)))) ls H locs (by omega) ⟨⟨by omega, (go_s ⟨hg.2.1, hg.2.2.2.1⟩).1, (go_s ⟨hg.2.2.1, hg.2.2.2.2⟩).1, (go_s ⟨hg.2.1, hg.2.2.2.1⟩).2, (go_s ⟨hg.2.2.1, hg.2.2.2.2⟩).2⟩, hX, hC, h_x1, h_x2, h_x3, h_x4, hS, by exact lv_sub hl [1, 2, 3, 4, 5, 6, 7, 8, 9, 10, 11, 12, 13, 14, 15, 16, 17, 0] rfl⟩
              · have c188n : ¬ h ≤ 2 := fun h9 => c188 ((nI_leI (a := h) (b := 2) (by omega) (by omega)).mpr h9)
                refine lv_iload hx hb dX1_isSame_191 (lv_at hl 5 rfl) ?_
                refine lv_bipush (v := 6) hx hb dX1_isSame_193 (by decide) ?_
                refine lv_icmp_ge (tgt := 202) hx hb dX1_isSame_195 (by decide) (fun c195 => ?_) (fun c195 => ?_)
                · have c195n : 6 ≤ h := (nI_leI (a := 6) (b := h) (by omega) (by omega)).mp c195
                  refine lv_iconst (v := 0) hx hb dX1_isSame_202 (by decide) ?_
                  refine topI (show 0 = noT h from dy_3 h hh8 c171n c178n (by omega)) ?_
                  refine lv_iadd hx hb dX1_isSame_203 ?_
                  refine stI hF hX.2.1 h_x2 hS hA_x2 (k + 1) (by omega) (by omega) rfl dX1_isSame_204 (fun H locs h_x2 hz oq hS => ?_)
                  have hX := hX0.up hS
                  have hC := C0.upS hC0 hS
                  have h_x1 := h_x1.k (oq _ n_x1_x2)
                  have h_x3 := h_x3.k (oq _ n_x3_x2)
                  have h_x4 := h_x4.k (oq _ n_x4_x2)
                  refine lv_iinc (v := (nI (g0 + 1))) (lv' := [(17, .int (nI (g0 + 1))), (0, .ref sm), (1, .ref (q 0)), (2, .int (nI N)), (3, .ref x1), (4, .ref x2), (5, .int (nI h)), (6, .int (sumI (v 1) k)), (7, .int (ctB (fold1 v st) k)), (8, .int (ctB (rtP v) k)), (9, .int (lo99 (v 0) st k)), (10, .int (hi9 (v 0) st k)), (11, .int (sumI (fun i => nt (v 0) st (i + 1)) k)), (12, .int (fam v st mk k)), (13, .ref x3), (14, .int (nI k)), (15, .ref (a k)), (16, .ref x4)]) hx hb dX1_isSame_205 hl (k := 17) rfl (nI_1 _) (by decide) rfl (fun ls hl => ?_)
                  refine lv_goto (tgt := 116) hx hb dX1_isSame_208 (by decide) ?_
                  refine W.widen (k := 3 + 4 * k + 1) (n := 60 + 8 * k + 2) (by omega) (by omega) ?_
                  exact ih2 (g0 + 1) ((upd g8.1 (k + 1) ((g8.1 (k + 1)) + (eaT h))), (upd g8.2 (k + 1) ((g8.2 (k + 1)) + (noT h)))) ls H locs (by omega) ⟨⟨by omega, (go_s ⟨hg.2.1, hg.2.2.2.1⟩).1, (go_s ⟨hg.2.2.1, hg.2.2.2.2⟩).1, (go_s ⟨hg.2.1, hg.2.2.2.1⟩).2, (go_s ⟨hg.2.2.1, hg.2.2.2.2⟩).2⟩, hX, hC, h_x1, h_x2, h_x3, h_x4, hS, by exact lv_sub hl [1, 2, 3, 4, 5, 6, 7, 8, 9, 10, 11, 12, 13, 14, 15, 16, 17, 0] rfl⟩
                · have c195n : ¬ 6 ≤ h := fun h9 => c195 ((nI_leI (a := 6) (b := h) (by omega) (by omega)).mpr h9)
                  refine lv_iconst (v := (-1)) hx hb dX1_isSame_198 (by decide) ?_
                  refine lv_goto (tgt := 203) hx hb dX1_isSame_199 (by decide) ?_
                  refine topI (show (-1) = noT h from dy_2 h hh8 c188n c195n) ?_
                  refine lv_iadd hx hb dX1_isSame_203 ?_
                  refine stI hF hX.2.1 h_x2 hS hA_x2 (k + 1) (by omega) (by omega) rfl dX1_isSame_204 (fun H locs h_x2 hz oq hS => ?_)
                  have hX := hX0.up hS
                  have hC := C0.upS hC0 hS
                  have h_x1 := h_x1.k (oq _ n_x1_x2)
                  have h_x3 := h_x3.k (oq _ n_x3_x2)
                  have h_x4 := h_x4.k (oq _ n_x4_x2)
                  refine lv_iinc (v := (nI (g0 + 1))) (lv' := [(17, .int (nI (g0 + 1))), (0, .ref sm), (1, .ref (q 0)), (2, .int (nI N)), (3, .ref x1), (4, .ref x2), (5, .int (nI h)), (6, .int (sumI (v 1) k)), (7, .int (ctB (fold1 v st) k)), (8, .int (ctB (rtP v) k)), (9, .int (lo99 (v 0) st k)), (10, .int (hi9 (v 0) st k)), (11, .int (sumI (fun i => nt (v 0) st (i + 1)) k)), (12, .int (fam v st mk k)), (13, .ref x3), (14, .int (nI k)), (15, .ref (a k)), (16, .ref x4)]) hx hb dX1_isSame_205 hl (k := 17) rfl (nI_1 _) (by decide) rfl (fun ls hl => ?_)
                  refine lv_goto (tgt := 116) hx hb dX1_isSame_208 (by decide) ?_
                  refine W.widen (k := 3 + 4 * k + 1) (n := 60 + 8 * k + 2) (by omega) (by omega) ?_
                  exact ih2 (g0 + 1) ((upd g8.1 (k + 1) ((g8.1 (k + 1)) + (eaT h))), (upd g8.2 (k + 1) ((g8.2 (k + 1)) + (noT h)))) ls H locs (by omega) ⟨⟨by omega, (go_s ⟨hg.2.1, hg.2.2.2.1⟩).1, (go_s ⟨hg.2.2.1, hg.2.2.2.2⟩).1, (go_s ⟨hg.2.1, hg.2.2.2.1⟩).2, (go_s ⟨hg.2.2.1, hg.2.2.2.2⟩).2⟩, hX, hC, h_x1, h_x2, h_x3, h_x4, hS, by exact lv_sub hl [1, 2, 3, 4, 5, 6, 7, 8, 9, 10, 11, 12, 13, 14, 15, 16, 17, 0] rfl⟩
            · have c178n : h = 7 := (nI_eq (a := h) (b := 7) (by omega) (by omega)).mp c178
              refine lv_iconst (v := 1) hx hb dX1_isSame_181 (by decide) ?_
              refine lv_goto (tgt := 203) hx hb dX1_isSame_182 (by decide) ?_
              refine topI (show 1 = noT h from dy_1 h hh8 (by omega)) ?_
              refine lv_iadd hx hb dX1_isSame_203 ?_
              refine stI hF hX.2.1 h_x2 hS hA_x2 (k + 1) (by omega) (by omega) rfl dX1_isSame_204 (fun H locs h_x2 hz oq hS => ?_)
              have hX := hX0.up hS
              have hC := C0.upS hC0 hS
              have h_x1 := h_x1.k (oq _ n_x1_x2)
              have h_x3 := h_x3.k (oq _ n_x3_x2)
              have h_x4 := h_x4.k (oq _ n_x4_x2)
              refine lv_iinc (v := (nI (g0 + 1))) (lv' := [(17, .int (nI (g0 + 1))), (0, .ref sm), (1, .ref (q 0)), (2, .int (nI N)), (3, .ref x1), (4, .ref x2), (5, .int (nI h)), (6, .int (sumI (v 1) k)), (7, .int (ctB (fold1 v st) k)), (8, .int (ctB (rtP v) k)), (9, .int (lo99 (v 0) st k)), (10, .int (hi9 (v 0) st k)), (11, .int (sumI (fun i => nt (v 0) st (i + 1)) k)), (12, .int (fam v st mk k)), (13, .ref x3), (14, .int (nI k)), (15, .ref (a k)), (16, .ref x4)]) hx hb dX1_isSame_205 hl (k := 17) rfl (nI_1 _) (by decide) rfl (fun ls hl => ?_)
              refine lv_goto (tgt := 116) hx hb dX1_isSame_208 (by decide) ?_
              refine W.widen (k := 3 + 4 * k + 1) (n := 60 + 8 * k + 2) (by omega) (by omega) ?_
              exact ih2 (g0 + 1) ((upd g8.1 (k + 1) ((g8.1 (k + 1)) + (eaT h))), (upd g8.2 (k + 1) ((g8.2 (k + 1)) + (noT h)))) ls H locs (by omega) ⟨⟨by omega, (go_s ⟨hg.2.1, hg.2.2.2.1⟩).1, (go_s ⟨hg.2.2.1, hg.2.2.2.2⟩).1, (go_s ⟨hg.2.1, hg.2.2.2.1⟩).2, (go_s ⟨hg.2.2.1, hg.2.2.2.2⟩).2⟩, hX, hC, h_x1, h_x2, h_x3, h_x4, hS, by exact lv_sub hl [1, 2, 3, 4, 5, 6, 7, 8, 9, 10, 11, 12, 13, 14, 15, 16, 17, 0] rfl⟩
end P33
