/-! THE SONG THAT CELLS CHOOSE -/
/-- the song that both sides hold at the start -/
def v00 : Nat → Nat → Int32 := fun i k => if i = 3 then nI k else 0
theorem cell_congr {cA : ClassId} {n : Nat} {f g : Nat → Int32} (h : ∀ k, k < n → f k = g k) : vp_cell cA (n, .inl f) = vp_cell cA (n, .inl g) := by
  rw [vp_cell_i, vp_cell_i]
  unfold arrV
  congr 1
  apply Array.ext
  · simp
  · intro i h1 h2
    simp only [Array.size_ofFn] at h1
    simp [h i h1]
theorem ok00 : Ok 0 2 v00 := ⟨Nat.zero_le _, ⟨1, by decide, by decide⟩, fun k => ⟨3, by decide, by show (0 : Int32) = nI 3 - 3; decide⟩, fun k => ⟨0, by decide, by show (0 : Int32) = nI 0; decide⟩⟩

theorem inv00 : Inv 0 2 v00 (fun _ => false) := ⟨ok00, fun k hk => absurd hk (Nat.not_lt_zero _), fun i hi => ⟨i, hi, by simp [v00]⟩, fun k hk => absurd hk (Nat.not_lt_zero _)⟩
theorem nI_3l (n : Nat) : 3 + nI n = nI (n + 3) := by rw [Int32.add_comm, show (3 : Int32) = nI 3 from rfl, nI_add]
theorem irem15 {k : Nat} (hk : k < 1000) : nI k - nI k / 15 * 15 = nI (k % 15) := by
  have h : (nI k - nI k / 15 * 15).toInt = (k : Int).tmod 15 := by
    rw [rem_toInt, nI_toInt (by omega)]
    rfl
  refine Int32.toInt_inj.mp ?_
  rw [h, nI_toInt (by omega), Int.tmod_eq_emod_of_nonneg (by omega)]
  omega
def NK (U : State) : Prop := va_Nw (.methodLinkNest RL 74 yX1_init "MapSongsLaw") U
theorem NK.wm : Wm (fun U _ => NK U) := fun u U _ al h => al.elim (fun e => va_Nw.same rfl e.symm h) (fun hW => va_Nw.warmM hW h)
def XB (D : va_G) (cyI cyZ cyA : ClassId) (q : Nat → Nat) (B t1 t2 sb L : Nat) (xs : Nat → Int32) : State → Heap → Prop := fun U H =>
  ((∃ w, C0 D cyI cyZ q (nI 0) 2 v00 (fun _ => false) w U H) ∧ KS D cyI cyA U) ∧ ((∀ z, own 10 q z → B ≤ z) ∧ B ≤ H.size ∧ sb < B ∧ sb < H.size ∧ L ≤ 260) ∧ ST t1 t2 (fun z => B ≤ z) U H ∧ TH (fun z => B ≤ z) U H ∧ va_X sb L xs U H ∧ NK U
theorem XB.wm {D : va_G} {cyI cyZ cyA : ClassId} {q : Nat → Nat} {B t1 t2 sb L : Nat} {xs : Nat → Int32} : Wm (XB D cyI cyZ cyA q B t1 t2 sb L xs) := by
  intro u U H al h
  obtain ⟨⟨⟨w, hC⟩, hK⟩, h2, h3, h4, h5, h6⟩ := h
  have hA : u.vm.Alike U.vm := al.elim (fun e => by rw [e]; exact Vm.Alike.refl _) (fun e => e.alike)
  exact ⟨⟨⟨w, C0.mv _ _ _ hA hC⟩, hK.moved hA⟩, h2, ST.mv _ _ _ hA h3, TH.wm u U H al h4, va_X.moved hA h5, NK.wm u U H al h6⟩
def YB (D : va_G) (cyI cyZ cyA : ClassId) (q : Nat → Nat) (B : Nat) (u z : Nat) : State → Heap → Prop := LW D cyI cyZ cyA q z u B
theorem YB.mv {D : va_G} {cyI cyZ cyA : ClassId} {q : Nat → Nat} {B u z : Nat} : Mv (YB D cyI cyZ cyA q B u z) := LW.mv

section P34
variable {l : Launch} {D : va_G} {cyI cyZ cyA : ClassId} {q : Nat → Nat} {sm wd lg n N : Nat} {a : Nat → Nat} {st : Int32} {wv : Nat → Int32} {r : Nat → Nat → Int32} {v w : Nat → Nat → Int32} {mk : Nat → Bool}
variable {t1 t2 B sb L : Nat} {xs : Nat → Int32}
set_option maxHeartbeats 8000000 in
set_option maxRecDepth 100000 in
theorem mL_build (hsT : l.stackTraces = false) : Met l yL_build (wm yL_build cL_build 5 (some (.object "MapSongsLaw$Sim"))) ({ frames := 8, cells := 90, slots := 700, locals := 158 } : Room) (va_Pc [.ref (q 0), .ref sb] (fun U => XB D cyI cyZ cyA q B t1 t2 sb L xs U U.heap)) (va_Qr (fun (_ : Nat) => True) (fun u z U => YB D cyI cyZ cyA q B u z U U.heap) (fun z => B ≤ z)) 90 700 (fun z => B ≤ z) := by
  refine mt (by decide) (Nat.le_of_ble_eq_true rfl) ?_
  intro p ev s m below meth c ls hF hr hlocks hnm hX hl
  have hF : CallFix p m c cL_build 5 s _ wA RL := hF
  obtain ⟨hx, hb, hml, hown, hts⟩ := id hF
  obtain ⟨⟨⟨w, hC⟩, hK⟩, ⟨hap1, hB, hsb, hsbl, hL⟩, hZ0, hTH, hXs, hNK⟩ := hX
  have hl : lv_has ls 5 [(0, .ref (q 0)), (1, .ref sb)] := hl
  have hS : va_S (fun z => B ≤ z) s.heap s.heap [] := va_S.rf
  refine newS hF hK hS kc_RL_10 (by show _ ≤ 90; omega) (by show _ ≤ 700; omega) dL_build_0 (fun x1 H hq h_x1 hz ho hS1 => ?_)
  have nC_x1 : ∀ z : Nat, own 10 q z → z ≠ x1 := fun z h9 => by rw [hq]; exact Nat.ne_of_lt (C0.lt hC h9)
  have hA_x1 : s.heap.size ≤ x1 := by rw [hq]; exact hS.1
  have hS := hS1
  have hC := hC.upK ho
  refine lv_dup hx hb dL_build_3 rfl ?_
  have hAx : B ≤ x1 := Nat.le_trans hB hA_x1
  have hsz1 := hS.1
  have hlC := fun (z : Nat) (h9 : own 10 q z) => C0.lt hC h9
  refine wIvN (mc := 2) (ms := 10) (b := x1) (As := []) (rest := [.ref x1]) hF (mX1_init (D := D) (cyI := cyI) (cyA := cyA) (h0 := x1) (sz := _)) XIni.mv (fun _ => S0.mv) ⟨h_x1, hK, rfl⟩ cjX1_init hNK ⟨rfl, rfl⟩ ⟨Nat.le_of_ble_eq_true rfl, Nat.le_of_ble_eq_true rfl⟩ rfl hl.1 rfl (Nat.le_of_ble_eq_true rfl) ⟨by show _ + 2 ≤ 90; omega, by show _ + 10 ≤ 700; omega⟩ hS (fun q _ h => h.elim (fun e => by rw [e]; exact hAx) (fun h => Nat.le_trans (Nat.le_trans hB hS.1) h)) (fun q h => h.elim (fun e => by rw [e]; exact hAx) (fun h => Nat.le_trans (Nat.le_trans hB hS.1) h)) dL_build_4 (fun u9 H locs hp9 hN hz hk hS => ?_)
  obtain ⟨wd2, lg2⟩ := u9
  have hN : S0 D cyI cyA x1 wd2 lg2 (fun _ => 0) 0 2 nI (fun _ _ => 0) s H := hN
  have hwd2 : B ≤ wd2 := Nat.le_trans (Nat.le_trans hB hsz1) hp9.1
  have hlg2 : B ≤ lg2 := Nat.le_trans (Nat.le_trans hB hsz1) hp9.2
  have hC := C0.kept hC (fun z h9 => hk z (hlC z h9) (fun h8 => h8.elim (nC_x1 z h9) (fun h7 => absurd (hlC z h9) (Nat.not_lt.mpr h7))))
  have hW : LW D cyI cyZ cyA q x1 wd2 B s H := by
    refine ⟨0, 2, v00, fun _ => false, w, lg2, fun _ => 0, ⟨hC, hN.cg (fun k hk => by simp [v00]) (fun k hk => absurd hk (Nat.not_lt_zero _))⟩, ⟨inv00, der_0⟩, hap1, fun z h9 => ?_, fun z h8 h9 => ?_⟩
    · rcases h9 with e | e | e | ⟨k9, hk9, _⟩
      · rw [e]; exact hAx
      · rw [e]; exact hwd2
      · rw [e]; exact hlg2
      · exact absurd hk9 (Nat.not_lt_zero _)
    · rcases h9 with e | e | e | ⟨k9, hk9, _⟩
      · exact nC_x1 z h8 e
      · exact absurd (hlC z h8) (Nat.not_lt.mpr (by rw [e]; exact hp9.1))
      · exact absurd (hlC z h8) (Nat.not_lt.mpr (by rw [e]; exact hp9.2))
      · exact absurd hk9 (Nat.not_lt_zero _)
  refine lv_astore_n (lv' := [(2, .ref x1), (0, .ref (q 0)), (1, .ref sb)]) hx hb dL_build_7 rfl hl (by decide) rfl (fun ls hl => ?_)
  refine lv_iconst (v := 3) hx hb dL_build_8 (by decide) ?_
  refine lv_aload_n hx hb dL_build_9 rfl (lv_at hl 2 rfl) ?_
  refine lv_iconst (v := (nI 0)) hx hb dL_build_10 (by decide) ?_
  have hSr : XSr sb L xs s H := ⟨va_X.kept hXs (hS.2.1 sb hsbl (Nat.not_le.mpr hsb)), Nat.lt_of_lt_of_le hsbl hS.1⟩
  refine cSi (As := [.ref sb, .int (nI 0)]) (rest := [.int 3]) hF (mL_cell 0 (by omega) hL) XSr.mv hSr jyL_cell kl_RL_75 ⟨rfl, rfl⟩ ⟨Nat.le_of_ble_eq_true rfl, Nat.le_of_ble_eq_true rfl⟩ rfl hl.1 rfl (Nat.le_of_ble_eq_true rfl) ⟨(by show _ ≤ 90; omega), (by show _ ≤ 700; omega)⟩ dL_build_11 (fun r9 hr9 => ?_)
  refine lv_bipush (v := (nI 26)) hx hb dL_build_14 (by decide) ?_
  refine cSi (As := [.int r9, .int (nI 26)]) (rest := [.int 3]) hF (mL_below r9 26 (by omega) (by omega)) Mv.const trivial jyL_below kl_RL_15 ⟨rfl, rfl⟩ ⟨Nat.le_of_ble_eq_true rfl, Nat.le_of_ble_eq_true rfl⟩ rfl hl.1 rfl (Nat.le_of_ble_eq_true rfl) ⟨(by show _ ≤ 90; omega), (by show _ ≤ 700; omega)⟩ dL_build_16 (fun r9 hr9 => ?_)
  obtain ⟨c3, hc3_, hr9⟩ := hr9
  subst hr9
  refine lv_iadd hx hb dL_build_19 ?_
  refine topI (show (3 + (nI c3)) = nI (c3 + 3) from nI_3l c3) ?_
  refine lv_istore_n (lv' := [(3, .int (nI (c3 + 3))), (2, .ref x1), (0, .ref (q 0)), (1, .ref sb)]) hx hb dL_build_20 rfl hl (by decide) rfl (fun ls hl => ?_)
  refine lv_iconst (v := 0) hx hb dL_build_21 (by decide) ?_
  refine lv_istore (lv' := [(4, .int 0), (3, .int (nI (c3 + 3))), (2, .ref x1), (0, .ref (q 0)), (1, .ref sb)]) hx hb dL_build_22 hl (by decide) rfl (fun ls hl => ?_)
  refine W.widen (k := 3 + 3 * 0) (n := 13 + 24 * 0) (by omega) (by omega) ?_
  refine lpC (σ := Nat) (τ := Unit) (fun k u8 ls H locs => (k ≤ c3 + 3) ∧ (LW D cyI cyZ cyA q x1 wd2 B s H) ∧ va_S (fun z => B ≤ z) s.heap H locs ∧ lv_has ls 5 [(0, .ref (q 0)), (1, .ref sb), (2, .ref x1), (3, .int (nI (c3 + 3))), (4, .int (nI k))]) (fun k u8 => c3 + 3 - k) (fun k => 3 + 3 * k) (fun k => 13 + 24 * k) (fun k u8 ls H locs hI ih => ?_) (0) () ⟨Nat.zero_le _, hW, hS, lv_sub hl [3, 4, 2, 1, 0] rfl⟩
  obtain ⟨hj, hW, hS, hl⟩ := hI
  refine lv_iload hx hb dL_build_24 (lv_at hl 4 rfl) ?_
  refine lv_iload_n hx hb dL_build_26 rfl (lv_at hl 3 rfl) ?_
  refine lv_icmp_ge (tgt := 71) hx hb dL_build_27 (by decide) (fun c27 => ?_) (fun c27 => ?_)
  · have c27n : (c3 + 3) ≤ k := (nI_leI (a := (c3 + 3)) (b := k) (by omega) (by omega)).mp c27
    refine lv_aload_n hx hb dL_build_71 rfl (lv_at hl 2 rfl) ?_
    refine W.widen (k := 90) (n := 700) (by omega) (by omega) ?_
    exact W.aret hx hb hr (Or.inl ⟨_, rfl⟩) (Or.inr ⟨_, rfl⟩) (fun t ht hW9 => ⟨⟨wd2, x1, rfl, trivial, wEnd YB.mv hW ht hW9⟩, hS.F ht⟩) hS.2.2 dL_build_72
  · have c27n : ¬ (c3 + 3) ≤ k := fun h9 => c27 ((nI_leI (a := (c3 + 3)) (b := k) (by omega) (by omega)).mpr h9)
    refine lv_aload_n hx hb dL_build_30 rfl (lv_at hl 0 rfl) ?_
    refine lv_aload_n hx hb dL_build_31 rfl (lv_at hl 2 rfl) ?_
    refine lv_aload_n hx hb dL_build_32 rfl (lv_at hl 1 rfl) ?_
    refine lv_iconst (v := 1) hx hb dL_build_33 (by decide) ?_
    refine lv_iload hx hb dL_build_34 (lv_at hl 4 rfl) ?_
    refine lv_bipush (v := 15) hx hb dL_build_36 (by decide) ?_
    refine lv_irem hx hb dL_build_38 (by decide) ?_
    refine topI (show ((nI k) - (nI k) / 15 * 15) = nI (k % 15) from irem15 (by omega)) ?_
    refine lv_iadd hx hb dL_build_39 ?_
    refine topI (show (1 + (nI (k % 15))) = nI (k % 15 + 1) from nI_1l _) ?_
    have hSr : XSr sb L xs s H := ⟨va_X.kept hXs (hS.2.1 sb hsbl (Nat.not_le.mpr hsb)), Nat.lt_of_lt_of_le hsbl hS.1⟩
    refine cSi (As := [.ref sb, .int (nI (k % 15 + 1))]) (rest := [.ref x1, .ref (q 0)]) hF (mL_cell (k % 15 + 1) (by omega) hL) XSr.mv hSr jyL_cell kl_RL_75 ⟨rfl, rfl⟩ ⟨Nat.le_of_ble_eq_true rfl, Nat.le_of_ble_eq_true rfl⟩ rfl hl.1 rfl (Nat.le_of_ble_eq_true rfl) ⟨(by show _ ≤ 90; omega), (by show _ ≤ 700; omega)⟩ dL_build_40 (fun r9 hr9 => ?_)
    refine lv_iload hx hb dL_build_43 (lv_at hl 4 rfl) ?_
    refine lv_bipush (v := 15) hx hb dL_build_45 (by decide) ?_
    refine lv_idiv hx hb dL_build_47 (by decide) ?_
    refine lv_iconst (v := 3) hx hb dL_build_48 (by decide) ?_
    refine lv_imul hx hb dL_build_49 ?_
    refine lv_ishr hx hb dL_build_50 ?_
    refine lv_bipush (v := 41) hx hb dL_build_51 (by decide) ?_
    refine lv_iload hx hb dL_build_53 (lv_at hl 4 rfl) ?_
    refine lv_imul hx hb dL_build_55 ?_
    refine lv_iadd hx hb dL_build_56 ?_
    refine wSWi (mc := 3) (ms := 24) (As := [.ref (q 0), .ref x1, .int ((r9 >>> ((((nI k) / 15) * 3) &&& 31)) + (41 * (nI k)))]) (rest := []) hF (mL_act (D := D) (cyI := cyI) (cyZ := cyZ) (cyA := cyA) (q := q) (B := B) (t1 := t1) (t2 := t2) hsT ((r9 >>> ((((nI k) / 15) * 3) &&& 31)) + (41 * (nI k)))) XA.wm (fun _ => LW.mv) ⟨hW, ST.kept hZ0 hS.2.1, TH.kept hTH hS.2.1, Nat.le_trans hB hS.1⟩ jyL_act kl_RL_79 ⟨rfl, rfl⟩ ⟨Nat.le_of_ble_eq_true rfl, Nat.le_of_ble_eq_true rfl⟩ rfl hl.1 rfl (Nat.le_of_ble_eq_true rfl) ⟨by show _ + 3 ≤ 90; omega, by show _ + 24 ≤ 700; omega⟩ hS (fun _ _ h => h) (fun _ h => h) dL_build_57 (fun r9 u9 H locs hp9 hW hz hk hS => ?_)
    subst hp9
    refine lv_if_ne (tgt := 65) hx hb dL_build_60 (by decide) (fun c60 => ?_) (fun c60 => ?_)
    · refine lv_iinc (v := (nI (k + 1))) (lv' := [(4, .int (nI (k + 1))), (0, .ref (q 0)), (1, .ref sb), (2, .ref x1), (3, .int (nI (c3 + 3)))]) hx hb dL_build_65 hl (k := 4) rfl (nI_1 _) (by decide) rfl (fun ls hl => ?_)
      refine lv_goto (tgt := 24) hx hb dL_build_68 (by decide) ?_
      refine W.widen (k := 3 + 3 * (k + 1)) (n := 13 + 24 * (k + 1)) (by omega) (by omega) ?_
      exact ih (k + 1) () ls H locs (by omega) ⟨by omega, hW, hS, by exact lv_sub hl [1, 2, 3, 4, 0] rfl⟩
    · exact absurd c60 (by decide)
end P34
