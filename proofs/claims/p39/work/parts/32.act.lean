section ACT
variable {sm wd lg n x z M B : Nat} {a : Nat → Nat} {O : Nat → Prop}
theorem sown_gr {q : Nat} (h : sown sm wd z (va_up a n x) (n + 1) q) : sown sm wd lg a n q ∨ q = x ∨ q = z := by
  rcases h with e | e | e | ⟨k, hk, e⟩
  · exact Or.inl (Or.inl e)
  · exact Or.inl (Or.inr (Or.inl e))
  · exact Or.inr (Or.inr e)
  · by_cases hkn : k = n
    · subst hkn
      rw [up_n] at e
      exact Or.inr (Or.inl e)
    · rw [up_lt _ _ (by omega)] at e
      exact Or.inl (Or.inr (Or.inr (Or.inr ⟨k, by omega, e⟩)))
theorem sown_st {q : Nat} (h : sown sm wd z a M q) : sown sm wd lg a (M + 1) q ∨ q = z := by
  rcases h with e | e | e | ⟨k, hk, e⟩
  · exact Or.inl (Or.inl e)
  · exact Or.inl (Or.inr (Or.inl e))
  · exact Or.inr e
  · exact Or.inl (Or.inr (Or.inr (Or.inr ⟨k, by omega, e⟩)))
theorem apG (h : ∀ q, sown sm wd lg a n q → B ≤ q) (hx : B ≤ x) (hz : B ≤ z) : ∀ q, sown sm wd z (va_up a n x) (n + 1) q → B ≤ q := fun q h9 => by
  rcases sown_gr (lg := lg) h9 with e | e | e
  · exact h q e
  · rw [e]; exact hx
  · rw [e]; exact hz
theorem disG (h : ∀ q, O q → ¬ sown sm wd lg a n q) (hx : ∀ q, O q → q ≠ x) (hz : ∀ q, O q → q ≠ z) : ∀ q, O q → ¬ sown sm wd z (va_up a n x) (n + 1) q := fun q h1 h9 => by
  rcases sown_gr (lg := lg) h9 with e | e | e
  · exact h q h1 e
  · exact hx q h1 e
  · exact hz q h1 e
theorem apS (h : ∀ q, sown sm wd lg a (M + 1) q → B ≤ q) (hz : B ≤ z) : ∀ q, sown sm wd z a M q → B ≤ q := fun q h9 => by
  rcases sown_st (lg := lg) h9 with e | e
  · exact h q e
  · rw [e]; exact hz
theorem disS (h : ∀ q, O q → ¬ sown sm wd lg a (M + 1) q) (hz : ∀ q, O q → q ≠ z) : ∀ q, O q → ¬ sown sm wd z a M q := fun q h1 h9 => by
  rcases sown_st (lg := lg) h9 with e | e
  · exact h q h1 e
  · exact hz q h1 e
theorem lw_tab {c : Nat} (h : c < 12) : (4 ≤ c ∧ c ≤ 9 ∧ (c = 4 ∨ c = 5 ∨ c = 6 ∨ c = 7 ∨ c = 8 ∨ c = 9)) ∨ ((nI c).toInt < 4 ∨ 9 < (nI c).toInt) := by
  rw [nI_toInt (by omega)]
  omega
end ACT
section ACR
variable {N k e j x y : Nat} {st : Int32} {v : Nat → Nat → Int32} {mk : Nat → Bool}
theorem ra_T (t ln m : Int32) : ∀ k : Nat, k < N + 1 → va_up (rowV v st mk) N (six t ln m 0 0 0) k 0 = addV v N t ln m 0 k := by
  intro k hk
  by_cases hkN : k = N
  · subst hkN
    rw [addV_0]; simp [va_up, six]
  · rw [addV_lt _ _ _ (by omega)]
    simp [va_up, hkN]; rfl
theorem ra_row (h : Ok (N + 1) st (addV v N (nI e - 3) (nI (x + 1)) (nI j))) : ∀ k : Nat, k < N + 1 → ∀ i : Nat, i < 6 → sgR (addV v N (nI e - 3) (nI (x + 1)) (nI j) 0) st false (va_up (rowV v st mk) N (six (nI e - 3) (nI (x + 1)) (nI j) 0 0 0)) k i = rowV (addV v N (nI e - 3) (nI (x + 1)) (nI j)) st (va_up mk N false) k i := by
  intro k hk
  refine sg_row h (fun i hi => ?_) (Or.inr ⟨rfl, ?_⟩)
  · by_cases hkN : k = N
    · subst hkN
      match i, hi with
      | 0, _ => rw [addV_0]; simp [va_up, six]
      | 1, _ => rw [addV_1]; simp [va_up, six]
      | 2, _ => rw [addV_2]; simp [va_up, six]
    · rw [addV_lt _ _ _ (by omega)]
      match i, hi with
      | 0, _ => simp [va_up, hkN]; rfl
      | 1, _ => simp [va_up, hkN]; rfl
      | 2, _ => simp [va_up, hkN]; rfl
  · by_cases hkN : k = N
    · subst hkN
      simp [va_up, six, b2i]
    · simp [va_up, hkN]; rfl
theorem rb_row (h : Ok N st (va_up v 0 (upd (v 0) k (nI e - 3)))) : ∀ i : Nat, i < N → ∀ b : Nat, b < 6 → sgR (va_up v 0 (upd (v 0) k (nI e - 3)) 0) st true (va_up (rowV v st mk) k (upd (rowV v st mk k) 0 (nI e - 3))) i b = rowV (va_up v 0 (upd (v 0) k (nI e - 3))) st (fun _ => false) i b := by
  intro i hi
  refine sg_row h (fun b hb => ?_) (Or.inl ⟨rfl, rfl⟩)
  by_cases hik : i = k
  · subst hik
    match b, hb with
    | 0, _ => simp [va_up, upd]
    | 1, _ => simp [va_up, upd]; rfl
    | 2, _ => simp [va_up, upd]; rfl
  · match b, hb with
    | 0, _ => simp [va_up, upd, hik]; rfl
    | 1, _ => simp [va_up, upd, hik]; rfl
    | 2, _ => simp [va_up, upd, hik]; rfl
theorem rb_T : ∀ i : Nat, i < N → va_up (rowV v st mk) k (upd (rowV v st mk k) 0 (nI e - 3)) i 0 = (va_up v 0 (upd (v 0) k (nI e - 3))) 0 i := by
  intro i hi
  by_cases hik : i = k
  · subst hik; simp [va_up, upd]
  · simp [va_up, upd, hik]; rfl
theorem rw_row {v2 : Nat → Nat → Int32} {st2 : Int32} (h : Ok N st2 v2) (h0 : ∀ k : Nat, k < N → ∀ i : Nat, i < 3 → v2 i k = v i k) : ∀ k : Nat, k < N → ∀ i : Nat, i < 6 → sgR (v2 0) st2 true (rowV v st mk) k i = rowV v2 st2 (fun _ => false) k i := by
  intro k hk
  refine sg_row h (fun i hi => ?_) (Or.inl ⟨rfl, rfl⟩)
  rw [h0 k hk i hi]
  match i, hi with
  | 0, _ => rfl
  | 1, _ => rfl
  | 2, _ => rfl
theorem rm_row : ∀ i : Nat, i < N → ∀ b : Nat, b < 6 → va_up (rowV v st mk) k (upd (rowV v st mk k) 5 1) i b = rowV v st (va_up mk k true) i b := by
  intro i hi b hb
  by_cases hik : i = k
  · subst hik
    match b, hb with
    | 0, _ => simp [va_up, upd]; rfl
    | 1, _ => simp [va_up, upd]; rfl
    | 2, _ => simp [va_up, upd]; rfl
    | 3, _ => simp [va_up, upd]; rfl
    | 4, _ => simp [va_up, upd]; rfl
    | 5, _ => simp [va_up, upd, rowV, b2i]
  · match b, hb with
    | 0, _ => simp [va_up, hik]; rfl
    | 1, _ => simp [va_up, hik]; rfl
    | 2, _ => simp [va_up, hik]; rfl
    | 3, _ => simp [va_up, hik]; rfl
    | 4, _ => simp [va_up, hik]; rfl
    | 5, _ => simp [va_up, hik, rowV]
end ACR

theorem jyL_act : SMW yL_act cL_act 8 (some .boolean) [(422, 449, 450, 72)] 3 := ⟨⟨ks_yL_act, kn_RL, kd_yL_act⟩, by decide +kernel⟩
section P32
variable {l : Launch} {D : va_G} {cyI cyZ cyA : ClassId} {q : Nat → Nat} {sm wd lg n N : Nat} {a : Nat → Nat} {st : Int32} {wv : Nat → Int32} {r : Nat → Nat → Int32} {v w : Nat → Nat → Int32} {mk : Nat → Bool}
variable {t1 t2 B sb L : Nat} {xs : Nat → Int32}
set_option maxHeartbeats 4000000 in
set_option maxRecDepth 100000 in
theorem mL_below (z : Int32) (n : Nat) (h0 : 0 < n) (h1 : n ≤ 1000) : Met l yL_below (wm yL_below cL_below 2 (some .int)) ({ frames := 0, cells := 0, slots := 0, locals := 0 } : Room) (va_Pc [.int z, .int (nI n)] (fun U => (fun _ _ => True : State → Heap → Prop) U U.heap)) (vp_Si (fun r9 => ∃ i : Nat, i < n ∧ r9 = nI i)) 0 0 (fun _ => False) := by
  refine mt (by decide) (Nat.le_of_ble_eq_true rfl) ?_
  intro p ev s m below meth c ls hF hr hlocks hnm hX hl
  have hF : CallFix p m c cL_below 2 s _ wA RL := hF
  obtain ⟨hx, hb, hml, hown, hts⟩ := id hF
  have hl : lv_has ls 2 [(0, .int z), (1, .int (nI n))] := hl
  refine lv_iload_n hx hb dL_below_0 rfl (lv_at hl 0 rfl) ?_
  refine lv_ldc hx hb hown (hts _ kk_RL_7) dL_below_1 ?_
  refine lv_iand hx hb dL_below_3 ?_
  refine lv_iload_n hx hb dL_below_4 rfl (lv_at hl 1 rfl) ?_
  refine lv_irem hx hb dL_below_5 (nI_ne0 h0 (by omega)) ?_
  exact W.iret hx hb hr (fun t ht hW => ⟨_, rfl, bel h0 h1 z, ht⟩) (fun q hq => absurd hq List.not_mem_nil) dL_below_6
def XSr (sb L : Nat) (xs : Nat → Int32) : State → Heap → Prop := fun U H => va_X sb L xs U H ∧ sb < H.size
theorem XSr.mv : Mv (XSr sb L xs) := fun _ _ _ al h => ⟨va_X.moved al h.1, h.2⟩
set_option maxHeartbeats 4000000 in
set_option maxRecDepth 100000 in
theorem mL_cell (k : Nat) (hk : k < 1000) (hL : L ≤ 260) : Met l yL_cell (wm yL_cell cL_cell 2 (some .int)) ({ frames := 0, cells := 0, slots := 0, locals := 0 } : Room) (va_Pc [.ref sb, .int (nI k)] (fun U => XSr sb L xs U U.heap)) (vp_Si (fun _ => True)) 0 0 (fun _ => False) := by
  refine mt (by decide) (Nat.le_of_ble_eq_true rfl) ?_
  intro p ev s m below meth c ls hF hr hlocks hnm hX hl
  have hF : CallFix p m c cL_cell 2 s _ wA RL := hF
  obtain ⟨hx, hb, hml, hown, hts⟩ := id hF
  have hX : XSr sb L xs s s.heap := hX
  have hS : va_S (fun _ => False) s.heap s.heap [] := va_S.rf
  have hl : lv_has ls 2 [(0, .ref sb), (1, .int (nI k))] := hl
  refine lv_iload_n hx hb dL_cell_0 rfl (lv_at hl 1 rfl) ?_
  refine lv_aload_n hx hb dL_cell_1 rfl (lv_at hl 0 rfl) ?_
  refine va_slen hx hb hX.1 hX.2 (fun h => h) hS dL_cell_2 ?_
  refine topI (show Int32.ofNat L = nI L from rfl) ?_
  refine lv_icmp_ge (tgt := 12) hx hb dL_cell_3 (by decide) (fun c3 => ?_) (fun c3 => ?_)
  · have c3n : L ≤ k := (nI_leI (a := L) (b := k) (by omega) (by omega)).mp c3
    refine lv_ldc hx hb hown (hts _ kk_RL_8) dL_cell_12 ?_
    refine lv_iload_n hx hb dL_cell_14 rfl (lv_at hl 1 rfl) ?_
    refine lv_iconst (v := 3) hx hb dL_cell_15 (by decide) ?_
    refine lv_iadd hx hb dL_cell_16 ?_
    refine lv_imul hx hb dL_cell_17 ?_
    exact W.iret hx hb hr (fun t ht hW => ⟨_, rfl, trivial, ht⟩) (fun q hq => absurd hq List.not_mem_nil) dL_cell_18
  · have c3n : ¬ L ≤ k := fun h9 => c3 ((nI_leI (a := L) (b := k) (by omega) (by omega)).mpr h9)
    have c3n : k < L := by omega
    refine lv_aload_n hx hb dL_cell_6 rfl (lv_at hl 0 rfl) ?_
    refine lv_iload_n hx hb dL_cell_7 rfl (lv_at hl 1 rfl) ?_
    refine va_sld hx hb hX.1 hX.2 (fun h => h) hS (vp_in_nI c3n (by omega)) dL_cell_8 ?_
    refine lv_goto (tgt := 18) hx hb dL_cell_9 (by decide) ?_
    exact W.iret hx hb hr (fun t ht hW => ⟨_, rfl, trivial, ht⟩) (fun q hq => absurd hq List.not_mem_nil) dL_cell_18
set_option maxHeartbeats 16000000 in
set_option maxRecDepth 100000 in
theorem mL_act (hsT : l.stackTraces = false) (x : Int32) : Met l yL_act (wmW yL_act cL_act 8 (some .boolean) [(422, 449, 450, 72)]) ({ frames := 7, cells := 3, slots := 24, locals := 131 } : Room) (va_Pc [.ref (q 0), .ref sm, .int x] (fun U => XA D cyI cyZ cyA q sm wd B t1 t2 U U.heap)) (va_Qi (fun r9 (_ : Unit) => r9 = 1) (fun u U => (fun (_ : Unit) => LW D cyI cyZ cyA q sm wd B) u U U.heap) (fun z => B ≤ z)) 3 24 (fun z => B ≤ z) := by
  refine mtW (by decide) (Nat.le_of_ble_eq_true rfl) ?_
  intro p ev s m below meth c ls hF hr hlocks htab hX hl
  have hF : CallFix p m c cL_act 8 s _ wA RL := hF
  obtain ⟨hx, hb, hml, hown, hts⟩ := id hF
  obtain ⟨⟨N, st, v, mk, w, lg, a, ⟨hC, hX⟩, ⟨hinv, hde⟩, hap1, hap2, hdis⟩, hZ0, hTH, hB⟩ := hX
  have hl : lv_has ls 8 [(0, .ref (q 0)), (1, .ref sm), (2, .int x)] := hl
  have hS : va_S (fun z => B ≤ z) s.heap s.heap [] := va_S.rf
  have hn16 : N ≤ 16 := hinv.1.1
  refine lv_aload_n hx hb dL_act_0 rfl (lv_at hl 1 rfl) ?_
  refine S0.gL hF hX kf_RL_9 dL_act_1 ?_
  refine S0.len hF hX dL_act_4 ?_
  refine lv_istore_n (lv' := [(3, .int (nI N)), (0, .ref (q 0)), (1, .ref sm), (2, .int x)]) hx hb dL_act_5 rfl hl (by decide) rfl (fun ls hl => ?_)
  refine lv_iload_n hx hb dL_act_6 rfl (lv_at hl 0 rfl) ?_
  refine lv_if_ne (tgt := 14) hx hb dL_act_7 (by decide) (fun c7 => ?_) (fun c7 => ?_)
  · have c7n : ¬ N = 0 := fun h9 => c7 ((nI_eq (a := N) (b := 0) (by omega) (by omega)).mpr h9)
    refine lv_iload_n hx hb dL_act_14 rfl (lv_at hl 3 rfl) ?_
    refine lv_iconst (v := 3) hx hb dL_act_15 (by decide) ?_
    refine lv_ishr hx hb dL_act_16 ?_
    refine lv_iload_n hx hb dL_act_17 rfl (lv_at hl 0 rfl) ?_
    refine cSi (As := [.int (x >>> (3 &&& 31)), .int (nI N)]) (rest := []) hF (mL_below (x >>> (3 &&& 31)) N (by omega) (by omega)) Mv.const trivial jyL_below kl_RL_15 ⟨rfl, rfl⟩ ⟨Nat.le_of_ble_eq_true rfl, Nat.le_of_ble_eq_true rfl⟩ rfl hl.1 rfl (Nat.le_of_ble_eq_true rfl) ⟨(by show _ ≤ 3; omega), (by show _ ≤ 24; omega)⟩ dL_act_18 (fun r9 hr9 => ?_)
    obtain ⟨k, hk_, hr9⟩ := hr9
    subst hr9
    refine lv_istore (lv' := [(4, .int (nI k)), (3, .int (nI N)), (0, .ref (q 0)), (1, .ref sm), (2, .int x)]) hx hb dL_act_21 hl (by decide) rfl (fun ls hl => ?_)
    refine lv_iload_n hx hb dL_act_23 rfl (lv_at hl 1 rfl) ?_
    refine lv_if_eq (tgt := 37) hx hb dL_act_24 (by decide) (fun c24 => ?_) (fun c24 => ?_)
    · have c24n : N = 0 := (nI_eq (a := N) (b := 0) (by omega) (by omega)).mp c24
      exact absurd c24n c7n
    · have c24n : ¬ N = 0 := fun h9 => c24 ((nI_eq (a := N) (b := 0) (by omega) (by omega)).mpr h9)
      refine lv_iload_n hx hb dL_act_27 rfl (lv_at hl 4 rfl) ?_
      refine lv_bipush (v := (nI 12)) hx hb dL_act_28 (by decide) ?_
      refine cSi (As := [.int x, .int (nI 12)]) (rest := []) hF (mL_below x 12 (by omega) (by omega)) Mv.const trivial jyL_below kl_RL_15 ⟨rfl, rfl⟩ ⟨Nat.le_of_ble_eq_true rfl, Nat.le_of_ble_eq_true rfl⟩ rfl hl.1 rfl (Nat.le_of_ble_eq_true rfl) ⟨(by show _ ≤ 3; omega), (by show _ ≤ 24; omega)⟩ dL_act_30 (fun r9 hr9 => ?_)
      obtain ⟨c5, hc5_, hr9⟩ := hr9
      subst hr9
      refine lv_iconst (v := (nI 4)) hx hb dL_act_33 (by decide) ?_
      refine lv_icmp_ge (tgt := 145) hx hb dL_act_34 (by decide) (fun c34 => ?_) (fun c34 => ?_)
      · have c34n : 4 ≤ c5 := (nI_leI (a := 4) (b := c5) (by omega) (by omega)).mp c34
        refine lv_aload_n hx hb dL_act_145 rfl (lv_at hl 3 rfl) ?_
        refine S0.gL hF hX kf_RL_9 dL_act_146 ?_
        refine lv_iload hx hb dL_act_149 (lv_at hl 0 rfl) ?_
        refine S0.ldA hF hX k (by omega) rfl dL_act_151 ?_
        refine lv_astore (lv' := [(5, .ref (a k)), (4, .int (nI k)), (3, .int (nI N)), (0, .ref (q 0)), (1, .ref sm), (2, .int x)]) hx hb dL_act_152 hl (by decide) rfl (fun ls hl => ?_)
        refine lv_iload_n hx hb dL_act_154 rfl (lv_at hl 5 rfl) ?_
        refine lv_bipush (v := (nI 12)) hx hb dL_act_155 (by decide) ?_
        refine cSi (As := [.int x, .int (nI 12)]) (rest := []) hF (mL_below x 12 (by omega) (by omega)) Mv.const trivial jyL_below kl_RL_15 ⟨rfl, rfl⟩ ⟨Nat.le_of_ble_eq_true rfl, Nat.le_of_ble_eq_true rfl⟩ rfl hl.1 rfl (Nat.le_of_ble_eq_true rfl) ⟨(by show _ ≤ 3; omega), (by show _ ≤ 24; omega)⟩ dL_act_157 (fun r9 hr9 => ?_)
        obtain ⟨c6, hc6_, hr9⟩ := hr9
        subst hr9
        rcases lw_tab hc6_ with ⟨-, -, h9⟩ | h9
        · rcases h9 with h9 | h9 | h9 | h9 | h9 | h9
          · rw [h9]
            refine lv_tableIn (off := 40) (tgt := 200) hx hb dL_act_160 (by decide) (by decide) (by decide) (by decide) ?_
            refine lv_iload_n hx hb dL_act_200 rfl (lv_at hl 5 rfl) ?_
            refine lv_bipush (v := 6) hx hb dL_act_201 (by decide) ?_
            refine lv_ishr hx hb dL_act_203 ?_
            refine lv_iconst (v := (nI 3)) hx hb dL_act_204 (by decide) ?_
            refine cSi (As := [.int (x >>> (6 &&& 31)), .int (nI 3)]) (rest := []) hF (mL_below (x >>> (6 &&& 31)) 3 (by omega) (by omega)) Mv.const trivial jyL_below kl_RL_15 ⟨rfl, rfl⟩ ⟨Nat.le_of_ble_eq_true rfl, Nat.le_of_ble_eq_true rfl⟩ rfl hl.1 rfl (Nat.le_of_ble_eq_true rfl) ⟨(by show _ ≤ 3; omega), (by show _ ≤ 24; omega)⟩ dL_act_205 (fun r9 hr9 => ?_)
            obtain ⟨b3, hb3_, hr9⟩ := hr9
            subst hr9
            refine lv_if_le (tgt := 213) hx hb dL_act_208 (by decide) (fun c208 => ?_) (fun c208 => ?_)
            · have c208n : b3 ≤ 0 := (nI_leI (a := b3) (b := 0) (by omega) (by omega)).mp c208
              obtain ⟨M, hNM⟩ : ∃ M, N = M + 1 := ⟨N - 1, by omega⟩
              subst hNM
              refine lv_aload_n hx hb dL_act_213 rfl (lv_at hl 4 rfl) ?_
              refine S0.gL hF hX kf_RL_9 dL_act_214 ?_
              refine lv_iload_n hx hb dL_act_217 rfl (lv_at hl 2 rfl) ?_
              refine lv_iconst (v := 1) hx hb dL_act_218 (by decide) ?_
              refine lv_isub hx hb dL_act_219 ?_
              refine S0.ldA hF hX M (by omega) (nI_pred M) dL_act_220 ?_
              refine lv_iconst (v := 2) hx hb dL_act_221 (by decide) ?_
              refine S0.ldR hF hX M (by omega) 2 (by decide) rfl dL_act_222 ?_
              refine topI (show (rowV v st mk) M 2 = v 2 M from rfl) ?_
              refine lv_istore (lv' := [(6, .int (v 2 M)), (5, .ref (a k)), (4, .int (nI k)), (3, .int (nI (M + 1))), (0, .ref (q 0)), (1, .ref sm), (2, .int x)]) hx hb dL_act_223 hl (by decide) rfl (fun ls hl => ?_)
              refine lv_aload_n hx hb dL_act_225 rfl (lv_at hl 5 rfl) ?_
              refine lv_aload_n hx hb dL_act_226 rfl (lv_at hl 5 rfl) ?_
              refine S0.gL hF hX kf_RL_9 dL_act_227 ?_
              have hlX := fun (q : Nat) (h9 : sown sm wd lg a (M + 1) q) => hX.lt h9
              have hlC := fun (z : Nat) (h9 : own 10 q z) => C0.lt hC h9
              have hsz9 := hS.1
              refine wSr (mc := 1) (ms := 16) (As := [.ref lg]) (rest := [.ref sm]) hF (mX1_less (M := M) (sz := _)) XSz.mv (fun _ _ => YQ.mv) ⟨hX, rfl⟩ jyX1_less kl_RL_35 ⟨rfl, rfl⟩ ⟨Nat.le_of_ble_eq_true rfl, Nat.le_of_ble_eq_true rfl⟩ rfl hl.1 rfl (Nat.le_of_ble_eq_true rfl) ⟨by show _ + 1 ≤ 3; omega, by show _ + 16 ≤ 24; omega⟩ hS (fun _ _ h => h.elim) (fun _ h => h.elim) dL_act_230 (fun u9 x1 H locs hp9 hB9 hz hk hS => ?_)
              have ho : ∀ q : Nat, q < _ → H[q]? = _ := fun q h9 => hk q h9 (fun h => h)
              have hX := hX.upK ho
              have hC := hC.upK ho
              have hQ9 := hB9.1
              have nX_x1 : ∀ q : Nat, sown sm wd lg a (M + 1) q → q ≠ x1 := fun q h9 => Nat.ne_of_lt (Nat.lt_of_lt_of_le (hlX q h9) hB9.2)
              have nC_x1 : ∀ z : Nat, own 10 q z → z ≠ x1 := fun z h9 => Nat.ne_of_lt (Nat.lt_of_lt_of_le (hlC z h9) hB9.2)
              have hAz : B ≤ x1 := Nat.le_trans (Nat.le_trans hB hsz9) hB9.2
              have hap2b := apS hap2 hAz
              have hdisb := disS hdis nC_x1
              refine S0.stK hF hX hS (hap2 _ (Or.inl rfl)) hQ9 nX_x1 kf_RL_9 dL_act_233 (fun H locs hX hz oq hS => ?_)
              have hC := hC.kept (fun q h9 => oq q (fun e => hdis q h9 (Or.inl e)))
              refine lv_aload_n hx hb dL_act_236 rfl (lv_at hl 4 rfl) ?_
              refine wVi (mc := 0) (ms := 0) (As := []) (rest := []) hF (mX0_strikeLeg M (by omega)) C0.mv (fun _ => C0.mv) hC (C0.rc hC) jyX0_strikeLeg kl_RL_39 ⟨rfl, rfl⟩ ⟨Nat.le_of_ble_eq_true rfl, Nat.le_of_ble_eq_true rfl⟩ rfl hl.1 rfl (Nat.le_of_ble_eq_true rfl) ⟨by show _ + 0 ≤ 3; omega, by show _ + 0 ≤ 24; omega⟩ hS (fun z _ h => hap1 z h) (fun z h => hap1 z h) dL_act_237 (fun r9 u9 H locs hp9 hB9 hz hk hS => ?_)
              have hX := S0.kept hX (fun z h9 => hk z (S0.lt hX h9) (fun h8 => hdisb z h8 h9))
              have hC := hB9
              rw [hp9]
              refine lv_iload hx hb dL_act_240 (lv_at hl 0 rfl) ?_
              refine lv_icmp_ne (tgt := 249) hx hb dL_act_242 (by decide) (fun c242 => ?_) (fun c242 => ?_)
              · exact absurd rfl c242
              · refine lv_iconst (v := 1) hx hb dL_act_245 (by decide) ?_
                refine lv_goto (tgt := 250) hx hb dL_act_246 (by decide) ?_
                refine W.widen (k := 3) (n := 24) (by omega) (by omega) ?_
                exact W.zret hx hb hr rfl (fun t ht hW => ⟨⟨_, (), rfl, rfl, wEnd LW.mv ⟨_, _, _, _, _, _, _, ⟨hC, hX⟩, ⟨hinv.strike, (der_le hde (Nat.le_succ M))⟩, hap1, hap2b, hdisb⟩ ht hW⟩, hS.F ht⟩) hS.2.2 dL_act_250
            · have c208n : ¬ b3 ≤ 0 := fun h9 => c208 ((nI_leI (a := b3) (b := 0) (by omega) (by omega)).mpr h9)
              refine lv_iconst (v := 1) hx hb dL_act_211 (by decide) ?_
              refine W.widen (k := 3) (n := 24) (by omega) (by omega) ?_
              exact W.zret hx hb hr rfl (fun t ht hW => ⟨⟨_, (), rfl, rfl, wEnd LW.mv ⟨_, _, _, _, _, _, _, ⟨hC, hX⟩, ⟨hinv, hde⟩, hap1, hap2, hdis⟩ ht hW⟩, hS.F ht⟩) hS.2.2 dL_act_212
          · rw [h9]
            refine lv_tableIn (off := 91) (tgt := 251) hx hb dL_act_160 (by decide) (by decide) (by decide) (by decide) ?_
            refine lv_aload hx hb dL_act_251 (lv_at hl 0 rfl) ?_
            refine lv_iconst (v := 0) hx hb dL_act_253 (by decide) ?_
            refine S0.ldR hF hX k (by omega) 0 (by decide) rfl dL_act_254 ?_
            refine topI (show (rowV v st mk) k 0 = v 0 k from rfl) ?_
            refine lv_istore (lv' := [(6, .int (v 0 k)), (5, .ref (a k)), (4, .int (nI k)), (3, .int (nI N)), (0, .ref (q 0)), (1, .ref sm), (2, .int x)]) hx hb dL_act_255 hl (by decide) rfl (fun ls hl => ?_)
            refine lv_aload hx hb dL_act_257 (lv_at hl 1 rfl) ?_
            refine lv_iconst (v := 0) hx hb dL_act_259 (by decide) ?_
            refine lv_iload_n hx hb dL_act_260 rfl (lv_at hl 6 rfl) ?_
            refine lv_iconst (v := 5) hx hb dL_act_261 (by decide) ?_
            refine lv_ishr hx hb dL_act_262 ?_
            refine lv_bipush (v := (nI 7)) hx hb dL_act_263 (by decide) ?_
            refine cSi (As := [.int (x >>> (5 &&& 31)), .int (nI 7)]) (rest := [.int 0, .ref (a k)]) hF (mL_below (x >>> (5 &&& 31)) 7 (by omega) (by omega)) Mv.const trivial jyL_below kl_RL_15 ⟨rfl, rfl⟩ ⟨Nat.le_of_ble_eq_true rfl, Nat.le_of_ble_eq_true rfl⟩ rfl hl.1 rfl (Nat.le_of_ble_eq_true rfl) ⟨(by show _ ≤ 3; omega), (by show _ ≤ 24; omega)⟩ dL_act_265 (fun r9 hr9 => ?_)
            obtain ⟨e1, he1_, hr9⟩ := hr9
            subst hr9
            refine lv_iconst (v := 3) hx hb dL_act_268 (by decide) ?_
            refine lv_isub hx hb dL_act_269 ?_
            refine S0.stR hF hX hS k (by omega) (hap2 _ (Or.inr (Or.inr (Or.inr ⟨k, by omega, rfl⟩)))) 0 (by decide) rfl dL_act_270 (fun H locs hX hz oq hS => ?_)
            have hC := hC.kept (fun q h9 => oq q (fun e => hdis q h9 (Or.inr (Or.inr (Or.inr ⟨k, by omega, e⟩)))))
            refine lv_aload_n hx hb dL_act_271 rfl (lv_at hl 5 rfl) ?_
            refine lv_iconst (v := (b2i true)) hx hb dL_act_272 (by decide) ?_
            have hsw := hap2
            refine wVv (mc := 0) (ms := 0) (As := [.int (b2i true)]) (rest := []) hF (mX1_sing ((va_up v 0 (upd (v 0) k (nI e1 - 3))) 0) rb_T true) S0.mv (fun _ => S0.mv) hX hX.rc jyX1_sing kl_RL_25 ⟨rfl, rfl⟩ ⟨Nat.le_of_ble_eq_true rfl, Nat.le_of_ble_eq_true rfl⟩ rfl hl.1 rfl (Nat.le_of_ble_eq_true rfl) ⟨by show _ + 0 ≤ 3; omega, by show _ + 0 ≤ 24; omega⟩ hS (fun q _ h => hap2 q (Or.inr (Or.inr (Or.inr h)))) (fun q h => hap2 q (Or.inr (Or.inr (Or.inr h)))) dL_act_273 (fun u8 H locs hp9 hB9 hz hk hS => ?_)
            have hC := C0.kept hC (fun z h9 => hk z (C0.lt hC h9) (fun h8 => hdis z h9 (Or.inr (Or.inr (Or.inr h8)))))
            have hX := S0.cg hB9 (wv2 := ((va_up v 0 (upd (v 0) k (nI e1 - 3))) 3)) (r2 := (rowV (va_up v 0 (upd (v 0) k (nI e1 - 3))) st (fun _ => false))) (fun _ _ => rfl) (rb_row (bend_ok hinv.1 he1_))
            refine lv_aload_n hx hb dL_act_276 rfl (lv_at hl 4 rfl) ?_
            refine lv_iload hx hb dL_act_277 (lv_at hl 2 rfl) ?_
            refine lv_aload hx hb dL_act_279 (lv_at hl 1 rfl) ?_
            refine lv_iconst (v := 0) hx hb dL_act_281 (by decide) ?_
            refine S0.ldR hF hX k (by omega) 0 (by decide) rfl dL_act_282 ?_
            refine topI (show ((rowV (va_up v 0 (upd (v 0) k (nI e1 - 3))) st (fun _ => false)) k 0) = nI e1 - 3 from by show va_up v 0 (upd (v 0) k (nI e1 - 3)) 0 k = _; simp [va_up, upd]) ?_
            refine wVi (mc := 0) (ms := 0) (As := [.int (nI k), .int (nI e1 - 3)]) (rest := []) hF (mX0_bend hinv.1 hde k e1 hk_ he1_) (Mv.and C0.mv ST.mv) (fun _ => C0.mv) ⟨hC, (ST.narrow (ST.kept hZ0 hS.2.1) hap1)⟩ (C0.rc hC) jyX0_bend kl_RL_43 ⟨rfl, rfl⟩ ⟨Nat.le_of_ble_eq_true rfl, Nat.le_of_ble_eq_true rfl⟩ rfl hl.1 rfl (Nat.le_of_ble_eq_true rfl) ⟨by show _ + 0 ≤ 3; omega, by show _ + 0 ≤ 24; omega⟩ hS (fun z _ h => hap1 z h) (fun z h => hap1 z h) dL_act_283 (fun r9 u9 H locs hp9 hB9 hz hk hS => ?_)
            have hX := S0.kept hX (fun z h9 => hk z (S0.lt hX h9) (fun h8 => hdis z h8 h9))
            have hC := hB9
            rw [hp9.1]
            refine lv_iload hx hb dL_act_286 (lv_at hl 0 rfl) ?_
            refine lv_icmp_ne (tgt := 295) hx hb dL_act_288 (by decide) (fun c288 => ?_) (fun c288 => ?_)
            · exact absurd rfl c288
            · refine lv_iconst (v := 1) hx hb dL_act_291 (by decide) ?_
              refine lv_goto (tgt := 296) hx hb dL_act_292 (by decide) ?_
              have hX := S0.cg hX (wv2 := (va_up v 0 (upd (v 0) k (nI e1 - 3))) 3) (r2 := rowV (va_up v 0 (upd (v 0) k (nI e1 - 3))) st u9.1) (fun _ _ => rfl) (rowV_mk (fun k hk => (hp9.2.1 k hk).symm))
              refine W.widen (k := 3) (n := 24) (by omega) (by omega) ?_
              exact W.zret hx hb hr rfl (fun t ht hW => ⟨⟨_, (), rfl, rfl, wEnd LW.mv ⟨_, _, _, _, _, _, _, ⟨hC, hX⟩, ⟨(hinv.bend he1_ k hp9.2.1), hp9.2.2⟩, hap1, hap2, hdis⟩ ht hW⟩, hS.F ht⟩) hS.2.2 dL_act_296
          · rw [h9]
            refine lv_tableIn (off := 91) (tgt := 251) hx hb dL_act_160 (by decide) (by decide) (by decide) (by decide) ?_
            refine lv_aload hx hb dL_act_251 (lv_at hl 0 rfl) ?_
            refine lv_iconst (v := 0) hx hb dL_act_253 (by decide) ?_
            refine S0.ldR hF hX k (by omega) 0 (by decide) rfl dL_act_254 ?_
            refine topI (show (rowV v st mk) k 0 = v 0 k from rfl) ?_
            refine lv_istore (lv' := [(6, .int (v 0 k)), (5, .ref (a k)), (4, .int (nI k)), (3, .int (nI N)), (0, .ref (q 0)), (1, .ref sm), (2, .int x)]) hx hb dL_act_255 hl (by decide) rfl (fun ls hl => ?_)
            refine lv_aload hx hb dL_act_257 (lv_at hl 1 rfl) ?_
            refine lv_iconst (v := 0) hx hb dL_act_259 (by decide) ?_
            refine lv_iload_n hx hb dL_act_260 rfl (lv_at hl 6 rfl) ?_
            refine lv_iconst (v := 5) hx hb dL_act_261 (by decide) ?_
            refine lv_ishr hx hb dL_act_262 ?_
            refine lv_bipush (v := (nI 7)) hx hb dL_act_263 (by decide) ?_
            refine cSi (As := [.int (x >>> (5 &&& 31)), .int (nI 7)]) (rest := [.int 0, .ref (a k)]) hF (mL_below (x >>> (5 &&& 31)) 7 (by omega) (by omega)) Mv.const trivial jyL_below kl_RL_15 ⟨rfl, rfl⟩ ⟨Nat.le_of_ble_eq_true rfl, Nat.le_of_ble_eq_true rfl⟩ rfl hl.1 rfl (Nat.le_of_ble_eq_true rfl) ⟨(by show _ ≤ 3; omega), (by show _ ≤ 24; omega)⟩ dL_act_265 (fun r9 hr9 => ?_)
            obtain ⟨e1, he1_, hr9⟩ := hr9
            subst hr9
            refine lv_iconst (v := 3) hx hb dL_act_268 (by decide) ?_
            refine lv_isub hx hb dL_act_269 ?_
            refine S0.stR hF hX hS k (by omega) (hap2 _ (Or.inr (Or.inr (Or.inr ⟨k, by omega, rfl⟩)))) 0 (by decide) rfl dL_act_270 (fun H locs hX hz oq hS => ?_)
            have hC := hC.kept (fun q h9 => oq q (fun e => hdis q h9 (Or.inr (Or.inr (Or.inr ⟨k, by omega, e⟩)))))
            refine lv_aload_n hx hb dL_act_271 rfl (lv_at hl 5 rfl) ?_
            refine lv_iconst (v := (b2i true)) hx hb dL_act_272 (by decide) ?_
            have hsw := hap2
            refine wVv (mc := 0) (ms := 0) (As := [.int (b2i true)]) (rest := []) hF (mX1_sing ((va_up v 0 (upd (v 0) k (nI e1 - 3))) 0) rb_T true) S0.mv (fun _ => S0.mv) hX hX.rc jyX1_sing kl_RL_25 ⟨rfl, rfl⟩ ⟨Nat.le_of_ble_eq_true rfl, Nat.le_of_ble_eq_true rfl⟩ rfl hl.1 rfl (Nat.le_of_ble_eq_true rfl) ⟨by show _ + 0 ≤ 3; omega, by show _ + 0 ≤ 24; omega⟩ hS (fun q _ h => hap2 q (Or.inr (Or.inr (Or.inr h)))) (fun q h => hap2 q (Or.inr (Or.inr (Or.inr h)))) dL_act_273 (fun u8 H locs hp9 hB9 hz hk hS => ?_)
            have hC := C0.kept hC (fun z h9 => hk z (C0.lt hC h9) (fun h8 => hdis z h9 (Or.inr (Or.inr (Or.inr h8)))))
            have hX := S0.cg hB9 (wv2 := ((va_up v 0 (upd (v 0) k (nI e1 - 3))) 3)) (r2 := (rowV (va_up v 0 (upd (v 0) k (nI e1 - 3))) st (fun _ => false))) (fun _ _ => rfl) (rb_row (bend_ok hinv.1 he1_))
            refine lv_aload_n hx hb dL_act_276 rfl (lv_at hl 4 rfl) ?_
            refine lv_iload hx hb dL_act_277 (lv_at hl 2 rfl) ?_
            refine lv_aload hx hb dL_act_279 (lv_at hl 1 rfl) ?_
            refine lv_iconst (v := 0) hx hb dL_act_281 (by decide) ?_
            refine S0.ldR hF hX k (by omega) 0 (by decide) rfl dL_act_282 ?_
            refine topI (show ((rowV (va_up v 0 (upd (v 0) k (nI e1 - 3))) st (fun _ => false)) k 0) = nI e1 - 3 from by show va_up v 0 (upd (v 0) k (nI e1 - 3)) 0 k = _; simp [va_up, upd]) ?_
            refine wVi (mc := 0) (ms := 0) (As := [.int (nI k), .int (nI e1 - 3)]) (rest := []) hF (mX0_bend hinv.1 hde k e1 hk_ he1_) (Mv.and C0.mv ST.mv) (fun _ => C0.mv) ⟨hC, (ST.narrow (ST.kept hZ0 hS.2.1) hap1)⟩ (C0.rc hC) jyX0_bend kl_RL_43 ⟨rfl, rfl⟩ ⟨Nat.le_of_ble_eq_true rfl, Nat.le_of_ble_eq_true rfl⟩ rfl hl.1 rfl (Nat.le_of_ble_eq_true rfl) ⟨by show _ + 0 ≤ 3; omega, by show _ + 0 ≤ 24; omega⟩ hS (fun z _ h => hap1 z h) (fun z h => hap1 z h) dL_act_283 (fun r9 u9 H locs hp9 hB9 hz hk hS => ?_)
            have hX := S0.kept hX (fun z h9 => hk z (S0.lt hX h9) (fun h8 => hdis z h8 h9))
            have hC := hB9
            rw [hp9.1]
            refine lv_iload hx hb dL_act_286 (lv_at hl 0 rfl) ?_
            refine lv_icmp_ne (tgt := 295) hx hb dL_act_288 (by decide) (fun c288 => ?_) (fun c288 => ?_)
            · exact absurd rfl c288
            · refine lv_iconst (v := 1) hx hb dL_act_291 (by decide) ?_
              refine lv_goto (tgt := 296) hx hb dL_act_292 (by decide) ?_
              have hX := S0.cg hX (wv2 := (va_up v 0 (upd (v 0) k (nI e1 - 3))) 3) (r2 := rowV (va_up v 0 (upd (v 0) k (nI e1 - 3))) st u9.1) (fun _ _ => rfl) (rowV_mk (fun k hk => (hp9.2.1 k hk).symm))
              refine W.widen (k := 3) (n := 24) (by omega) (by omega) ?_
              exact W.zret hx hb hr rfl (fun t ht hW => ⟨⟨_, (), rfl, rfl, wEnd LW.mv ⟨_, _, _, _, _, _, _, ⟨hC, hX⟩, ⟨(hinv.bend he1_ k hp9.2.1), hp9.2.2⟩, hap1, hap2, hdis⟩ ht hW⟩, hS.F ht⟩) hS.2.2 dL_act_296
          · rw [h9]
            refine lv_tableIn (off := 137) (tgt := 297) hx hb dL_act_160 (by decide) (by decide) (by decide) (by decide) ?_
            refine lv_iload_n hx hb dL_act_297 rfl (lv_at hl 5 rfl) ?_
            refine lv_iconst (v := 4) hx hb dL_act_298 (by decide) ?_
            refine lv_ishr hx hb dL_act_299 ?_
            refine lv_bipush (v := (nI 10)) hx hb dL_act_300 (by decide) ?_
            refine cSi (As := [.int (x >>> (4 &&& 31)), .int (nI 10)]) (rest := []) hF (mL_below (x >>> (4 &&& 31)) 10 (by omega) (by omega)) Mv.const trivial jyL_below kl_RL_15 ⟨rfl, rfl⟩ ⟨Nat.le_of_ble_eq_true rfl, Nat.le_of_ble_eq_true rfl⟩ rfl hl.1 rfl (Nat.le_of_ble_eq_true rfl) ⟨(by show _ ≤ 3; omega), (by show _ ≤ 24; omega)⟩ dL_act_302 (fun r9 hr9 => ?_)
            obtain ⟨j1, hj1_, hr9⟩ := hr9
            subst hr9
            refine lv_istore (lv' := [(6, .int (nI j1)), (5, .ref (a k)), (4, .int (nI k)), (3, .int (nI N)), (0, .ref (q 0)), (1, .ref sm), (2, .int x)]) hx hb dL_act_305 hl (by decide) rfl (fun ls hl => ?_)
            refine lv_aload_n hx hb dL_act_307 rfl (lv_at hl 5 rfl) ?_
            refine S0.gW hF hX kf_RL_46 dL_act_308 ?_
            refine lv_iload hx hb dL_act_311 (lv_at hl 0 rfl) ?_
            refine S0.ldW hF hX j1 (by omega) rfl dL_act_313 ?_
            refine lv_istore (lv' := [(7, .int ((v 3) j1)), (6, .int (nI j1)), (5, .ref (a k)), (4, .int (nI k)), (3, .int (nI N)), (0, .ref (q 0)), (1, .ref sm), (2, .int x)]) hx hb dL_act_314 hl (by decide) rfl (fun ls hl => ?_)
            refine lv_aload_n hx hb dL_act_316 rfl (lv_at hl 6 rfl) ?_
            refine S0.gW hF hX kf_RL_46 dL_act_317 ?_
            refine lv_iload hx hb dL_act_320 (lv_at hl 1 rfl) ?_
            refine lv_iload_n hx hb dL_act_322 rfl (lv_at hl 7 rfl) ?_
            refine lv_bipush (v := 6) hx hb dL_act_323 (by decide) ?_
            refine lv_ishr hx hb dL_act_325 ?_
            refine lv_bipush (v := (nI 10)) hx hb dL_act_326 (by decide) ?_
            refine cSi (As := [.int (x >>> (6 &&& 31)), .int (nI 10)]) (rest := [.int (nI j1), .ref wd]) hF (mL_below (x >>> (6 &&& 31)) 10 (by omega) (by omega)) Mv.const trivial jyL_below kl_RL_15 ⟨rfl, rfl⟩ ⟨Nat.le_of_ble_eq_true rfl, Nat.le_of_ble_eq_true rfl⟩ rfl hl.1 rfl (Nat.le_of_ble_eq_true rfl) ⟨(by show _ ≤ 3; omega), (by show _ ≤ 24; omega)⟩ dL_act_328 (fun r9 hr9 => ?_)
            obtain ⟨x1, hx1_, hr9⟩ := hr9
            subst hr9
            refine S0.stW hF hX hS (hap2 _ (Or.inr (Or.inl rfl))) j1 (by omega) rfl dL_act_331 (fun H locs hX hz oq hS => ?_)
            have hC := hC.kept (fun q h9 => oq q (fun e => hdis q h9 (Or.inr (Or.inl e))))
            refine lv_aload_n hx hb dL_act_332 rfl (lv_at hl 6 rfl) ?_
            refine lv_iconst (v := (b2i true)) hx hb dL_act_333 (by decide) ?_
            have hsw := hap2
            refine wVv (mc := 0) (ms := 0) (As := [.int (b2i true)]) (rest := []) hF (mX1_sing ((va_up v 3 (upd (v 3) j1 (nI x1))) 0) (fun _ _ => rfl) true) S0.mv (fun _ => S0.mv) hX hX.rc jyX1_sing kl_RL_25 ⟨rfl, rfl⟩ ⟨Nat.le_of_ble_eq_true rfl, Nat.le_of_ble_eq_true rfl⟩ rfl hl.1 rfl (Nat.le_of_ble_eq_true rfl) ⟨by show _ + 0 ≤ 3; omega, by show _ + 0 ≤ 24; omega⟩ hS (fun q _ h => hap2 q (Or.inr (Or.inr (Or.inr h)))) (fun q h => hap2 q (Or.inr (Or.inr (Or.inr h)))) dL_act_334 (fun u8 H locs hp9 hB9 hz hk hS => ?_)
            have hC := C0.kept hC (fun z h9 => hk z (C0.lt hC h9) (fun h8 => hdis z h9 (Or.inr (Or.inr (Or.inr h8)))))
            have hX := S0.cg hB9 (wv2 := ((va_up v 3 (upd (v 3) j1 (nI x1))) 3)) (r2 := (rowV (va_up v 3 (upd (v 3) j1 (nI x1))) st (fun _ => false))) (fun _ _ => rfl) (rw_row (v2 := (va_up v 3 (upd (v 3) j1 (nI x1)))) hinv.1 (fun k hk i hi => by match i, hi with | 0, _ => rfl | 1, _ => rfl | 2, _ => rfl))
            refine lv_aload_n hx hb dL_act_337 rfl (lv_at hl 5 rfl) ?_
            refine lv_iload hx hb dL_act_338 (lv_at hl 1 rfl) ?_
            refine lv_aload_n hx hb dL_act_340 rfl (lv_at hl 6 rfl) ?_
            refine S0.gW hF hX kf_RL_46 dL_act_341 ?_
            refine lv_iload hx hb dL_act_344 (lv_at hl 1 rfl) ?_
            refine S0.ldW hF hX j1 (by omega) rfl dL_act_346 ?_
            refine topI (show (((va_up v 3 (upd (v 3) j1 (nI x1))) 3) j1) = nI x1 from by simp [va_up, upd]) ?_
            refine wVi (mc := 0) (ms := 0) (As := [.int (nI j1), .int (nI x1)]) (rest := []) hF (mX0_setWord hinv.1.1 j1 x1 hj1_ hx1_) C0.mv (fun _ => C0.mv) hC (C0.rc hC) jyX0_setWord kl_RL_50 ⟨rfl, rfl⟩ ⟨Nat.le_of_ble_eq_true rfl, Nat.le_of_ble_eq_true rfl⟩ rfl hl.1 rfl (Nat.le_of_ble_eq_true rfl) ⟨by show _ + 0 ≤ 3; omega, by show _ + 0 ≤ 24; omega⟩ hS (fun z _ h => hap1 z h) (fun z h => hap1 z h) dL_act_347 (fun r9 u9 H locs hp9 hB9 hz hk hS => ?_)
            have hX := S0.kept hX (fun z h9 => hk z (S0.lt hX h9) (fun h8 => hdis z h8 h9))
            have hC := hB9
            rw [hp9.1]
            refine lv_iload hx hb dL_act_350 (lv_at hl 0 rfl) ?_
            refine lv_icmp_ne (tgt := 359) hx hb dL_act_352 (by decide) (fun c352 => ?_) (fun c352 => ?_)
            · exact absurd rfl c352
            · refine lv_iconst (v := 1) hx hb dL_act_355 (by decide) ?_
              refine lv_goto (tgt := 360) hx hb dL_act_356 (by decide) ?_
              have hX := S0.cg hX (wv2 := (va_up v 3 (upd (v 3) j1 (nI x1))) 3) (r2 := rowV (va_up v 3 (upd (v 3) j1 (nI x1))) st u9) (fun _ _ => rfl) (rowV_mk (fun k hk => (hp9.2 k hk).symm))
              refine W.widen (k := 3) (n := 24) (by omega) (by omega) ?_
              exact W.zret hx hb hr rfl (fun t ht hW => ⟨⟨_, (), rfl, rfl, wEnd LW.mv ⟨_, _, _, _, _, _, _, ⟨hC, hX⟩, ⟨(hinv.word hx1_ j1 hp9.2), (word_der hde)⟩, hap1, hap2, hdis⟩ ht hW⟩, hS.F ht⟩) hS.2.2 dL_act_360
          · rw [h9]
            refine lv_tableIn (off := 137) (tgt := 297) hx hb dL_act_160 (by decide) (by decide) (by decide) (by decide) ?_
            refine lv_iload_n hx hb dL_act_297 rfl (lv_at hl 5 rfl) ?_
            refine lv_iconst (v := 4) hx hb dL_act_298 (by decide) ?_
            refine lv_ishr hx hb dL_act_299 ?_
            refine lv_bipush (v := (nI 10)) hx hb dL_act_300 (by decide) ?_
            refine cSi (As := [.int (x >>> (4 &&& 31)), .int (nI 10)]) (rest := []) hF (mL_below (x >>> (4 &&& 31)) 10 (by omega) (by omega)) Mv.const trivial jyL_below kl_RL_15 ⟨rfl, rfl⟩ ⟨Nat.le_of_ble_eq_true rfl, Nat.le_of_ble_eq_true rfl⟩ rfl hl.1 rfl (Nat.le_of_ble_eq_true rfl) ⟨(by show _ ≤ 3; omega), (by show _ ≤ 24; omega)⟩ dL_act_302 (fun r9 hr9 => ?_)
            obtain ⟨j1, hj1_, hr9⟩ := hr9
            subst hr9
            refine lv_istore (lv' := [(6, .int (nI j1)), (5, .ref (a k)), (4, .int (nI k)), (3, .int (nI N)), (0, .ref (q 0)), (1, .ref sm), (2, .int x)]) hx hb dL_act_305 hl (by decide) rfl (fun ls hl => ?_)
            refine lv_aload_n hx hb dL_act_307 rfl (lv_at hl 5 rfl) ?_
            refine S0.gW hF hX kf_RL_46 dL_act_308 ?_
            refine lv_iload hx hb dL_act_311 (lv_at hl 0 rfl) ?_
            refine S0.ldW hF hX j1 (by omega) rfl dL_act_313 ?_
            refine lv_istore (lv' := [(7, .int ((v 3) j1)), (6, .int (nI j1)), (5, .ref (a k)), (4, .int (nI k)), (3, .int (nI N)), (0, .ref (q 0)), (1, .ref sm), (2, .int x)]) hx hb dL_act_314 hl (by decide) rfl (fun ls hl => ?_)
            refine lv_aload_n hx hb dL_act_316 rfl (lv_at hl 6 rfl) ?_
            refine S0.gW hF hX kf_RL_46 dL_act_317 ?_
            refine lv_iload hx hb dL_act_320 (lv_at hl 1 rfl) ?_
            refine lv_iload_n hx hb dL_act_322 rfl (lv_at hl 7 rfl) ?_
            refine lv_bipush (v := 6) hx hb dL_act_323 (by decide) ?_
            refine lv_ishr hx hb dL_act_325 ?_
            refine lv_bipush (v := (nI 10)) hx hb dL_act_326 (by decide) ?_
            refine cSi (As := [.int (x >>> (6 &&& 31)), .int (nI 10)]) (rest := [.int (nI j1), .ref wd]) hF (mL_below (x >>> (6 &&& 31)) 10 (by omega) (by omega)) Mv.const trivial jyL_below kl_RL_15 ⟨rfl, rfl⟩ ⟨Nat.le_of_ble_eq_true rfl, Nat.le_of_ble_eq_true rfl⟩ rfl hl.1 rfl (Nat.le_of_ble_eq_true rfl) ⟨(by show _ ≤ 3; omega), (by show _ ≤ 24; omega)⟩ dL_act_328 (fun r9 hr9 => ?_)
            obtain ⟨x1, hx1_, hr9⟩ := hr9
            subst hr9
            refine S0.stW hF hX hS (hap2 _ (Or.inr (Or.inl rfl))) j1 (by omega) rfl dL_act_331 (fun H locs hX hz oq hS => ?_)
            have hC := hC.kept (fun q h9 => oq q (fun e => hdis q h9 (Or.inr (Or.inl e))))
            refine lv_aload_n hx hb dL_act_332 rfl (lv_at hl 6 rfl) ?_
            refine lv_iconst (v := (b2i true)) hx hb dL_act_333 (by decide) ?_
            have hsw := hap2
            refine wVv (mc := 0) (ms := 0) (As := [.int (b2i true)]) (rest := []) hF (mX1_sing ((va_up v 3 (upd (v 3) j1 (nI x1))) 0) (fun _ _ => rfl) true) S0.mv (fun _ => S0.mv) hX hX.rc jyX1_sing kl_RL_25 ⟨rfl, rfl⟩ ⟨Nat.le_of_ble_eq_true rfl, Nat.le_of_ble_eq_true rfl⟩ rfl hl.1 rfl (Nat.le_of_ble_eq_true rfl) ⟨by show _ + 0 ≤ 3; omega, by show _ + 0 ≤ 24; omega⟩ hS (fun q _ h => hap2 q (Or.inr (Or.inr (Or.inr h)))) (fun q h => hap2 q (Or.inr (Or.inr (Or.inr h)))) dL_act_334 (fun u8 H locs hp9 hB9 hz hk hS => ?_)
            have hC := C0.kept hC (fun z h9 => hk z (C0.lt hC h9) (fun h8 => hdis z h9 (Or.inr (Or.inr (Or.inr h8)))))
            have hX := S0.cg hB9 (wv2 := ((va_up v 3 (upd (v 3) j1 (nI x1))) 3)) (r2 := (rowV (va_up v 3 (upd (v 3) j1 (nI x1))) st (fun _ => false))) (fun _ _ => rfl) (rw_row (v2 := (va_up v 3 (upd (v 3) j1 (nI x1)))) hinv.1 (fun k hk i hi => by match i, hi with | 0, _ => rfl | 1, _ => rfl | 2, _ => rfl))
            refine lv_aload_n hx hb dL_act_337 rfl (lv_at hl 5 rfl) ?_
            refine lv_iload hx hb dL_act_338 (lv_at hl 1 rfl) ?_
            refine lv_aload_n hx hb dL_act_340 rfl (lv_at hl 6 rfl) ?_
            refine S0.gW hF hX kf_RL_46 dL_act_341 ?_
            refine lv_iload hx hb dL_act_344 (lv_at hl 1 rfl) ?_
            refine S0.ldW hF hX j1 (by omega) rfl dL_act_346 ?_
            refine topI (show (((va_up v 3 (upd (v 3) j1 (nI x1))) 3) j1) = nI x1 from by simp [va_up, upd]) ?_
            refine wVi (mc := 0) (ms := 0) (As := [.int (nI j1), .int (nI x1)]) (rest := []) hF (mX0_setWord hinv.1.1 j1 x1 hj1_ hx1_) C0.mv (fun _ => C0.mv) hC (C0.rc hC) jyX0_setWord kl_RL_50 ⟨rfl, rfl⟩ ⟨Nat.le_of_ble_eq_true rfl, Nat.le_of_ble_eq_true rfl⟩ rfl hl.1 rfl (Nat.le_of_ble_eq_true rfl) ⟨by show _ + 0 ≤ 3; omega, by show _ + 0 ≤ 24; omega⟩ hS (fun z _ h => hap1 z h) (fun z h => hap1 z h) dL_act_347 (fun r9 u9 H locs hp9 hB9 hz hk hS => ?_)
            have hX := S0.kept hX (fun z h9 => hk z (S0.lt hX h9) (fun h8 => hdis z h8 h9))
            have hC := hB9
            rw [hp9.1]
            refine lv_iload hx hb dL_act_350 (lv_at hl 0 rfl) ?_
            refine lv_icmp_ne (tgt := 359) hx hb dL_act_352 (by decide) (fun c352 => ?_) (fun c352 => ?_)
            · exact absurd rfl c352
            · refine lv_iconst (v := 1) hx hb dL_act_355 (by decide) ?_
              refine lv_goto (tgt := 360) hx hb dL_act_356 (by decide) ?_
              have hX := S0.cg hX (wv2 := (va_up v 3 (upd (v 3) j1 (nI x1))) 3) (r2 := rowV (va_up v 3 (upd (v 3) j1 (nI x1))) st u9) (fun _ _ => rfl) (rowV_mk (fun k hk => (hp9.2 k hk).symm))
              refine W.widen (k := 3) (n := 24) (by omega) (by omega) ?_
              exact W.zret hx hb hr rfl (fun t ht hW => ⟨⟨_, (), rfl, rfl, wEnd LW.mv ⟨_, _, _, _, _, _, _, ⟨hC, hX⟩, ⟨(hinv.word hx1_ j1 hp9.2), (word_der hde)⟩, hap1, hap2, hdis⟩ ht hW⟩, hS.F ht⟩) hS.2.2 dL_act_360
          · rw [h9]
            refine lv_tableIn (off := 201) (tgt := 361) hx hb dL_act_160 (by decide) (by decide) (by decide) (by decide) ?_
            refine lv_aload_n hx hb dL_act_361 rfl (lv_at hl 4 rfl) ?_
            refine S0.gS hF hX kf_RL_53 dL_act_362 ?_
            refine lv_istore (lv' := [(6, .int st), (5, .ref (a k)), (4, .int (nI k)), (3, .int (nI N)), (0, .ref (q 0)), (1, .ref sm), (2, .int x)]) hx hb dL_act_365 hl (by decide) rfl (fun ls hl => ?_)
            refine lv_aload_n hx hb dL_act_367 rfl (lv_at hl 5 rfl) ?_
            refine lv_iconst (v := 1) hx hb dL_act_368 (by decide) ?_
            refine lv_iload_n hx hb dL_act_369 rfl (lv_at hl 6 rfl) ?_
            refine lv_iconst (v := 5) hx hb dL_act_370 (by decide) ?_
            refine lv_ishr hx hb dL_act_371 ?_
            refine lv_iconst (v := (nI 4)) hx hb dL_act_372 (by decide) ?_
            refine cSi (As := [.int (x >>> (5 &&& 31)), .int (nI 4)]) (rest := [.int 1, .ref sm]) hF (mL_below (x >>> (5 &&& 31)) 4 (by omega) (by omega)) Mv.const trivial jyL_below kl_RL_15 ⟨rfl, rfl⟩ ⟨Nat.le_of_ble_eq_true rfl, Nat.le_of_ble_eq_true rfl⟩ rfl hl.1 rfl (Nat.le_of_ble_eq_true rfl) ⟨(by show _ ≤ 3; omega), (by show _ ≤ 24; omega)⟩ dL_act_373 (fun r9 hr9 => ?_)
            obtain ⟨y1, hy1_, hr9⟩ := hr9
            subst hr9
            refine lv_iadd hx hb dL_act_376 ?_
            refine topI (show (1 + (nI y1)) = nI (y1 + 1) from nI_1l y1) ?_
            refine S0.stS hF hX hS (hap2 _ (Or.inl rfl)) kf_RL_53 dL_act_377 (fun H locs hX hz oq hS => ?_)
            have hC := hC.kept (fun q h9 => oq q (fun e => hdis q h9 (Or.inl e)))
            refine lv_aload_n hx hb dL_act_380 rfl (lv_at hl 5 rfl) ?_
            refine lv_iconst (v := (b2i true)) hx hb dL_act_381 (by decide) ?_
            have hsw := hap2
            refine wVv (mc := 0) (ms := 0) (As := [.int (b2i true)]) (rest := []) hF (mX1_sing (v 0) (fun _ _ => rfl) true) S0.mv (fun _ => S0.mv) hX hX.rc jyX1_sing kl_RL_25 ⟨rfl, rfl⟩ ⟨Nat.le_of_ble_eq_true rfl, Nat.le_of_ble_eq_true rfl⟩ rfl hl.1 rfl (Nat.le_of_ble_eq_true rfl) ⟨by show _ + 0 ≤ 3; omega, by show _ + 0 ≤ 24; omega⟩ hS (fun q _ h => hap2 q (Or.inr (Or.inr (Or.inr h)))) (fun q h => hap2 q (Or.inr (Or.inr (Or.inr h)))) dL_act_382 (fun u8 H locs hp9 hB9 hz hk hS => ?_)
            have hC := C0.kept hC (fun z h9 => hk z (C0.lt hC h9) (fun h8 => hdis z h9 (Or.inr (Or.inr (Or.inr h8)))))
            have hX := S0.cg hB9 (wv2 := (v 3)) (r2 := (rowV v (nI (y1 + 1)) (fun _ => false))) (fun _ _ => rfl) (rw_row (v2 := v) ⟨hinv.1.1, ⟨y1, hy1_, rfl⟩, hinv.1.2.2⟩ (fun _ _ _ _ => rfl))
            refine lv_aload_n hx hb dL_act_385 rfl (lv_at hl 4 rfl) ?_
            refine lv_aload_n hx hb dL_act_386 rfl (lv_at hl 5 rfl) ?_
            refine S0.gS hF hX kf_RL_53 dL_act_387 ?_
            refine wVi (mc := 0) (ms := 0) (As := [.int (nI (y1 + 1))]) (rest := []) hF (mX0_setStep hinv.1 y1 hy1_) (Mv.and C0.mv ST.mv) (fun _ => C0.mv) ⟨hC, (ST.narrow (ST.kept hZ0 hS.2.1) hap1)⟩ (C0.rc hC) jyX0_setStep kl_RL_57 ⟨rfl, rfl⟩ ⟨Nat.le_of_ble_eq_true rfl, Nat.le_of_ble_eq_true rfl⟩ rfl hl.1 rfl (Nat.le_of_ble_eq_true rfl) ⟨by show _ + 0 ≤ 3; omega, by show _ + 0 ≤ 24; omega⟩ hS (fun z _ h => hap1 z h) (fun z h => hap1 z h) dL_act_390 (fun r9 u9 H locs hp9 hB9 hz hk hS => ?_)
            have hX := S0.kept hX (fun z h9 => hk z (S0.lt hX h9) (fun h8 => hdis z h8 h9))
            have hC := hB9
            rw [hp9.1]
            refine lv_iload hx hb dL_act_393 (lv_at hl 0 rfl) ?_
            refine lv_icmp_ne (tgt := 402) hx hb dL_act_395 (by decide) (fun c395 => ?_) (fun c395 => ?_)
            · exact absurd rfl c395
            · refine lv_iconst (v := 1) hx hb dL_act_398 (by decide) ?_
              refine lv_goto (tgt := 403) hx hb dL_act_399 (by decide) ?_
              have hX := S0.cg hX (wv2 := v 3) (r2 := rowV v (nI (y1 + 1)) u9.1) (fun _ _ => rfl) (rowV_mk (fun k hk => (hp9.2.1 k hk).symm))
              refine W.widen (k := 3) (n := 24) (by omega) (by omega) ?_
              exact W.zret hx hb hr rfl (fun t ht hW => ⟨⟨_, (), rfl, rfl, wEnd LW.mv ⟨_, _, _, _, _, _, _, ⟨hC, hX⟩, ⟨(hinv.step hy1_ hp9.2.1), hp9.2.2⟩, hap1, hap2, hdis⟩ ht hW⟩, hS.F ht⟩) hS.2.2 dL_act_403
        · refine lv_tableOut (tgt := 404) hx hb dL_act_160 h9 (by decide) ?_
          refine lv_aload_n hx hb dL_act_404 rfl (lv_at hl 4 rfl) ?_
          refine lv_iload hx hb dL_act_405 (lv_at hl 1 rfl) ?_
          refine wVi (mc := 1) (ms := 2) (As := [.int (nI k)]) (rest := []) hF (mX1_isOpen hinv.1 k hk_) S0.mv (fun _ => Mv.const) hX hX.rc jyX1_isOpen kl_RL_61 ⟨rfl, rfl⟩ ⟨Nat.le_of_ble_eq_true rfl, Nat.le_of_ble_eq_true rfl⟩ rfl hl.1 rfl (Nat.le_of_ble_eq_true rfl) ⟨by show _ + 1 ≤ 3; omega, by show _ + 2 ≤ 24; omega⟩ hS (fun _ _ h => h.elim) (fun _ h => h.elim) dL_act_407 (fun r9 u9 H locs hp9 hB9 hz hk hS => ?_)
          have ho : ∀ q : Nat, q < _ → H[q]? = _ := fun q h9 => hk q h9 (fun h => h)
          have hX := hX.upK ho
          have hC := hC.upK ho
          subst hp9
          refine lv_istore (lv' := [(6, .int (b2i (amb v st mk k))), (5, .ref (a k)), (4, .int (nI k)), (3, .int (nI N)), (0, .ref (q 0)), (1, .ref sm), (2, .int x)]) hx hb dL_act_410 hl (by decide) rfl (fun ls hl => ?_)
          refine lv_iload hx hb dL_act_412 (lv_at hl 0 rfl) ?_
          refine lv_if_eq (tgt := 422) hx hb dL_act_414 (by decide) (fun c414 => ?_) (fun c414 => ?_)
          · have c414b := b2i_f c414
            refine lv_aload_n hx hb dL_act_422 rfl (lv_at hl 4 rfl) ?_
            refine lv_iload hx hb dL_act_423 (lv_at hl 2 rfl) ?_
            have hTH9 : TH (fun _ => False) s H := TH.narrow (TH.kept hTH hS.2.1) (fun _ h => h.elim)
            refine xV (As := [.int (nI k)]) (rest := []) hF (tX0_mend2 hsT hinv.1 hde k hk_ c414b) (Wm.and C0.mv.wm TH.wm) Mv.const ⟨hC, hTH9⟩ (C0.rc hC) jyX0_mend kl_RL_65 ⟨rfl, rfl⟩ ⟨Nat.le_of_ble_eq_true rfl, Nat.le_of_ble_eq_true rfl⟩ rfl hl.1 rfl (Nat.le_of_ble_eq_true rfl) ⟨by show _ + 1 ≤ 3; omega, by show _ + 6 ≤ 24; omega⟩ hS dL_act_425 (fun ce q9 H locs _ hz ho hS hce hcv hcl => ?_)
            refine vx_catch hown [] (⟨422, 449, 450, 72⟩ : ExceptionTableEntry) [] htab (fun z hz9 => absurd hz9 List.not_mem_nil) (by decide) (by decide) (hts _ kc_RL_72) (exCast (by decide) hTH rfl) hce hcv hcl ?_
            have hX := hX.upK ho
            have hC := hC.upK ho
            refine lv_astore (lv' := [(7, .ref q9), (6, .int (b2i (amb v st mk k))), (5, .ref (a k)), (4, .int (nI k)), (3, .int (nI N)), (0, .ref (q 0)), (1, .ref sm), (2, .int x)]) hx hb dL_act_450 hl (by decide) rfl (fun ls hl => ?_)
            refine lv_iload hx hb dL_act_452 (lv_at hl 1 rfl) ?_
            refine lv_if_ne (tgt := 461) hx hb dL_act_454 (by decide) (fun c454 => ?_) (fun c454 => ?_)
            · have c454b := b2i_t c454
              exact absurd c414b (by rw [c454b]; decide)
            · have c454b := b2i_f c454
              refine lv_iconst (v := 1) hx hb dL_act_457 (by decide) ?_
              refine lv_goto (tgt := 462) hx hb dL_act_458 (by decide) ?_
              refine W.widen (k := 3) (n := 24) (by omega) (by omega) ?_
              exact W.zret hx hb hr rfl (fun t ht hW => ⟨⟨_, (), rfl, rfl, wEnd LW.mv ⟨_, _, _, _, _, _, _, ⟨hC, hX⟩, ⟨hinv, hde⟩, hap1, hap2, hdis⟩ ht hW⟩, hS.F ht⟩) hS.2.2 dL_act_462
          · have c414b := b2i_t c414
            refine lv_aload hx hb dL_act_417 (lv_at hl 1 rfl) ?_
            refine lv_iconst (v := 5) hx hb dL_act_419 (by decide) ?_
            refine lv_iconst (v := 1) hx hb dL_act_420 (by decide) ?_
            refine S0.stR hF hX hS k (by omega) (hap2 _ (Or.inr (Or.inr (Or.inr ⟨k, by omega, rfl⟩)))) 5 (by decide) rfl dL_act_421 (fun H locs hX hz oq hS => ?_)
            have hC := hC.kept (fun q h9 => oq q (fun e => hdis q h9 (Or.inr (Or.inr (Or.inr ⟨k, by omega, e⟩)))))
            have hX := S0.cg hX (wv2 := v 3) (r2 := rowV v st (va_up mk k true)) (fun _ _ => rfl) rm_row
            refine lv_aload_n hx hb dL_act_422 rfl (lv_at hl 4 rfl) ?_
            refine lv_iload hx hb dL_act_423 (lv_at hl 2 rfl) ?_
            refine wVi (mc := 0) (ms := 0) (As := [.int (nI k)]) (rest := []) hF (mX0_mend hinv.1 hde k hk_ c414b) C0.mv (fun _ => C0.mv) hC (C0.rc hC) jyX0_mend kl_RL_65 ⟨rfl, rfl⟩ ⟨Nat.le_of_ble_eq_true rfl, Nat.le_of_ble_eq_true rfl⟩ rfl hl.1 rfl (Nat.le_of_ble_eq_true rfl) ⟨by show _ + 0 ≤ 3; omega, by show _ + 0 ≤ 24; omega⟩ hS (fun z _ h => hap1 z h) (fun z h => hap1 z h) dL_act_425 (fun r9 u9 H locs hp9 hB9 hz hk hS => ?_)
            have hX := S0.kept hX (fun z h9 => hk z (S0.lt hX h9) (fun h8 => hdis z h8 h9))
            have hC := hB9
            rw [hp9]
            refine lv_aload_n hx hb dL_act_428 rfl (lv_at hl 5 rfl) ?_
            refine lv_iload hx hb dL_act_429 (lv_at hl 2 rfl) ?_
            refine wVr (mc := 1) (ms := 2) (As := [.int (nI k)]) (rest := [.int (rrn v st k)]) hF (mX1_readings hinv.1 k hk_) S0.mv (fun _ _ => heapMv) hX hX.rc jyX1_readings kl_RL_68 ⟨rfl, rfl⟩ ⟨Nat.le_of_ble_eq_true rfl, Nat.le_of_ble_eq_true rfl⟩ rfl hl.1 rfl (Nat.le_of_ble_eq_true rfl) ⟨by show _ + 1 ≤ 3; omega, by show _ + 2 ≤ 24; omega⟩ hS (fun _ _ h => h.elim) (fun _ h => h.elim) dL_act_431 (fun u9 x1 H locs hp9 hB9 hz hk hS => ?_)
            have ho : ∀ q : Nat, q < _ → H[q]? = _ := fun q h9 => hk q h9 (fun h => h)
            have hX := hX.upK ho
            have hC := hC.upK ho
            have h_x1 := hB9
            refine lv_iconst (v := 1) hx hb dL_act_434 (by decide) ?_
            refine ldI hF hX.2.1 h_x1 1 (by decide) (by decide) rfl dL_act_435 ?_
            refine topI (show ((rd2 (rdn v st k) (rrn v st k)) 1) = rrn v st k from rfl) ?_
            refine lv_icmp_ne (tgt := 448) hx hb dL_act_436 (by decide) (fun c436 => ?_) (fun c436 => ?_)
            · exact absurd rfl c436
            · refine lv_iload hx hb dL_act_439 (lv_at hl 0 rfl) ?_
              refine lv_if_eq (tgt := 448) hx hb dL_act_441 (by decide) (fun c441 => ?_) (fun c441 => ?_)
              · have c441b := b2i_f c441
                exact absurd c414b (by rw [c441b]; decide)
              · have c441b := b2i_t c441
                refine lv_iconst (v := 1) hx hb dL_act_444 (by decide) ?_
                refine lv_goto (tgt := 449) hx hb dL_act_445 (by decide) ?_
                refine W.widen (k := 3) (n := 24) (by omega) (by omega) ?_
                exact W.zret hx hb hr rfl (fun t ht hW => ⟨⟨_, (), rfl, rfl, wEnd LW.mv ⟨_, _, _, _, _, _, _, ⟨hC, hX⟩, ⟨(hinv.mend c414b), hde⟩, hap1, hap2, hdis⟩ ht hW⟩, hS.F ht⟩) hS.2.2 dL_act_449
      · have c34n : ¬ 4 ≤ c5 := fun h9 => c34 ((nI_leI (a := 4) (b := c5) (by omega) (by omega)).mpr h9)
        refine lv_iload_n hx hb dL_act_37 rfl (lv_at hl 1 rfl) ?_
        refine lv_bipush (v := 16) hx hb dL_act_38 (by decide) ?_
        refine lv_icmp_ne (tgt := 45) hx hb dL_act_40 (by decide) (fun c40 => ?_) (fun c40 => ?_)
        · have c40n : ¬ N = 16 := fun h9 => c40 ((nI_eq (a := N) (b := 16) (by omega) (by omega)).mpr h9)
          refine lv_bipush (v := 6) hx hb dL_act_45 (by decide) ?_
          refine newIr hF hX.2.1 hS 6 (by decide) rfl (by show _ ≤ 3; omega) (by show _ ≤ 24; omega) dL_act_47 (fun x1 H hq h_x1 hz ho hS1 => ?_)
          have nX_x1 : ∀ q : Nat, sown sm wd lg a N q → q ≠ x1 := fun q h9 => by rw [hq]; exact Nat.ne_of_lt (hX.lt h9)
          have nC_x1 : ∀ z : Nat, own 10 q z → z ≠ x1 := fun z h9 => by rw [hq]; exact Nat.ne_of_lt (C0.lt hC h9)
          have hA_x1 : s.heap.size ≤ x1 := by rw [hq]; exact hS.1
          have hS := hS1
          have hX := hX.upK ho
          have hC := hC.upK ho
          refine lv_dup hx hb dL_act_49 rfl ?_
          refine lv_iconst (v := 0) hx hb dL_act_50 (by decide) ?_
          refine lv_iload_n hx hb dL_act_51 rfl (lv_at hl 4 rfl) ?_
          refine lv_iconst (v := 4) hx hb dL_act_52 (by decide) ?_
          refine lv_ishr hx hb dL_act_53 ?_
          refine lv_bipush (v := (nI 7)) hx hb dL_act_54 (by decide) ?_
          refine cSi (As := [.int (x >>> (4 &&& 31)), .int (nI 7)]) (rest := [.int 0, .ref x1, .ref x1]) hF (mL_below (x >>> (4 &&& 31)) 7 (by omega) (by omega)) Mv.const trivial jyL_below kl_RL_15 ⟨rfl, rfl⟩ ⟨Nat.le_of_ble_eq_true rfl, Nat.le_of_ble_eq_true rfl⟩ rfl hl.1 rfl (Nat.le_of_ble_eq_true rfl) ⟨(by show _ ≤ 3; omega), (by show _ ≤ 24; omega)⟩ dL_act_56 (fun r9 hr9 => ?_)
          obtain ⟨e1, he1_, hr9⟩ := hr9
          subst hr9
          refine lv_iconst (v := 3) hx hb dL_act_59 (by decide) ?_
          refine lv_isub hx hb dL_act_60 ?_
          refine stI hF hX.2.1 h_x1 hS (Nat.le_trans hB hA_x1) 0 (by decide) (by decide) rfl dL_act_61 (fun H locs h_x1 hz oq hS => ?_)
          have hX := hX.kept (fun q h9 => oq q (nX_x1 q h9))
          have hC := hC.kept (fun q h9 => oq q (nC_x1 q h9))
          refine lv_dup hx hb dL_act_62 rfl ?_
          refine lv_iconst (v := 1) hx hb dL_act_63 (by decide) ?_
          refine lv_iconst (v := 1) hx hb dL_act_64 (by decide) ?_
          refine lv_iload_n hx hb dL_act_65 rfl (lv_at hl 4 rfl) ?_
          refine lv_bipush (v := 6) hx hb dL_act_66 (by decide) ?_
          refine lv_ishr hx hb dL_act_68 ?_
          refine lv_bipush (v := (nI 9)) hx hb dL_act_69 (by decide) ?_
          refine cSi (As := [.int (x >>> (6 &&& 31)), .int (nI 9)]) (rest := [.int 1, .int 1, .ref x1, .ref x1]) hF (mL_below (x >>> (6 &&& 31)) 9 (by omega) (by omega)) Mv.const trivial jyL_below kl_RL_15 ⟨rfl, rfl⟩ ⟨Nat.le_of_ble_eq_true rfl, Nat.le_of_ble_eq_true rfl⟩ rfl hl.1 rfl (Nat.le_of_ble_eq_true rfl) ⟨(by show _ ≤ 3; omega), (by show _ ≤ 24; omega)⟩ dL_act_71 (fun r9 hr9 => ?_)
          obtain ⟨l1, hl1_, hr9⟩ := hr9
          subst hr9
          refine lv_iadd hx hb dL_act_74 ?_
          refine topI (show (1 + (nI l1)) = nI (l1 + 1) from nI_1l l1) ?_
          refine stI hF hX.2.1 h_x1 hS (Nat.le_trans hB hA_x1) 1 (by decide) (by decide) rfl dL_act_75 (fun H locs h_x1 hz oq hS => ?_)
          have hX := hX.kept (fun q h9 => oq q (nX_x1 q h9))
          have hC := hC.kept (fun q h9 => oq q (nC_x1 q h9))
          refine lv_dup hx hb dL_act_76 rfl ?_
          refine lv_iconst (v := 2) hx hb dL_act_77 (by decide) ?_
          refine lv_iload_n hx hb dL_act_78 rfl (lv_at hl 4 rfl) ?_
          refine lv_iconst (v := 5) hx hb dL_act_79 (by decide) ?_
          refine lv_ishr hx hb dL_act_80 ?_
          refine lv_bipush (v := (nI 10)) hx hb dL_act_81 (by decide) ?_
          refine cSi (As := [.int (x >>> (5 &&& 31)), .int (nI 10)]) (rest := [.int 2, .ref x1, .ref x1]) hF (mL_below (x >>> (5 &&& 31)) 10 (by omega) (by omega)) Mv.const trivial jyL_below kl_RL_15 ⟨rfl, rfl⟩ ⟨Nat.le_of_ble_eq_true rfl, Nat.le_of_ble_eq_true rfl⟩ rfl hl.1 rfl (Nat.le_of_ble_eq_true rfl) ⟨(by show _ ≤ 3; omega), (by show _ ≤ 24; omega)⟩ dL_act_83 (fun r9 hr9 => ?_)
          obtain ⟨j1, hj1_, hr9⟩ := hr9
          subst hr9
          refine stI hF hX.2.1 h_x1 hS (Nat.le_trans hB hA_x1) 2 (by decide) (by decide) rfl dL_act_86 (fun H locs h_x1 hz oq hS => ?_)
          have hX := hX.kept (fun q h9 => oq q (nX_x1 q h9))
          have hC := hC.kept (fun q h9 => oq q (nC_x1 q h9))
          refine lv_dup hx hb dL_act_87 rfl ?_
          refine lv_iconst (v := 3) hx hb dL_act_88 (by decide) ?_
          refine lv_iconst (v := 0) hx hb dL_act_89 (by decide) ?_
          refine stI hF hX.2.1 h_x1 hS (Nat.le_trans hB hA_x1) 3 (by decide) (by decide) rfl dL_act_90 (fun H locs h_x1 hz oq hS => ?_)
          have hX := hX.kept (fun q h9 => oq q (nX_x1 q h9))
          have hC := hC.kept (fun q h9 => oq q (nC_x1 q h9))
          refine lv_dup hx hb dL_act_91 rfl ?_
          refine lv_iconst (v := 4) hx hb dL_act_92 (by decide) ?_
          refine lv_iconst (v := 0) hx hb dL_act_93 (by decide) ?_
          refine stI hF hX.2.1 h_x1 hS (Nat.le_trans hB hA_x1) 4 (by decide) (by decide) rfl dL_act_94 (fun H locs h_x1 hz oq hS => ?_)
          have hX := hX.kept (fun q h9 => oq q (nX_x1 q h9))
          have hC := hC.kept (fun q h9 => oq q (nC_x1 q h9))
          refine lv_dup hx hb dL_act_95 rfl ?_
          refine lv_iconst (v := 5) hx hb dL_act_96 (by decide) ?_
          refine lv_iconst (v := 0) hx hb dL_act_97 (by decide) ?_
          refine stI hF hX.2.1 h_x1 hS (Nat.le_trans hB hA_x1) 5 (by decide) (by decide) rfl dL_act_98 (fun H locs h_x1 hz oq hS => ?_)
          have hX := hX.kept (fun q h9 => oq q (nX_x1 q h9))
          have hC := hC.kept (fun q h9 => oq q (nC_x1 q h9))
          have h_x1 := six_c h_x1
          refine lv_astore (lv' := [(5, .ref x1), (4, .int (nI k)), (3, .int (nI N)), (0, .ref (q 0)), (1, .ref sm), (2, .int x)]) hx hb dL_act_99 hl (by decide) rfl (fun ls hl => ?_)
          refine lv_aload_n hx hb dL_act_101 rfl (lv_at hl 4 rfl) ?_
          refine lv_aload_n hx hb dL_act_102 rfl (lv_at hl 4 rfl) ?_
          refine S0.gL hF hX kf_RL_9 dL_act_103 ?_
          refine lv_aload hx hb dL_act_106 (lv_at hl 0 rfl) ?_
          have hlX := fun (q : Nat) (h9 : sown sm wd lg a N q) => hX.lt h9
          have hlC := fun (z : Nat) (h9 : own 10 q z) => C0.lt hC h9
          have hlx := h_x1.lt
          have hsz9 := hS.1
          refine wSr (mc := 1) (ms := 17) (As := [.ref lg, .ref x1]) (rest := [.ref sm]) hF (mX1_with (v0 := x1) (g0 := (six (nI e1 - 3) (nI (l1 + 1)) (nI j1) 0 0 0)) (show N < 16 by omega)) XWi.mv (fun _ _ => YQ.mv) ⟨hX, h_x1, rfl⟩ jyX1_with kl_RL_21 ⟨rfl, rfl⟩ ⟨Nat.le_of_ble_eq_true rfl, Nat.le_of_ble_eq_true rfl⟩ rfl hl.1 rfl (Nat.le_of_ble_eq_true rfl) ⟨by show _ + 1 ≤ 3; omega, by show _ + 17 ≤ 24; omega⟩ hS (fun _ _ h => h.elim) (fun _ h => h.elim) dL_act_108 (fun u9 x2 H locs hp9 hB9 hz hk hS => ?_)
          have ho : ∀ q : Nat, q < _ → H[q]? = _ := fun q h9 => hk q h9 (fun h => h)
          have hX := hX.upK ho
          have hC := hC.upK ho
          have h_x1 := h_x1.upK ho
          have hQ9 := hB9.1
          have nX_x2 : ∀ q : Nat, sown sm wd lg a N q → q ≠ x2 := fun q h9 => Nat.ne_of_lt (Nat.lt_of_lt_of_le (hlX q h9) hB9.2)
          have nC_x2 : ∀ z : Nat, own 10 q z → z ≠ x2 := fun z h9 => Nat.ne_of_lt (Nat.lt_of_lt_of_le (hlC z h9) hB9.2)
          have nz9 : x1 ≠ x2 := Nat.ne_of_lt (Nat.lt_of_lt_of_le hlx hB9.2)
          have hAz : B ≤ x2 := Nat.le_trans (Nat.le_trans hB hsz9) hB9.2
          have hap2b := apG hap2 (Nat.le_trans hB hA_x1) hAz
          have hdisb := disG hdis nC_x1 nC_x2
          refine S0.stG hF hX hS (hap2 _ (Or.inl rfl)) h_x1 hQ9 nX_x1 nX_x2 nz9 (by omega) kf_RL_9 dL_act_111 (fun H locs hX hz oq hS => ?_)
          have hC := hC.kept (fun q h9 => oq q (fun e => hdis q h9 (Or.inl e)))
          have h_x1 := h_x1.k (oq _ (Ne.symm (nX_x1 _ (Or.inl rfl))))
          refine lv_aload_n hx hb dL_act_114 rfl (lv_at hl 4 rfl) ?_
          refine lv_iconst (v := (b2i false)) hx hb dL_act_115 (by decide) ?_
          have hsw := hap2b
          refine wVv (mc := 0) (ms := 0) (As := [.int (b2i false)]) (rest := []) hF (mX1_sing ((addV v N (nI e1 - 3) (nI (l1 + 1)) (nI j1)) 0) (ra_T _ _ _) false) S0.mv (fun _ => S0.mv) hX hX.rc jyX1_sing kl_RL_25 ⟨rfl, rfl⟩ ⟨Nat.le_of_ble_eq_true rfl, Nat.le_of_ble_eq_true rfl⟩ rfl hl.1 rfl (Nat.le_of_ble_eq_true rfl) ⟨by show _ + 0 ≤ 3; omega, by show _ + 0 ≤ 24; omega⟩ hS (fun q _ h => hap2b q (Or.inr (Or.inr (Or.inr h)))) (fun q h => hap2b q (Or.inr (Or.inr (Or.inr h)))) dL_act_116 (fun u8 H locs hp9 hB9 hz hk hS => ?_)
          have hC := C0.kept hC (fun z h9 => hk z (C0.lt hC h9) (fun h8 => hdisb z h9 (Or.inr (Or.inr (Or.inr h8)))))
          have hX := S0.cg hB9 (wv2 := ((addV v N (nI e1 - 3) (nI (l1 + 1)) (nI j1)) 3)) (r2 := (rowV (addV v N (nI e1 - 3) (nI (l1 + 1)) (nI j1)) st (va_up mk N false))) (fun _ _ => by rw [addV_3]) (ra_row (addV_ok hinv.1 (by omega) he1_ hj1_))
          have h_x1 : IA cyI x1 6 ((rowV (addV v N (nI e1 - 3) (nI (l1 + 1)) (nI j1)) st (va_up mk N false)) N) H := by have h9 := hX.1.2.2.2 N (by omega); rw [up_n] at h9; exact h9
          refine lv_aload_n hx hb dL_act_119 rfl (lv_at hl 3 rfl) ?_
          refine lv_aload hx hb dL_act_120 (lv_at hl 0 rfl) ?_
          refine lv_iconst (v := 0) hx hb dL_act_122 (by decide) ?_
          refine ldI hF hX.2.1 h_x1 0 (by decide) (by decide) rfl dL_act_123 ?_
          refine topI (show (((rowV (addV v N (nI e1 - 3) (nI (l1 + 1)) (nI j1)) st (va_up mk N false)) N) 0) = nI e1 - 3 from by show addV _ _ _ _ _ 0 N = _; exact addV_0 _ _ _) ?_
          refine lv_aload hx hb dL_act_124 (lv_at hl 0 rfl) ?_
          refine lv_iconst (v := 1) hx hb dL_act_126 (by decide) ?_
          refine ldI hF hX.2.1 h_x1 1 (by decide) (by decide) rfl dL_act_127 ?_
          refine topI (show (((rowV (addV v N (nI e1 - 3) (nI (l1 + 1)) (nI j1)) st (va_up mk N false)) N) 1) = nI (l1 + 1) from by show addV _ _ _ _ _ 1 N = _; exact addV_1 _ _ _) ?_
          refine lv_aload hx hb dL_act_128 (lv_at hl 0 rfl) ?_
          refine lv_iconst (v := 2) hx hb dL_act_130 (by decide) ?_
          refine ldI hF hX.2.1 h_x1 2 (by decide) (by decide) rfl dL_act_131 ?_
          refine topI (show (((rowV (addV v N (nI e1 - 3) (nI (l1 + 1)) (nI j1)) st (va_up mk N false)) N) 2) = nI j1 from by show addV _ _ _ _ _ 2 N = _; exact addV_2 _ _ _) ?_
          refine wVi (mc := 0) (ms := 0) (As := [.int (nI e1 - 3), .int (nI (l1 + 1)), .int (nI j1)]) (rest := []) hF (mX0_addLeg hinv.1 hde e1 j1 (nI (l1 + 1)) he1_ (lenL hl1_).1 (lenL hl1_).2 hj1_ (by omega)) (Mv.and C0.mv ST.mv) (fun _ => C0.mv) ⟨hC, (ST.narrow (ST.kept hZ0 hS.2.1) hap1)⟩ (C0.rc hC) jyX0_addLeg kl_RL_29 ⟨rfl, rfl⟩ ⟨Nat.le_of_ble_eq_true rfl, Nat.le_of_ble_eq_true rfl⟩ rfl hl.1 rfl (Nat.le_of_ble_eq_true rfl) ⟨by show _ + 0 ≤ 3; omega, by show _ + 0 ≤ 24; omega⟩ hS (fun z _ h => hap1 z h) (fun z h => hap1 z h) dL_act_132 (fun r9 u9 H locs hp9 hB9 hz hk hS => ?_)
          have hX := S0.kept hX (fun z h9 => hk z (S0.lt hX h9) (fun h8 => hdisb z h8 h9))
          have hC := hB9
          rw [hp9.1]
          refine lv_iload_n hx hb dL_act_135 rfl (lv_at hl 2 rfl) ?_
          refine lv_icmp_ne (tgt := 143) hx hb dL_act_136 (by decide) (fun c136 => ?_) (fun c136 => ?_)
          · have c136n : ¬ N = N := fun h9 => c136 ((nI_eq (a := N) (b := N) (by omega) (by omega)).mpr h9)
            exact absurd rfl c136
          · have c136n : N = N := (nI_eq (a := N) (b := N) (by omega) (by omega)).mp c136
            refine lv_iconst (v := 1) hx hb dL_act_139 (by decide) ?_
            refine lv_goto (tgt := 144) hx hb dL_act_140 (by decide) ?_
            refine W.widen (k := 3) (n := 24) (by omega) (by omega) ?_
            exact W.zret hx hb hr rfl (fun t ht hW => ⟨⟨_, (), rfl, rfl, wEnd LW.mv ⟨_, _, _, _, _, _, _, ⟨hC, hX⟩, ⟨(hinv.add (by omega) he1_ hl1_ hj1_), hp9.2⟩, hap1, hap2b, hdisb⟩ ht hW⟩, hS.F ht⟩) hS.2.2 dL_act_144
        · have c40n : N = 16 := (nI_eq (a := N) (b := 16) (by omega) (by omega)).mp c40
          refine lv_iconst (v := 1) hx hb dL_act_43 (by decide) ?_
          refine W.widen (k := 3) (n := 24) (by omega) (by omega) ?_
          exact W.zret hx hb hr rfl (fun t ht hW => ⟨⟨_, (), rfl, rfl, wEnd LW.mv ⟨_, _, _, _, _, _, _, ⟨hC, hX⟩, ⟨hinv, hde⟩, hap1, hap2, hdis⟩ ht hW⟩, hS.F ht⟩) hS.2.2 dL_act_44
  · have c7n : N = 0 := (nI_eq (a := N) (b := 0) (by omega) (by omega)).mp c7
    refine lv_iconst (v := (nI 0)) hx hb dL_act_10 (by decide) ?_
    refine lv_goto (tgt := 21) hx hb dL_act_11 (by decide) ?_
    refine lv_istore (lv' := [(4, .int (nI 0)), (3, .int (nI N)), (0, .ref (q 0)), (1, .ref sm), (2, .int x)]) hx hb dL_act_21 hl (by decide) rfl (fun ls hl => ?_)
    refine lv_iload_n hx hb dL_act_23 rfl (lv_at hl 1 rfl) ?_
    refine lv_if_eq (tgt := 37) hx hb dL_act_24 (by decide) (fun c24 => ?_) (fun c24 => ?_)
    · have c24n : N = 0 := (nI_eq (a := N) (b := 0) (by omega) (by omega)).mp c24
      refine lv_iload_n hx hb dL_act_37 rfl (lv_at hl 1 rfl) ?_
      refine lv_bipush (v := 16) hx hb dL_act_38 (by decide) ?_
      refine lv_icmp_ne (tgt := 45) hx hb dL_act_40 (by decide) (fun c40 => ?_) (fun c40 => ?_)
      · have c40n : ¬ N = 16 := fun h9 => c40 ((nI_eq (a := N) (b := 16) (by omega) (by omega)).mpr h9)
        refine lv_bipush (v := 6) hx hb dL_act_45 (by decide) ?_
        refine newIr hF hX.2.1 hS 6 (by decide) rfl (by show _ ≤ 3; omega) (by show _ ≤ 24; omega) dL_act_47 (fun x1 H hq h_x1 hz ho hS1 => ?_)
        have nX_x1 : ∀ q : Nat, sown sm wd lg a N q → q ≠ x1 := fun q h9 => by rw [hq]; exact Nat.ne_of_lt (hX.lt h9)
        have nC_x1 : ∀ z : Nat, own 10 q z → z ≠ x1 := fun z h9 => by rw [hq]; exact Nat.ne_of_lt (C0.lt hC h9)
        have hA_x1 : s.heap.size ≤ x1 := by rw [hq]; exact hS.1
        have hS := hS1
        have hX := hX.upK ho
        have hC := hC.upK ho
        refine lv_dup hx hb dL_act_49 rfl ?_
        refine lv_iconst (v := 0) hx hb dL_act_50 (by decide) ?_
        refine lv_iload_n hx hb dL_act_51 rfl (lv_at hl 4 rfl) ?_
        refine lv_iconst (v := 4) hx hb dL_act_52 (by decide) ?_
        refine lv_ishr hx hb dL_act_53 ?_
        refine lv_bipush (v := (nI 7)) hx hb dL_act_54 (by decide) ?_
        refine cSi (As := [.int (x >>> (4 &&& 31)), .int (nI 7)]) (rest := [.int 0, .ref x1, .ref x1]) hF (mL_below (x >>> (4 &&& 31)) 7 (by omega) (by omega)) Mv.const trivial jyL_below kl_RL_15 ⟨rfl, rfl⟩ ⟨Nat.le_of_ble_eq_true rfl, Nat.le_of_ble_eq_true rfl⟩ rfl hl.1 rfl (Nat.le_of_ble_eq_true rfl) ⟨(by show _ ≤ 3; omega), (by show _ ≤ 24; omega)⟩ dL_act_56 (fun r9 hr9 => ?_)
        obtain ⟨e1, he1_, hr9⟩ := hr9
        subst hr9
        refine lv_iconst (v := 3) hx hb dL_act_59 (by decide) ?_
        refine lv_isub hx hb dL_act_60 ?_
        refine stI hF hX.2.1 h_x1 hS (Nat.le_trans hB hA_x1) 0 (by decide) (by decide) rfl dL_act_61 (fun H locs h_x1 hz oq hS => ?_)
        have hX := hX.kept (fun q h9 => oq q (nX_x1 q h9))
        have hC := hC.kept (fun q h9 => oq q (nC_x1 q h9))
        refine lv_dup hx hb dL_act_62 rfl ?_
        refine lv_iconst (v := 1) hx hb dL_act_63 (by decide) ?_
        refine lv_iconst (v := 1) hx hb dL_act_64 (by decide) ?_
        refine lv_iload_n hx hb dL_act_65 rfl (lv_at hl 4 rfl) ?_
        refine lv_bipush (v := 6) hx hb dL_act_66 (by decide) ?_
        refine lv_ishr hx hb dL_act_68 ?_
        refine lv_bipush (v := (nI 9)) hx hb dL_act_69 (by decide) ?_
        refine cSi (As := [.int (x >>> (6 &&& 31)), .int (nI 9)]) (rest := [.int 1, .int 1, .ref x1, .ref x1]) hF (mL_below (x >>> (6 &&& 31)) 9 (by omega) (by omega)) Mv.const trivial jyL_below kl_RL_15 ⟨rfl, rfl⟩ ⟨Nat.le_of_ble_eq_true rfl, Nat.le_of_ble_eq_true rfl⟩ rfl hl.1 rfl (Nat.le_of_ble_eq_true rfl) ⟨(by show _ ≤ 3; omega), (by show _ ≤ 24; omega)⟩ dL_act_71 (fun r9 hr9 => ?_)
        obtain ⟨l1, hl1_, hr9⟩ := hr9
        subst hr9
        refine lv_iadd hx hb dL_act_74 ?_
        refine topI (show (1 + (nI l1)) = nI (l1 + 1) from nI_1l l1) ?_
        refine stI hF hX.2.1 h_x1 hS (Nat.le_trans hB hA_x1) 1 (by decide) (by decide) rfl dL_act_75 (fun H locs h_x1 hz oq hS => ?_)
        have hX := hX.kept (fun q h9 => oq q (nX_x1 q h9))
        have hC := hC.kept (fun q h9 => oq q (nC_x1 q h9))
        refine lv_dup hx hb dL_act_76 rfl ?_
        refine lv_iconst (v := 2) hx hb dL_act_77 (by decide) ?_
        refine lv_iload_n hx hb dL_act_78 rfl (lv_at hl 4 rfl) ?_
        refine lv_iconst (v := 5) hx hb dL_act_79 (by decide) ?_
        refine lv_ishr hx hb dL_act_80 ?_
        refine lv_bipush (v := (nI 10)) hx hb dL_act_81 (by decide) ?_
        refine cSi (As := [.int (x >>> (5 &&& 31)), .int (nI 10)]) (rest := [.int 2, .ref x1, .ref x1]) hF (mL_below (x >>> (5 &&& 31)) 10 (by omega) (by omega)) Mv.const trivial jyL_below kl_RL_15 ⟨rfl, rfl⟩ ⟨Nat.le_of_ble_eq_true rfl, Nat.le_of_ble_eq_true rfl⟩ rfl hl.1 rfl (Nat.le_of_ble_eq_true rfl) ⟨(by show _ ≤ 3; omega), (by show _ ≤ 24; omega)⟩ dL_act_83 (fun r9 hr9 => ?_)
        obtain ⟨j1, hj1_, hr9⟩ := hr9
        subst hr9
        refine stI hF hX.2.1 h_x1 hS (Nat.le_trans hB hA_x1) 2 (by decide) (by decide) rfl dL_act_86 (fun H locs h_x1 hz oq hS => ?_)
        have hX := hX.kept (fun q h9 => oq q (nX_x1 q h9))
        have hC := hC.kept (fun q h9 => oq q (nC_x1 q h9))
        refine lv_dup hx hb dL_act_87 rfl ?_
        refine lv_iconst (v := 3) hx hb dL_act_88 (by decide) ?_
        refine lv_iconst (v := 0) hx hb dL_act_89 (by decide) ?_
        refine stI hF hX.2.1 h_x1 hS (Nat.le_trans hB hA_x1) 3 (by decide) (by decide) rfl dL_act_90 (fun H locs h_x1 hz oq hS => ?_)
        have hX := hX.kept (fun q h9 => oq q (nX_x1 q h9))
        have hC := hC.kept (fun q h9 => oq q (nC_x1 q h9))
        refine lv_dup hx hb dL_act_91 rfl ?_
        refine lv_iconst (v := 4) hx hb dL_act_92 (by decide) ?_
        refine lv_iconst (v := 0) hx hb dL_act_93 (by decide) ?_
        refine stI hF hX.2.1 h_x1 hS (Nat.le_trans hB hA_x1) 4 (by decide) (by decide) rfl dL_act_94 (fun H locs h_x1 hz oq hS => ?_)
        have hX := hX.kept (fun q h9 => oq q (nX_x1 q h9))
        have hC := hC.kept (fun q h9 => oq q (nC_x1 q h9))
        refine lv_dup hx hb dL_act_95 rfl ?_
        refine lv_iconst (v := 5) hx hb dL_act_96 (by decide) ?_
        refine lv_iconst (v := 0) hx hb dL_act_97 (by decide) ?_
        refine stI hF hX.2.1 h_x1 hS (Nat.le_trans hB hA_x1) 5 (by decide) (by decide) rfl dL_act_98 (fun H locs h_x1 hz oq hS => ?_)
        have hX := hX.kept (fun q h9 => oq q (nX_x1 q h9))
        have hC := hC.kept (fun q h9 => oq q (nC_x1 q h9))
        have h_x1 := six_c h_x1
        refine lv_astore (lv' := [(5, .ref x1), (4, .int (nI 0)), (3, .int (nI N)), (0, .ref (q 0)), (1, .ref sm), (2, .int x)]) hx hb dL_act_99 hl (by decide) rfl (fun ls hl => ?_)
        refine lv_aload_n hx hb dL_act_101 rfl (lv_at hl 4 rfl) ?_
        refine lv_aload_n hx hb dL_act_102 rfl (lv_at hl 4 rfl) ?_
        refine S0.gL hF hX kf_RL_9 dL_act_103 ?_
        refine lv_aload hx hb dL_act_106 (lv_at hl 0 rfl) ?_
        have hlX := fun (q : Nat) (h9 : sown sm wd lg a N q) => hX.lt h9
        have hlC := fun (z : Nat) (h9 : own 10 q z) => C0.lt hC h9
        have hlx := h_x1.lt
        have hsz9 := hS.1
        refine wSr (mc := 1) (ms := 17) (As := [.ref lg, .ref x1]) (rest := [.ref sm]) hF (mX1_with (v0 := x1) (g0 := (six (nI e1 - 3) (nI (l1 + 1)) (nI j1) 0 0 0)) (show N < 16 by omega)) XWi.mv (fun _ _ => YQ.mv) ⟨hX, h_x1, rfl⟩ jyX1_with kl_RL_21 ⟨rfl, rfl⟩ ⟨Nat.le_of_ble_eq_true rfl, Nat.le_of_ble_eq_true rfl⟩ rfl hl.1 rfl (Nat.le_of_ble_eq_true rfl) ⟨by show _ + 1 ≤ 3; omega, by show _ + 17 ≤ 24; omega⟩ hS (fun _ _ h => h.elim) (fun _ h => h.elim) dL_act_108 (fun u9 x2 H locs hp9 hB9 hz hk hS => ?_)
        have ho : ∀ q : Nat, q < _ → H[q]? = _ := fun q h9 => hk q h9 (fun h => h)
        have hX := hX.upK ho
        have hC := hC.upK ho
        have h_x1 := h_x1.upK ho
        have hQ9 := hB9.1
        have nX_x2 : ∀ q : Nat, sown sm wd lg a N q → q ≠ x2 := fun q h9 => Nat.ne_of_lt (Nat.lt_of_lt_of_le (hlX q h9) hB9.2)
        have nC_x2 : ∀ z : Nat, own 10 q z → z ≠ x2 := fun z h9 => Nat.ne_of_lt (Nat.lt_of_lt_of_le (hlC z h9) hB9.2)
        have nz9 : x1 ≠ x2 := Nat.ne_of_lt (Nat.lt_of_lt_of_le hlx hB9.2)
        have hAz : B ≤ x2 := Nat.le_trans (Nat.le_trans hB hsz9) hB9.2
        have hap2b := apG hap2 (Nat.le_trans hB hA_x1) hAz
        have hdisb := disG hdis nC_x1 nC_x2
        refine S0.stG hF hX hS (hap2 _ (Or.inl rfl)) h_x1 hQ9 nX_x1 nX_x2 nz9 (by omega) kf_RL_9 dL_act_111 (fun H locs hX hz oq hS => ?_)
        have hC := hC.kept (fun q h9 => oq q (fun e => hdis q h9 (Or.inl e)))
        have h_x1 := h_x1.k (oq _ (Ne.symm (nX_x1 _ (Or.inl rfl))))
        refine lv_aload_n hx hb dL_act_114 rfl (lv_at hl 4 rfl) ?_
        refine lv_iconst (v := (b2i false)) hx hb dL_act_115 (by decide) ?_
        have hsw := hap2b
        refine wVv (mc := 0) (ms := 0) (As := [.int (b2i false)]) (rest := []) hF (mX1_sing ((addV v N (nI e1 - 3) (nI (l1 + 1)) (nI j1)) 0) (ra_T _ _ _) false) S0.mv (fun _ => S0.mv) hX hX.rc jyX1_sing kl_RL_25 ⟨rfl, rfl⟩ ⟨Nat.le_of_ble_eq_true rfl, Nat.le_of_ble_eq_true rfl⟩ rfl hl.1 rfl (Nat.le_of_ble_eq_true rfl) ⟨by show _ + 0 ≤ 3; omega, by show _ + 0 ≤ 24; omega⟩ hS (fun q _ h => hap2b q (Or.inr (Or.inr (Or.inr h)))) (fun q h => hap2b q (Or.inr (Or.inr (Or.inr h)))) dL_act_116 (fun u8 H locs hp9 hB9 hz hk hS => ?_)
        have hC := C0.kept hC (fun z h9 => hk z (C0.lt hC h9) (fun h8 => hdisb z h9 (Or.inr (Or.inr (Or.inr h8)))))
        have hX := S0.cg hB9 (wv2 := ((addV v N (nI e1 - 3) (nI (l1 + 1)) (nI j1)) 3)) (r2 := (rowV (addV v N (nI e1 - 3) (nI (l1 + 1)) (nI j1)) st (va_up mk N false))) (fun _ _ => by rw [addV_3]) (ra_row (addV_ok hinv.1 (by omega) he1_ hj1_))
        have h_x1 : IA cyI x1 6 ((rowV (addV v N (nI e1 - 3) (nI (l1 + 1)) (nI j1)) st (va_up mk N false)) N) H := by have h9 := hX.1.2.2.2 N (by omega); rw [up_n] at h9; exact h9
        refine lv_aload_n hx hb dL_act_119 rfl (lv_at hl 3 rfl) ?_
        refine lv_aload hx hb dL_act_120 (lv_at hl 0 rfl) ?_
        refine lv_iconst (v := 0) hx hb dL_act_122 (by decide) ?_
        refine ldI hF hX.2.1 h_x1 0 (by decide) (by decide) rfl dL_act_123 ?_
        refine topI (show (((rowV (addV v N (nI e1 - 3) (nI (l1 + 1)) (nI j1)) st (va_up mk N false)) N) 0) = nI e1 - 3 from by show addV _ _ _ _ _ 0 N = _; exact addV_0 _ _ _) ?_
        refine lv_aload hx hb dL_act_124 (lv_at hl 0 rfl) ?_
        refine lv_iconst (v := 1) hx hb dL_act_126 (by decide) ?_
        refine ldI hF hX.2.1 h_x1 1 (by decide) (by decide) rfl dL_act_127 ?_
        refine topI (show (((rowV (addV v N (nI e1 - 3) (nI (l1 + 1)) (nI j1)) st (va_up mk N false)) N) 1) = nI (l1 + 1) from by show addV _ _ _ _ _ 1 N = _; exact addV_1 _ _ _) ?_
        refine lv_aload hx hb dL_act_128 (lv_at hl 0 rfl) ?_
        refine lv_iconst (v := 2) hx hb dL_act_130 (by decide) ?_
        refine ldI hF hX.2.1 h_x1 2 (by decide) (by decide) rfl dL_act_131 ?_
        refine topI (show (((rowV (addV v N (nI e1 - 3) (nI (l1 + 1)) (nI j1)) st (va_up mk N false)) N) 2) = nI j1 from by show addV _ _ _ _ _ 2 N = _; exact addV_2 _ _ _) ?_
        refine wVi (mc := 0) (ms := 0) (As := [.int (nI e1 - 3), .int (nI (l1 + 1)), .int (nI j1)]) (rest := []) hF (mX0_addLeg hinv.1 hde e1 j1 (nI (l1 + 1)) he1_ (lenL hl1_).1 (lenL hl1_).2 hj1_ (by omega)) (Mv.and C0.mv ST.mv) (fun _ => C0.mv) ⟨hC, (ST.narrow (ST.kept hZ0 hS.2.1) hap1)⟩ (C0.rc hC) jyX0_addLeg kl_RL_29 ⟨rfl, rfl⟩ ⟨Nat.le_of_ble_eq_true rfl, Nat.le_of_ble_eq_true rfl⟩ rfl hl.1 rfl (Nat.le_of_ble_eq_true rfl) ⟨by show _ + 0 ≤ 3; omega, by show _ + 0 ≤ 24; omega⟩ hS (fun z _ h => hap1 z h) (fun z h => hap1 z h) dL_act_132 (fun r9 u9 H locs hp9 hB9 hz hk hS => ?_)
        have hX := S0.kept hX (fun z h9 => hk z (S0.lt hX h9) (fun h8 => hdisb z h8 h9))
        have hC := hB9
        rw [hp9.1]
        refine lv_iload_n hx hb dL_act_135 rfl (lv_at hl 2 rfl) ?_
        refine lv_icmp_ne (tgt := 143) hx hb dL_act_136 (by decide) (fun c136 => ?_) (fun c136 => ?_)
        · have c136n : ¬ N = N := fun h9 => c136 ((nI_eq (a := N) (b := N) (by omega) (by omega)).mpr h9)
          exact absurd rfl c136
        · have c136n : N = N := (nI_eq (a := N) (b := N) (by omega) (by omega)).mp c136
          refine lv_iconst (v := 1) hx hb dL_act_139 (by decide) ?_
          refine lv_goto (tgt := 144) hx hb dL_act_140 (by decide) ?_
          refine W.widen (k := 3) (n := 24) (by omega) (by omega) ?_
          exact W.zret hx hb hr rfl (fun t ht hW => ⟨⟨_, (), rfl, rfl, wEnd LW.mv ⟨_, _, _, _, _, _, _, ⟨hC, hX⟩, ⟨(hinv.add (by omega) he1_ hl1_ hj1_), hp9.2⟩, hap1, hap2b, hdisb⟩ ht hW⟩, hS.F ht⟩) hS.2.2 dL_act_144
      · have c40n : N = 16 := (nI_eq (a := N) (b := 16) (by omega) (by omega)).mp c40
        refine lv_iconst (v := 1) hx hb dL_act_43 (by decide) ?_
        refine W.widen (k := 3) (n := 24) (by omega) (by omega) ?_
        exact W.zret hx hb hr rfl (fun t ht hW => ⟨⟨_, (), rfl, rfl, wEnd LW.mv ⟨_, _, _, _, _, _, _, ⟨hC, hX⟩, ⟨hinv, hde⟩, hap1, hap2, hdis⟩ ht hW⟩, hS.F ht⟩) hS.2.2 dL_act_44
    · have c24n : ¬ N = 0 := fun h9 => c24 ((nI_eq (a := N) (b := 0) (by omega) (by omega)).mpr h9)
      exact absurd c7n c24n
end P32
