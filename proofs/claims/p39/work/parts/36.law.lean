/-! THE LAW -/
def A9 (s : State) : Nat → Prop := fun a => s.heap.size ≤ a
section LAWQ
variable {p : Program} {l : Launch} {e : Env} {R : Room} {s : State} {m : MethodId} {args : Array Value} {below : List Frame} {meth : Method} {c : Code} {H : Heap} {locs : List Loc} {cells slots : Nat} {Q : State → Prop}
theorem cutR {pc pc2 : Nat} {ls : Array Slot} {st0 st2 : List Value} (I : Array Slot → Prop) (J : ∀ ls : Array Slot, I ls → W p l e R s m args below meth c H locs cells slots Q (F0 m pc2 ls st2)) (K : (∀ ls : Array Slot, I ls → W p l e R s m args below meth c H locs cells slots Q (F0 m pc2 ls st2)) → W p l e R s m args below meth c H locs cells slots Q (F0 m pc ls st0)) : W p l e R s m args below meth c H locs cells slots Q (F0 m pc ls st0) := K J
end LAWQ
section LAWM
variable {N M k e j x : Nat} {st : Int32} {v : Nat → Nat → Int32} {mk mk2 : Nat → Bool}
theorem bw_lt (v : Nat → Nat → Int32) (st : Int32) (N j : Nat) : bwd v st N j < 10 := Nat.lt_succ_of_le (amin_le (k := 9))
theorem bw_le (v : Nat → Nat → Int32) (st : Int32) (N j : Nat) {i : Nat} (hi : i ≤ 9) : unW v st N j (nI (bwd v st N j)) ≤ unW v st N j (nI i) := amin_all (f := fun x => unW v st N j (nI x)) hi
theorem bw_first (v : Nat → Nat → Int32) (st : Int32) (N j : Nat) {i : Nat} (hi : i < bwd v st N j) : ¬ unW v st N j (nI i) = unW v st N j (nI (bwd v st N j)) := amin_first (f := fun x => unW v st N j (nI x)) hi
theorem bst_b (v : Nat → Nat → Int32) (N : Nat) : 1 ≤ bst v N ∧ bst v N ≤ 4 := ⟨Nat.succ_le_succ (Nat.zero_le _), Nat.succ_le_succ (amin_le (k := 3))⟩
theorem bs_le (h : Ok N st v) : unm v (v 3) (nI (amin (fun x => unm v (v 3) (nI (x + 1)) N) 3 + 1)) N ≤ ctB (umP v (v 3) st) N := by
  obtain ⟨s, hs, es⟩ := h.2.1
  have h9 := amin_all (f := fun x => unm v (v 3) (nI (x + 1)) N) (n := 3) (i := s) (by omega)
  rw [es]
  exact h9
theorem md_cnt {c : Nat} (hN : N ≤ 16) (h : c + cN (amb v st mk2) N = 0 + cN (amb v st mk) N) : nI c = ctB (amb v st mk) N - ctB (amb v st mk2) N := by
  have h1 := cN_le (amb v st mk) N
  rw [ct_N, ct_N, pk_sub (by omega)]
  congr 1
  omega
def mixR (v : Nat → Nat → Int32) (st : Int32) (mk mk2 : Nat → Bool) (k : Nat) (i : Nat) : Nat → Int32 := rowV v st (fun z => if z < k then mk2 z else mk z) i
theorem mix_s {r : Nat → Nat → Int32} (h : ∀ i : Nat, i < N → ∀ b : Nat, b < 6 → r i b = mixR v st mk mk2 k i b) : ∀ i : Nat, i < N → ∀ b : Nat, b < 6 → va_up r k (upd (r k) 5 (b2i (mk2 k))) i b = mixR v st mk mk2 (k + 1) i b := by
  intro i hi b hb
  have e9 : ∀ b : Nat, b < 5 → mixR v st mk mk2 k i b = mixR v st mk mk2 (k + 1) i b := by
    intro b hb
    match b, hb with
    | 0, _ => rfl
    | 1, _ => rfl
    | 2, _ => rfl
    | 3, _ => rfl
    | 4, _ => rfl
  by_cases hik : i = k
  · subst hik
    by_cases hb5 : b = 5
    · subst hb5
      simp only [va_up, upd, if_pos, mixR, rowV]
      simp
    · rw [show va_up r i (upd (r i) 5 (b2i (mk2 i))) i b = r i b by simp [va_up, upd, hb5], h i hi b hb]
      exact e9 b (by omega)
  · rw [show va_up r k (upd (r k) 5 (b2i (mk2 k))) i b = r i b by simp [va_up, hik], h i hi b hb]
    by_cases hb5 : b = 5
    · subst hb5
      show b2i (if i < k then mk2 i else mk i) = b2i (if i < k + 1 then mk2 i else mk i)
      by_cases hl : i < k
      · rw [if_pos hl, if_pos (by omega)]
      · rw [if_neg hl, if_neg (by omega)]
    · exact e9 b (by omega)
theorem mix_0 : ∀ i : Nat, i < N → ∀ b : Nat, b < 6 → rowV v st mk i b = mixR v st mk mk2 0 i b := fun i hi b hb => rowV_mk (N := N) (fun z _ => by simp) i hi b hb
theorem mix_N {r : Nat → Nat → Int32} (h : ∀ i : Nat, i < N → ∀ b : Nat, b < 6 → r i b = mixR v st mk mk2 N i b) : ∀ i : Nat, i < N → ∀ b : Nat, b < 6 → r i b = rowV v st mk2 i b := fun i hi b hb => (h i hi b hb).trans (rowV_mk (N := N) (fun z hz => by simp [hz]) i hi b hb)
end LAWM

section P36
variable {p : Program} {l : Launch} {ev : Env} {s : State} {m : MethodId} {below : List Frame} {meth : Method} {c : Code} {cells slots : Nat} {Q : State → Prop}
variable {D : va_G} {cyI cyZ cyA : ClassId} {q : Nat → Nat} {sm wa lg N t1 t2 sb L : Nat} {a : Nat → Nat} {st t9 y0 : Int32} {xs : Nat → Int32} {v w : Nat → Nat → Int32} {mk : Nat → Bool} {H : Heap} {locs : List Loc} {ls : Array Slot}
set_option maxHeartbeats 32000000 in
set_option maxRecDepth 100000 in
theorem law_legs (hF : CallFix p m c cL_law 27 s #[Value.ref sb] wA RL) (hcs : cells ≤ 5000 ∧ slots ≤ 50000) (hC : C0 D cyI cyZ q (nI N) st v mk w s H) (hX : S0 D cyI cyA sm wa lg a N st (v 3) (rowV v st mk) s H) (hinv : Inv N st v mk) (hde : Der N st v w) (KK : ∀ ls : Array Slot, lv_has ls 27 [(0, .ref sb), (1, .ref (q 0)), (2, .ref sm), (3, .int t9), (4, .int y0), (5, .long (dgst v st mk N)), (7, .int (nI N)), (11, .int (ctB (amb v st mk) N)), (12, .int (ctB (umP v (v 3) st) N)), (13, .int (ctB (fold1 v st) N)), (14, .int (sumI (v 1) N)), (15, .int (fam v st mk N)), (16, .long (wys v st mk N))] → W p l ev room_1 s m #[Value.ref sb] below meth c H locs cells slots Q (F0 m 508 ls [])) (hl : lv_has ls 27 [(0, .ref sb), (1, .ref (q 0)), (2, .ref sm), (3, .int t9), (4, .int y0), (5, .long (dgst v st mk N)), (7, .int (nI N)), (8, .int st), (9, .int (nt (v 0) st 0)), (10, .int (hd (v 0) 0)), (11, .int (ctB (amb v st mk) 0)), (12, .int (ctB (umP v (v 3) st) 0)), (13, .int (ctB (fold1 v st) 0)), (14, .int (sumI (v 1) 0)), (15, .int (fam v st mk 0)), (16, .long (wys v st mk 0)), (18, .int (nI 0))]) : W p l ev room_1 s m #[Value.ref sb] below meth c H locs cells slots Q (F0 m 128 ls []) := by
  obtain ⟨hx, hb, hml, hown, hts⟩ := id hF
  have hn16 : N ≤ 16 := hinv.1.1
  refine lpW (σ := Nat) (fun k ls => (k ≤ N) ∧ lv_has ls 27 [(0, .ref sb), (1, .ref (q 0)), (2, .ref sm), (3, .int t9), (4, .int y0), (5, .long (dgst v st mk N)), (7, .int (nI N)), (8, .int st), (9, .int (nt (v 0) st k)), (10, .int (hd (v 0) k)), (11, .int (ctB (amb v st mk) k)), (12, .int (ctB (umP v (v 3) st) k)), (13, .int (ctB (fold1 v st) k)), (14, .int (sumI (v 1) k)), (15, .int (fam v st mk k)), (16, .long (wys v st mk k)), (18, .int (nI k))]) (fun k => N - k) (fun k ls hI ih1 => ?_) (0) ⟨Nat.zero_le _, lv_sub hl [0, 1, 2, 3, 4, 5, 6, 7, 8, 9, 10, 11, 12, 13, 14, 15, 16] rfl⟩
  obtain ⟨hk1, hl⟩ := hI
  refine lv_iload hx hb dL_law_128 (lv_at hl 16 rfl) ?_
  refine lv_iload hx hb dL_law_130 (lv_at hl 6 rfl) ?_
  refine lv_icmp_ge (tgt := 508) hx hb dL_law_132 (by decide) (fun c132 => ?_) (fun c132 => ?_)
  · have c132n : N ≤ k := (nI_leI (a := N) (b := k) (by omega) (by omega)).mp c132
    obtain rfl : N = k := by omega
    exact KK ls (lv_sub hl [0, 1, 2, 3, 4, 5, 6, 10, 11, 12, 13, 14, 15] rfl)
  · have c132n : ¬ N ≤ k := fun h9 => c132 ((nI_leI (a := N) (b := k) (by omega) (by omega)).mpr h9)
    refine lv_aload_n hx hb dL_law_135 rfl (lv_at hl 1 rfl) ?_
    refine lv_iload hx hb dL_law_136 (lv_at hl 16 rfl) ?_
    refine cVi (As := [.int (nI k)]) (rest := []) hF (mX0_noteOf hinv.1 hde k (by omega)) C0.mv hC (C0.rc hC) jyX0_noteOf kl_RL_96 ⟨rfl, rfl⟩ ⟨Nat.le_of_ble_eq_true rfl, Nat.le_of_ble_eq_true rfl⟩ rfl hl.1 rfl (Nat.le_of_ble_eq_true rfl) ⟨(by show _ ≤ 600130; omega), (by show _ ≤ 7301080; omega)⟩ dL_law_138 (fun r9 hr9 => ?_)
    subst hr9
    refine lv_istore (lv' := [(19, .int (nt (v 0) st (k + 1))), (0, .ref sb), (1, .ref (q 0)), (2, .ref sm), (3, .int t9), (4, .int y0), (5, .long (dgst v st mk N)), (7, .int (nI N)), (8, .int st), (9, .int (nt (v 0) st k)), (10, .int (hd (v 0) k)), (11, .int (ctB (amb v st mk) k)), (12, .int (ctB (umP v (v 3) st) k)), (13, .int (ctB (fold1 v st) k)), (14, .int (sumI (v 1) k)), (15, .int (fam v st mk k)), (16, .long (wys v st mk k)), (18, .int (nI k))]) hx hb dL_law_141 hl (by decide) rfl (fun ls hl => ?_)
    refine lv_iload hx hb dL_law_143 (lv_at hl 8 rfl) ?_
    refine lv_aload_n hx hb dL_law_145 rfl (lv_at hl 2 rfl) ?_
    refine lv_iload hx hb dL_law_146 (lv_at hl 17 rfl) ?_
    refine cVi (As := [.int (nI k)]) (rest := [.int st]) hF (mX0_turnOf hinv.1 hde k (by omega)) C0.mv hC (C0.rc hC) jyX0_turnOf kl_RL_99 ⟨rfl, rfl⟩ ⟨Nat.le_of_ble_eq_true rfl, Nat.le_of_ble_eq_true rfl⟩ rfl hl.1 rfl (Nat.le_of_ble_eq_true rfl) ⟨(by show _ ≤ 600130; omega), (by show _ ≤ 7301080; omega)⟩ dL_law_148 (fun r9 hr9 => ?_)
    subst hr9
    refine lv_imul hx hb dL_law_151 ?_
    refine lv_istore (lv' := [(20, .int (st * (v 0 k))), (19, .int (nt (v 0) st (k + 1))), (0, .ref sb), (1, .ref (q 0)), (2, .ref sm), (3, .int t9), (4, .int y0), (5, .long (dgst v st mk N)), (7, .int (nI N)), (8, .int st), (9, .int (nt (v 0) st k)), (10, .int (hd (v 0) k)), (11, .int (ctB (amb v st mk) k)), (12, .int (ctB (umP v (v 3) st) k)), (13, .int (ctB (fold1 v st) k)), (14, .int (sumI (v 1) k)), (15, .int (fam v st mk k)), (16, .long (wys v st mk k)), (18, .int (nI k))]) hx hb dL_law_152 hl (by decide) rfl (fun ls hl => ?_)
    refine lv_aload_n hx hb dL_law_154 rfl (lv_at hl 3 rfl) ?_
    refine lv_iload hx hb dL_law_155 (lv_at hl 18 rfl) ?_
    refine cVi (As := [.int (nI k)]) (rest := []) hF (mX0_readings hinv.1 hde k (by omega)) C0.mv hC (C0.rc hC) jyX0_readings kl_RL_102 ⟨rfl, rfl⟩ ⟨Nat.le_of_ble_eq_true rfl, Nat.le_of_ble_eq_true rfl⟩ rfl hl.1 rfl (Nat.le_of_ble_eq_true rfl) ⟨(by show _ ≤ 600130; omega), (by show _ ≤ 7301080; omega)⟩ dL_law_157 (fun r9 hr9 => ?_)
    subst hr9
    refine lv_istore (lv' := [(21, .int (rdn v st k)), (20, .int (st * (v 0 k))), (19, .int (nt (v 0) st (k + 1))), (0, .ref sb), (1, .ref (q 0)), (2, .ref sm), (3, .int t9), (4, .int y0), (5, .long (dgst v st mk N)), (7, .int (nI N)), (8, .int st), (9, .int (nt (v 0) st k)), (10, .int (hd (v 0) k)), (11, .int (ctB (amb v st mk) k)), (12, .int (ctB (umP v (v 3) st) k)), (13, .int (ctB (fold1 v st) k)), (14, .int (sumI (v 1) k)), (15, .int (fam v st mk k)), (16, .long (wys v st mk k)), (18, .int (nI k))]) hx hb dL_law_160 hl (by decide) rfl (fun ls hl => ?_)
    refine lv_iconst (v := 0) hx hb dL_law_162 (by decide) ?_
    refine lv_istore (lv' := [(22, .int 0), (21, .int (rdn v st k)), (20, .int (st * (v 0 k))), (19, .int (nt (v 0) st (k + 1))), (0, .ref sb), (1, .ref (q 0)), (2, .ref sm), (3, .int t9), (4, .int y0), (5, .long (dgst v st mk N)), (7, .int (nI N)), (8, .int st), (9, .int (nt (v 0) st k)), (10, .int (hd (v 0) k)), (11, .int (ctB (amb v st mk) k)), (12, .int (ctB (umP v (v 3) st) k)), (13, .int (ctB (fold1 v st) k)), (14, .int (sumI (v 1) k)), (15, .int (fam v st mk k)), (16, .long (wys v st mk k)), (18, .int (nI k))]) hx hb dL_law_163 hl (by decide) rfl (fun ls hl => ?_)
    refine lv_iconst (v := 0) hx hb dL_law_165 (by decide) ?_
    refine lv_istore (lv' := [(23, .int 0), (22, .int 0), (21, .int (rdn v st k)), (20, .int (st * (v 0 k))), (19, .int (nt (v 0) st (k + 1))), (0, .ref sb), (1, .ref (q 0)), (2, .ref sm), (3, .int t9), (4, .int y0), (5, .long (dgst v st mk N)), (7, .int (nI N)), (8, .int st), (9, .int (nt (v 0) st k)), (10, .int (hd (v 0) k)), (11, .int (ctB (amb v st mk) k)), (12, .int (ctB (umP v (v 3) st) k)), (13, .int (ctB (fold1 v st) k)), (14, .int (sumI (v 1) k)), (15, .int (fam v st mk k)), (16, .long (wys v st mk k)), (18, .int (nI k))]) hx hb dL_law_166 hl (by decide) rfl (fun ls hl => ?_)
    refine lpW (σ := Nat) (fun o ls => (o ≤ 10) ∧ lv_has ls 27 [(0, .ref sb), (1, .ref (q 0)), (2, .ref sm), (3, .int t9), (4, .int y0), (5, .long (dgst v st mk N)), (7, .int (nI N)), (8, .int st), (9, .int (nt (v 0) st k)), (10, .int (hd (v 0) k)), (11, .int (ctB (amb v st mk) k)), (12, .int (ctB (umP v (v 3) st) k)), (13, .int (ctB (fold1 v st) k)), (14, .int (sumI (v 1) k)), (15, .int (fam v st mk k)), (16, .long (wys v st mk k)), (18, .int (nI k)), (19, .int (nt (v 0) st (k + 1))), (20, .int (st * (v 0 k))), (21, .int (rdn v st k)), (22, .int (lc (v 3) (wd v k) o)), (23, .int (nI o))]) (fun o => 10 - o) (fun o ls hI ih2 => ?_) (0) ⟨Nat.zero_le _, lv_sub hl [5, 6, 7, 8, 9, 10, 11, 12, 13, 14, 15, 16, 17, 18, 19, 20, 21, 4, 3, 2, 1, 0] rfl⟩
    obtain ⟨ho1, hl⟩ := hI
    refine lv_iload hx hb dL_law_168 (lv_at hl 21 rfl) ?_
    refine lv_bipush (v := 10) hx hb dL_law_170 (by decide) ?_
    refine lv_icmp_ge (tgt := 206) hx hb dL_law_172 (by decide) (fun c172 => ?_) (fun c172 => ?_)
    · have c172n : 10 ≤ o := (nI_leI (a := 10) (b := o) (by omega) (by omega)).mp c172
      have hx9 : o = 10 := by omega
      rw [hx9] at hl
      refine lv_iload hx hb dL_law_206 (lv_at hl 9 rfl) ?_
      refine lv_aload_n hx hb dL_law_208 rfl (lv_at hl 1 rfl) ?_
      refine lv_iload hx hb dL_law_209 (lv_at hl 16 rfl) ?_
      refine cVi (As := [.int (nI k)]) (rest := [.int (hd (v 0) k)]) hF (mX0_turnOf hinv.1 hde k (by omega)) C0.mv hC (C0.rc hC) jyX0_turnOf kl_RL_99 ⟨rfl, rfl⟩ ⟨Nat.le_of_ble_eq_true rfl, Nat.le_of_ble_eq_true rfl⟩ rfl hl.1 rfl (Nat.le_of_ble_eq_true rfl) ⟨(by show _ ≤ 600130; omega), (by show _ ≤ 7301080; omega)⟩ dL_law_211 (fun r9 hr9 => ?_)
      subst hr9
      refine lv_iadd hx hb dL_law_214 ?_
      refine lv_bipush (v := 8) hx hb dL_law_215 (by decide) ?_
      refine lv_iadd hx hb dL_law_217 ?_
      refine lv_bipush (v := 8) hx hb dL_law_218 (by decide) ?_
      refine lv_irem hx hb dL_law_220 (by decide) ?_
      refine topI (show ((((hd (v 0) k) + (v 0 k)) + 8) - (((hd (v 0) k) + (v 0 k)) + 8) / 8 * 8) = hd (v 0) (k + 1) from hd_s hinv.1 k) ?_
      refine lv_istore (lv' := [(10, .int (hd (v 0) (k + 1))), (0, .ref sb), (1, .ref (q 0)), (2, .ref sm), (3, .int t9), (4, .int y0), (5, .long (dgst v st mk N)), (7, .int (nI N)), (8, .int st), (9, .int (nt (v 0) st k)), (11, .int (ctB (amb v st mk) k)), (12, .int (ctB (umP v (v 3) st) k)), (13, .int (ctB (fold1 v st) k)), (14, .int (sumI (v 1) k)), (15, .int (fam v st mk k)), (16, .long (wys v st mk k)), (18, .int (nI k)), (19, .int (nt (v 0) st (k + 1))), (20, .int (st * (v 0 k))), (21, .int (rdn v st k)), (22, .int (lc (v 3) (wd v k) 10)), (23, .int (nI 10))]) hx hb dL_law_221 hl (by decide) rfl (fun ls hl => ?_)
      refine cutR (pc2 := 411) (st2 := []) (fun ls => lv_has ls 27 [(0, .ref sb), (1, .ref (q 0)), (2, .ref sm), (3, .int t9), (4, .int y0), (5, .long (dgst v st mk N)), (7, .int (nI N)), (8, .int st), (9, .int (nt (v 0) st k)), (10, .int (hd (v 0) (k + 1))), (11, .int (ctB (amb v st mk) k)), (12, .int (ctB (umP v (v 3) st) k)), (13, .int (ctB (fold1 v st) k)), (14, .int (sumI (v 1) k)), (15, .int (fam v st mk k)), (16, .long (wys v st mk k)), (18, .int (nI k)), (19, .int (nt (v 0) st (k + 1))), (20, .int (st * (v 0 k))), (21, .int (rdn v st k)), (22, .int (lc (v 3) (wd v k) 10))]) (fun ls hl => ?_) (fun J411 => ?_)
      · refine cutR (pc2 := 464) (st2 := []) (fun ls => lv_has ls 27 [(0, .ref sb), (1, .ref (q 0)), (2, .ref sm), (3, .int t9), (4, .int y0), (5, .long (dgst v st mk N)), (7, .int (nI N)), (8, .int st), (9, .int (nt (v 0) st (k + 1))), (10, .int (hd (v 0) (k + 1))), (11, .int (ctB (amb v st mk) k)), (12, .int (ctB (umP v (v 3) st) (k + 1))), (13, .int (ctB (fold1 v st) (k + 1))), (14, .int (sumI (v 1) (k + 1))), (15, .int (fam v st mk k)), (16, .long (wys v st mk k)), (18, .int (nI k)), (19, .int (nt (v 0) st (k + 1))), (20, .int (st * (v 0 k))), (21, .int (rdn v st k)), (22, .int (lc (v 3) (wd v k) 10))]) (fun ls hl => ?_) (fun J464 => ?_)
        · refine lv_aload_n hx hb dL_law_464 rfl (lv_at hl 1 rfl) ?_
          refine lv_iload hx hb dL_law_465 (lv_at hl 16 rfl) ?_
          refine cVi (As := [.int (nI k)]) (rest := []) hF (mX0_isAmbiguous hinv.1 hde k (by omega)) C0.mv hC (C0.rc hC) jyX0_isAmbiguous kl_RL_122 ⟨rfl, rfl⟩ ⟨Nat.le_of_ble_eq_true rfl, Nat.le_of_ble_eq_true rfl⟩ rfl hl.1 rfl (Nat.le_of_ble_eq_true rfl) ⟨(by show _ ≤ 600130; omega), (by show _ ≤ 7301080; omega)⟩ dL_law_467 (fun r9 hr9 => ?_)
          subst hr9
          refine lv_if_ne (tgt := 476) hx hb dL_law_470 (by decide) (fun c470 => ?_) (fun c470 => ?_)
          · have c470b := b2i_t c470
            refine lv_iload hx hb dL_law_476 (lv_at hl 14 rfl) ?_
            refine lv_if_ge (tgt := 485) hx hb dL_law_478 (by decide) (fun c478 => ?_) (fun c478 => ?_)
            · refine lv_iinc (v := ((ctB (amb v st mk) k) + 1)) (lv' := [(11, .int ((ctB (amb v st mk) k) + 1)), (0, .ref sb), (1, .ref (q 0)), (2, .ref sm), (3, .int t9), (4, .int y0), (5, .long (dgst v st mk N)), (7, .int (nI N)), (8, .int st), (9, .int (nt (v 0) st (k + 1))), (10, .int (hd (v 0) (k + 1))), (12, .int (ctB (umP v (v 3) st) (k + 1))), (13, .int (ctB (fold1 v st) (k + 1))), (14, .int (sumI (v 1) (k + 1))), (15, .int (fam v st mk k)), (16, .long (wys v st mk k)), (18, .int (nI k)), (19, .int (nt (v 0) st (k + 1))), (20, .int (st * (v 0 k))), (21, .int (rdn v st k)), (22, .int (lc (v 3) (wd v k) 10))]) hx hb dL_law_485 hl (k := 10) rfl (rfl) (by decide) rfl (fun ls hl => ?_)
              refine lv_ldc2 hx hb hown (hts _ kk_RL_128) dL_law_488 ?_
              refine lv_lload hx hb dL_law_491 (lv_at hl 15 rfl) ?_
              refine lv_iload hx hb dL_law_493 (lv_at hl 19 rfl) ?_
              refine lv_i2l hx hb dL_law_495 rfl ?_
              refine lv_lmul hx hb dL_law_496 ?_
              refine va_mmin_long hx hb (hml.trans hl.1.symm) hown (hts _ kl_RL_130) (hts _ ks_LM_min_long_x) (hts _ kn_Math) (hts _ kd_LM_min_long_x) (Nat.le_of_ble_eq_true rfl) (Nat.le_of_ble_eq_true rfl) (by show _ ≤ 600130; omega) (by show _ ≤ 7301080; omega) dL_law_497 ?_
              refine topL (show (if ((wys v st mk k) * (Int32.toInt64 (rdn v st k))) < 1000000000 then ((wys v st mk k) * (Int32.toInt64 (rdn v st k))) else 1000000000) = wys v st mk (k + 1) from wys_t' c470b) ?_
              refine lv_lstore (lv' := [(16, .long (wys v st mk (k + 1))), (11, .int ((ctB (amb v st mk) k) + 1)), (0, .ref sb), (1, .ref (q 0)), (2, .ref sm), (3, .int t9), (4, .int y0), (5, .long (dgst v st mk N)), (7, .int (nI N)), (8, .int st), (9, .int (nt (v 0) st (k + 1))), (10, .int (hd (v 0) (k + 1))), (12, .int (ctB (umP v (v 3) st) (k + 1))), (13, .int (ctB (fold1 v st) (k + 1))), (14, .int (sumI (v 1) (k + 1))), (15, .int (fam v st mk k)), (18, .int (nI k)), (19, .int (nt (v 0) st (k + 1))), (20, .int (st * (v 0 k))), (21, .int (rdn v st k)), (22, .int (lc (v 3) (wd v k) 10))]) hx hb dL_law_500 hl (by decide) rfl (fun ls hl => ?_)
              refine lv_iinc (v := (nI (k + 1))) (lv' := [(18, .int (nI (k + 1))), (16, .long (wys v st mk (k + 1))), (11, .int ((ctB (amb v st mk) k) + 1)), (0, .ref sb), (1, .ref (q 0)), (2, .ref sm), (3, .int t9), (4, .int y0), (5, .long (dgst v st mk N)), (7, .int (nI N)), (8, .int st), (9, .int (nt (v 0) st (k + 1))), (10, .int (hd (v 0) (k + 1))), (12, .int (ctB (umP v (v 3) st) (k + 1))), (13, .int (ctB (fold1 v st) (k + 1))), (14, .int (sumI (v 1) (k + 1))), (15, .int (fam v st mk k)), (19, .int (nt (v 0) st (k + 1))), (20, .int (st * (v 0 k))), (21, .int (rdn v st k)), (22, .int (lc (v 3) (wd v k) 10))]) hx hb dL_law_502 hl (k := 16) rfl (nI_1 _) (by decide) rfl (fun ls hl => ?_)
              refine lv_goto (tgt := 128) hx hb dL_law_505 (by decide) ?_
              exact ih1 (k + 1) ls (by omega) ⟨by omega, by rw [ctB_t c470b, fam_s1 (by omega) c478]; exact lv_sub hl [3, 4, 5, 6, 7, 8, 9, 10, 11, 12, 2, 13, 14, 15, 16, 1, 0] rfl⟩
            · refine lv_iload hx hb dL_law_481 (lv_at hl 16 rfl) ?_
              refine lv_istore (lv' := [(15, .int (nI k)), (0, .ref sb), (1, .ref (q 0)), (2, .ref sm), (3, .int t9), (4, .int y0), (5, .long (dgst v st mk N)), (7, .int (nI N)), (8, .int st), (9, .int (nt (v 0) st (k + 1))), (10, .int (hd (v 0) (k + 1))), (11, .int (ctB (amb v st mk) k)), (12, .int (ctB (umP v (v 3) st) (k + 1))), (13, .int (ctB (fold1 v st) (k + 1))), (14, .int (sumI (v 1) (k + 1))), (16, .long (wys v st mk k)), (18, .int (nI k)), (19, .int (nt (v 0) st (k + 1))), (20, .int (st * (v 0 k))), (21, .int (rdn v st k)), (22, .int (lc (v 3) (wd v k) 10))]) hx hb dL_law_483 hl (by decide) rfl (fun ls hl => ?_)
              refine lv_iinc (v := ((ctB (amb v st mk) k) + 1)) (lv' := [(11, .int ((ctB (amb v st mk) k) + 1)), (15, .int (nI k)), (0, .ref sb), (1, .ref (q 0)), (2, .ref sm), (3, .int t9), (4, .int y0), (5, .long (dgst v st mk N)), (7, .int (nI N)), (8, .int st), (9, .int (nt (v 0) st (k + 1))), (10, .int (hd (v 0) (k + 1))), (12, .int (ctB (umP v (v 3) st) (k + 1))), (13, .int (ctB (fold1 v st) (k + 1))), (14, .int (sumI (v 1) (k + 1))), (16, .long (wys v st mk k)), (18, .int (nI k)), (19, .int (nt (v 0) st (k + 1))), (20, .int (st * (v 0 k))), (21, .int (rdn v st k)), (22, .int (lc (v 3) (wd v k) 10))]) hx hb dL_law_485 hl (k := 11) rfl (rfl) (by decide) rfl (fun ls hl => ?_)
              refine lv_ldc2 hx hb hown (hts _ kk_RL_128) dL_law_488 ?_
              refine lv_lload hx hb dL_law_491 (lv_at hl 15 rfl) ?_
              refine lv_iload hx hb dL_law_493 (lv_at hl 19 rfl) ?_
              refine lv_i2l hx hb dL_law_495 rfl ?_
              refine lv_lmul hx hb dL_law_496 ?_
              refine va_mmin_long hx hb (hml.trans hl.1.symm) hown (hts _ kl_RL_130) (hts _ ks_LM_min_long_x) (hts _ kn_Math) (hts _ kd_LM_min_long_x) (Nat.le_of_ble_eq_true rfl) (Nat.le_of_ble_eq_true rfl) (by show _ ≤ 600130; omega) (by show _ ≤ 7301080; omega) dL_law_497 ?_
              refine topL (show (if ((wys v st mk k) * (Int32.toInt64 (rdn v st k))) < 1000000000 then ((wys v st mk k) * (Int32.toInt64 (rdn v st k))) else 1000000000) = wys v st mk (k + 1) from wys_t' c470b) ?_
              refine lv_lstore (lv' := [(16, .long (wys v st mk (k + 1))), (11, .int ((ctB (amb v st mk) k) + 1)), (15, .int (nI k)), (0, .ref sb), (1, .ref (q 0)), (2, .ref sm), (3, .int t9), (4, .int y0), (5, .long (dgst v st mk N)), (7, .int (nI N)), (8, .int st), (9, .int (nt (v 0) st (k + 1))), (10, .int (hd (v 0) (k + 1))), (12, .int (ctB (umP v (v 3) st) (k + 1))), (13, .int (ctB (fold1 v st) (k + 1))), (14, .int (sumI (v 1) (k + 1))), (18, .int (nI k)), (19, .int (nt (v 0) st (k + 1))), (20, .int (st * (v 0 k))), (21, .int (rdn v st k)), (22, .int (lc (v 3) (wd v k) 10))]) hx hb dL_law_500 hl (by decide) rfl (fun ls hl => ?_)
              refine lv_iinc (v := (nI (k + 1))) (lv' := [(18, .int (nI (k + 1))), (16, .long (wys v st mk (k + 1))), (11, .int ((ctB (amb v st mk) k) + 1)), (15, .int (nI k)), (0, .ref sb), (1, .ref (q 0)), (2, .ref sm), (3, .int t9), (4, .int y0), (5, .long (dgst v st mk N)), (7, .int (nI N)), (8, .int st), (9, .int (nt (v 0) st (k + 1))), (10, .int (hd (v 0) (k + 1))), (12, .int (ctB (umP v (v 3) st) (k + 1))), (13, .int (ctB (fold1 v st) (k + 1))), (14, .int (sumI (v 1) (k + 1))), (19, .int (nt (v 0) st (k + 1))), (20, .int (st * (v 0 k))), (21, .int (rdn v st k)), (22, .int (lc (v 3) (wd v k) 10))]) hx hb dL_law_502 hl (k := 16) rfl (nI_1 _) (by decide) rfl (fun ls hl => ?_)
              refine lv_goto (tgt := 128) hx hb dL_law_505 (by decide) ?_
              exact ih1 (k + 1) ls (by omega) ⟨by omega, by rw [ctB_t c470b, fam_s2 (by omega) c478 c470b]; exact lv_sub hl [4, 5, 6, 7, 8, 9, 10, 11, 12, 13, 2, 14, 15, 16, 3, 1, 0] rfl⟩
          · have c470b := b2i_f c470
            refine lv_goto (tgt := 502) hx hb dL_law_473 (by decide) ?_
            refine lv_iinc (v := (nI (k + 1))) (lv' := [(18, .int (nI (k + 1))), (0, .ref sb), (1, .ref (q 0)), (2, .ref sm), (3, .int t9), (4, .int y0), (5, .long (dgst v st mk N)), (7, .int (nI N)), (8, .int st), (9, .int (nt (v 0) st (k + 1))), (10, .int (hd (v 0) (k + 1))), (11, .int (ctB (amb v st mk) k)), (12, .int (ctB (umP v (v 3) st) (k + 1))), (13, .int (ctB (fold1 v st) (k + 1))), (14, .int (sumI (v 1) (k + 1))), (15, .int (fam v st mk k)), (16, .long (wys v st mk k)), (19, .int (nt (v 0) st (k + 1))), (20, .int (st * (v 0 k))), (21, .int (rdn v st k)), (22, .int (lc (v 3) (wd v k) 10))]) hx hb dL_law_502 hl (k := 16) rfl (nI_1 _) (by decide) rfl (fun ls hl => ?_)
            refine lv_goto (tgt := 128) hx hb dL_law_505 (by decide) ?_
            exact ih1 (k + 1) ls (by omega) ⟨by omega, by rw [ctB_f c470b, fam_f (by omega) c470b, wys_f c470b]; exact lv_sub hl [1, 2, 3, 4, 5, 6, 7, 8, 9, 10, 11, 12, 13, 14, 15, 16, 0] rfl⟩
        · refine lv_iload hx hb dL_law_411 (lv_at hl 17 rfl) ?_
          refine lv_istore (lv' := [(9, .int (nt (v 0) st (k + 1))), (0, .ref sb), (1, .ref (q 0)), (2, .ref sm), (3, .int t9), (4, .int y0), (5, .long (dgst v st mk N)), (7, .int (nI N)), (8, .int st), (10, .int (hd (v 0) (k + 1))), (11, .int (ctB (amb v st mk) k)), (12, .int (ctB (umP v (v 3) st) k)), (13, .int (ctB (fold1 v st) k)), (14, .int (sumI (v 1) k)), (15, .int (fam v st mk k)), (16, .long (wys v st mk k)), (18, .int (nI k)), (19, .int (nt (v 0) st (k + 1))), (20, .int (st * (v 0 k))), (21, .int (rdn v st k)), (22, .int (lc (v 3) (wd v k) 10))]) hx hb dL_law_413 hl (by decide) rfl (fun ls hl => ?_)
          refine lv_iload hx hb dL_law_415 (lv_at hl 12 rfl) ?_
          refine lv_aload_n hx hb dL_law_417 rfl (lv_at hl 2 rfl) ?_
          refine lv_iload hx hb dL_law_418 (lv_at hl 16 rfl) ?_
          refine cVi (As := [.int (nI k)]) (rest := [.int (ctB (fold1 v st) k)]) hF (mX0_isFolded hinv.1 hde k (by omega)) C0.mv hC (C0.rc hC) jyX0_isFolded kl_RL_110 ⟨rfl, rfl⟩ ⟨Nat.le_of_ble_eq_true rfl, Nat.le_of_ble_eq_true rfl⟩ rfl hl.1 rfl (Nat.le_of_ble_eq_true rfl) ⟨(by show _ ≤ 600130; omega), (by show _ ≤ 7301080; omega)⟩ dL_law_420 (fun r9 hr9 => ?_)
          subst hr9
          refine lv_if_eq (tgt := 430) hx hb dL_law_423 (by decide) (fun c423 => ?_) (fun c423 => ?_)
          · have c423b := b2i_f c423
            refine lv_iconst (v := 0) hx hb dL_law_430 (by decide) ?_
            refine lv_iadd hx hb dL_law_431 ?_
            refine topI (show ((ctB (fold1 v st) k) + 0) = ctB (fold1 v st) (k + 1) from ctB_f' c423b) ?_
            refine lv_istore (lv' := [(13, .int (ctB (fold1 v st) (k + 1))), (9, .int (nt (v 0) st (k + 1))), (0, .ref sb), (1, .ref (q 0)), (2, .ref sm), (3, .int t9), (4, .int y0), (5, .long (dgst v st mk N)), (7, .int (nI N)), (8, .int st), (10, .int (hd (v 0) (k + 1))), (11, .int (ctB (amb v st mk) k)), (12, .int (ctB (umP v (v 3) st) k)), (14, .int (sumI (v 1) k)), (15, .int (fam v st mk k)), (16, .long (wys v st mk k)), (18, .int (nI k)), (19, .int (nt (v 0) st (k + 1))), (20, .int (st * (v 0 k))), (21, .int (rdn v st k)), (22, .int (lc (v 3) (wd v k) 10))]) hx hb dL_law_432 hl (by decide) rfl (fun ls hl => ?_)
            refine lv_iload hx hb dL_law_434 (lv_at hl 13 rfl) ?_
            refine lv_aload_n hx hb dL_law_436 rfl (lv_at hl 4 rfl) ?_
            refine S0.gL hF hX kf_RL_9 dL_law_437 ?_
            refine lv_iload hx hb dL_law_440 (lv_at hl 16 rfl) ?_
            refine S0.ldA hF hX k (by omega) rfl dL_law_442 ?_
            refine lv_iconst (v := 1) hx hb dL_law_443 (by decide) ?_
            refine S0.ldR hF hX k (by omega) 1 (by decide) rfl dL_law_444 ?_
            refine topI (show (rowV v st mk) k 1 = v 1 k from rfl) ?_
            refine lv_iadd hx hb dL_law_445 ?_
            refine lv_istore (lv' := [(14, .int ((sumI (v 1) k) + (v 1 k))), (13, .int (ctB (fold1 v st) (k + 1))), (9, .int (nt (v 0) st (k + 1))), (0, .ref sb), (1, .ref (q 0)), (2, .ref sm), (3, .int t9), (4, .int y0), (5, .long (dgst v st mk N)), (7, .int (nI N)), (8, .int st), (10, .int (hd (v 0) (k + 1))), (11, .int (ctB (amb v st mk) k)), (12, .int (ctB (umP v (v 3) st) k)), (15, .int (fam v st mk k)), (16, .long (wys v st mk k)), (18, .int (nI k)), (19, .int (nt (v 0) st (k + 1))), (20, .int (st * (v 0 k))), (21, .int (rdn v st k)), (22, .int (lc (v 3) (wd v k) 10))]) hx hb dL_law_446 hl (by decide) rfl (fun ls hl => ?_)
            refine lv_iload hx hb dL_law_448 (lv_at hl 13 rfl) ?_
            refine lv_iload hx hb dL_law_450 (lv_at hl 19 rfl) ?_
            refine lv_iconst (v := 1) hx hb dL_law_452 (by decide) ?_
            refine lv_icmp_le (tgt := 460) hx hb dL_law_453 (by decide) (fun c453 => ?_) (fun c453 => ?_)
            · refine lv_iconst (v := 0) hx hb dL_law_460 (by decide) ?_
              refine lv_iadd hx hb dL_law_461 ?_
              refine topI (show ((ctB (umP v (v 3) st) k) + 0) = ctB (umP v (v 3) st) (k + 1) from ctB_f' (um_0 c453)) ?_
              refine lv_istore (lv' := [(12, .int (ctB (umP v (v 3) st) (k + 1))), (14, .int ((sumI (v 1) k) + (v 1 k))), (13, .int (ctB (fold1 v st) (k + 1))), (9, .int (nt (v 0) st (k + 1))), (0, .ref sb), (1, .ref (q 0)), (2, .ref sm), (3, .int t9), (4, .int y0), (5, .long (dgst v st mk N)), (7, .int (nI N)), (8, .int st), (10, .int (hd (v 0) (k + 1))), (11, .int (ctB (amb v st mk) k)), (15, .int (fam v st mk k)), (16, .long (wys v st mk k)), (18, .int (nI k)), (19, .int (nt (v 0) st (k + 1))), (20, .int (st * (v 0 k))), (21, .int (rdn v st k)), (22, .int (lc (v 3) (wd v k) 10))]) hx hb dL_law_462 hl (by decide) rfl (fun ls hl => ?_)
              exact J464 ls (lv_sub hl [4, 5, 6, 7, 8, 9, 10, 11, 3, 12, 13, 0, 2, 1, 14, 15, 16, 17, 18, 19, 20] rfl)
            · refine lv_iconst (v := 1) hx hb dL_law_456 (by decide) ?_
              refine lv_goto (tgt := 461) hx hb dL_law_457 (by decide) ?_
              refine lv_iadd hx hb dL_law_461 ?_
              refine topI (show ((ctB (umP v (v 3) st) k) + 1) = ctB (umP v (v 3) st) (k + 1) from ctB_t' (um_1 c453)) ?_
              refine lv_istore (lv' := [(12, .int (ctB (umP v (v 3) st) (k + 1))), (14, .int ((sumI (v 1) k) + (v 1 k))), (13, .int (ctB (fold1 v st) (k + 1))), (9, .int (nt (v 0) st (k + 1))), (0, .ref sb), (1, .ref (q 0)), (2, .ref sm), (3, .int t9), (4, .int y0), (5, .long (dgst v st mk N)), (7, .int (nI N)), (8, .int st), (10, .int (hd (v 0) (k + 1))), (11, .int (ctB (amb v st mk) k)), (15, .int (fam v st mk k)), (16, .long (wys v st mk k)), (18, .int (nI k)), (19, .int (nt (v 0) st (k + 1))), (20, .int (st * (v 0 k))), (21, .int (rdn v st k)), (22, .int (lc (v 3) (wd v k) 10))]) hx hb dL_law_462 hl (by decide) rfl (fun ls hl => ?_)
              exact J464 ls (lv_sub hl [4, 5, 6, 7, 8, 9, 10, 11, 3, 12, 13, 0, 2, 1, 14, 15, 16, 17, 18, 19, 20] rfl)
          · have c423b := b2i_t c423
            refine lv_iconst (v := 1) hx hb dL_law_426 (by decide) ?_
            refine lv_goto (tgt := 431) hx hb dL_law_427 (by decide) ?_
            refine lv_iadd hx hb dL_law_431 ?_
            refine topI (show ((ctB (fold1 v st) k) + 1) = ctB (fold1 v st) (k + 1) from ctB_t' c423b) ?_
            refine lv_istore (lv' := [(13, .int (ctB (fold1 v st) (k + 1))), (9, .int (nt (v 0) st (k + 1))), (0, .ref sb), (1, .ref (q 0)), (2, .ref sm), (3, .int t9), (4, .int y0), (5, .long (dgst v st mk N)), (7, .int (nI N)), (8, .int st), (10, .int (hd (v 0) (k + 1))), (11, .int (ctB (amb v st mk) k)), (12, .int (ctB (umP v (v 3) st) k)), (14, .int (sumI (v 1) k)), (15, .int (fam v st mk k)), (16, .long (wys v st mk k)), (18, .int (nI k)), (19, .int (nt (v 0) st (k + 1))), (20, .int (st * (v 0 k))), (21, .int (rdn v st k)), (22, .int (lc (v 3) (wd v k) 10))]) hx hb dL_law_432 hl (by decide) rfl (fun ls hl => ?_)
            refine lv_iload hx hb dL_law_434 (lv_at hl 13 rfl) ?_
            refine lv_aload_n hx hb dL_law_436 rfl (lv_at hl 4 rfl) ?_
            refine S0.gL hF hX kf_RL_9 dL_law_437 ?_
            refine lv_iload hx hb dL_law_440 (lv_at hl 16 rfl) ?_
            refine S0.ldA hF hX k (by omega) rfl dL_law_442 ?_
            refine lv_iconst (v := 1) hx hb dL_law_443 (by decide) ?_
            refine S0.ldR hF hX k (by omega) 1 (by decide) rfl dL_law_444 ?_
            refine topI (show (rowV v st mk) k 1 = v 1 k from rfl) ?_
            refine lv_iadd hx hb dL_law_445 ?_
            refine lv_istore (lv' := [(14, .int ((sumI (v 1) k) + (v 1 k))), (13, .int (ctB (fold1 v st) (k + 1))), (9, .int (nt (v 0) st (k + 1))), (0, .ref sb), (1, .ref (q 0)), (2, .ref sm), (3, .int t9), (4, .int y0), (5, .long (dgst v st mk N)), (7, .int (nI N)), (8, .int st), (10, .int (hd (v 0) (k + 1))), (11, .int (ctB (amb v st mk) k)), (12, .int (ctB (umP v (v 3) st) k)), (15, .int (fam v st mk k)), (16, .long (wys v st mk k)), (18, .int (nI k)), (19, .int (nt (v 0) st (k + 1))), (20, .int (st * (v 0 k))), (21, .int (rdn v st k)), (22, .int (lc (v 3) (wd v k) 10))]) hx hb dL_law_446 hl (by decide) rfl (fun ls hl => ?_)
            refine lv_iload hx hb dL_law_448 (lv_at hl 13 rfl) ?_
            refine lv_iload hx hb dL_law_450 (lv_at hl 19 rfl) ?_
            refine lv_iconst (v := 1) hx hb dL_law_452 (by decide) ?_
            refine lv_icmp_le (tgt := 460) hx hb dL_law_453 (by decide) (fun c453 => ?_) (fun c453 => ?_)
            · refine lv_iconst (v := 0) hx hb dL_law_460 (by decide) ?_
              refine lv_iadd hx hb dL_law_461 ?_
              refine topI (show ((ctB (umP v (v 3) st) k) + 0) = ctB (umP v (v 3) st) (k + 1) from ctB_f' (um_0 c453)) ?_
              refine lv_istore (lv' := [(12, .int (ctB (umP v (v 3) st) (k + 1))), (14, .int ((sumI (v 1) k) + (v 1 k))), (13, .int (ctB (fold1 v st) (k + 1))), (9, .int (nt (v 0) st (k + 1))), (0, .ref sb), (1, .ref (q 0)), (2, .ref sm), (3, .int t9), (4, .int y0), (5, .long (dgst v st mk N)), (7, .int (nI N)), (8, .int st), (10, .int (hd (v 0) (k + 1))), (11, .int (ctB (amb v st mk) k)), (15, .int (fam v st mk k)), (16, .long (wys v st mk k)), (18, .int (nI k)), (19, .int (nt (v 0) st (k + 1))), (20, .int (st * (v 0 k))), (21, .int (rdn v st k)), (22, .int (lc (v 3) (wd v k) 10))]) hx hb dL_law_462 hl (by decide) rfl (fun ls hl => ?_)
              exact J464 ls (lv_sub hl [4, 5, 6, 7, 8, 9, 10, 11, 3, 12, 13, 0, 2, 1, 14, 15, 16, 17, 18, 19, 20] rfl)
            · refine lv_iconst (v := 1) hx hb dL_law_456 (by decide) ?_
              refine lv_goto (tgt := 461) hx hb dL_law_457 (by decide) ?_
              refine lv_iadd hx hb dL_law_461 ?_
              refine topI (show ((ctB (umP v (v 3) st) k) + 1) = ctB (umP v (v 3) st) (k + 1) from ctB_t' (um_1 c453)) ?_
              refine lv_istore (lv' := [(12, .int (ctB (umP v (v 3) st) (k + 1))), (14, .int ((sumI (v 1) k) + (v 1 k))), (13, .int (ctB (fold1 v st) (k + 1))), (9, .int (nt (v 0) st (k + 1))), (0, .ref sb), (1, .ref (q 0)), (2, .ref sm), (3, .int t9), (4, .int y0), (5, .long (dgst v st mk N)), (7, .int (nI N)), (8, .int st), (10, .int (hd (v 0) (k + 1))), (11, .int (ctB (amb v st mk) k)), (15, .int (fam v st mk k)), (16, .long (wys v st mk k)), (18, .int (nI k)), (19, .int (nt (v 0) st (k + 1))), (20, .int (st * (v 0 k))), (21, .int (rdn v st k)), (22, .int (lc (v 3) (wd v k) 10))]) hx hb dL_law_462 hl (by decide) rfl (fun ls hl => ?_)
              exact J464 ls (lv_sub hl [4, 5, 6, 7, 8, 9, 10, 11, 3, 12, 13, 0, 2, 1, 14, 15, 16, 17, 18, 19, 20] rfl)
      · refine cutR (pc2 := 365) (st2 := []) (fun ls => lv_has ls 27 [(0, .ref sb), (1, .ref (q 0)), (2, .ref sm), (3, .int t9), (4, .int y0), (5, .long (dgst v st mk N)), (7, .int (nI N)), (8, .int st), (9, .int (nt (v 0) st k)), (10, .int (hd (v 0) (k + 1))), (11, .int (ctB (amb v st mk) k)), (12, .int (ctB (umP v (v 3) st) k)), (13, .int (ctB (fold1 v st) k)), (14, .int (sumI (v 1) k)), (15, .int (fam v st mk k)), (16, .long (wys v st mk k)), (18, .int (nI k)), (19, .int (nt (v 0) st (k + 1))), (20, .int (st * (v 0 k))), (21, .int (rdn v st k)), (22, .int (lc (v 3) (wd v k) 10))]) (fun ls hl => ?_) (fun J365 => ?_)
        · refine lv_aload_n hx hb dL_law_365 rfl (lv_at hl 1 rfl) ?_
          refine lv_iload hx hb dL_law_366 (lv_at hl 16 rfl) ?_
          refine cVi (As := [.int (nI k)]) (rest := []) hF (mX0_isAmbiguous hinv.1 hde k (by omega)) C0.mv hC (C0.rc hC) jyX0_isAmbiguous kl_RL_122 ⟨rfl, rfl⟩ ⟨Nat.le_of_ble_eq_true rfl, Nat.le_of_ble_eq_true rfl⟩ rfl hl.1 rfl (Nat.le_of_ble_eq_true rfl) ⟨(by show _ ≤ 600130; omega), (by show _ ≤ 7301080; omega)⟩ dL_law_368 (fun r9 hr9 => ?_)
          subst hr9
          refine lv_iload hx hb dL_law_371 (lv_at hl 19 rfl) ?_
          refine lv_iconst (v := 1) hx hb dL_law_373 (by decide) ?_
          refine lv_icmp_le (tgt := 390) hx hb dL_law_374 (by decide) (fun c374 => ?_) (fun c374 => ?_)
          · refine lv_iconst (v := 0) hx hb dL_law_390 (by decide) ?_
            refine lv_icmp_ne (tgt := 409) hx hb dL_law_391 (by decide) (fun c391 => ?_) (fun c391 => ?_)
            · have c391b := b2i_t c391
              exact absurd (by rw [amb_0 c374]; rfl) c391
            · have c391b := b2i_f c391
              refine lv_aload_n hx hb dL_law_394 rfl (lv_at hl 1 rfl) ?_
              refine lv_iload hx hb dL_law_395 (lv_at hl 16 rfl) ?_
              refine cVi (As := [.int (nI k)]) (rest := []) hF (mX0_isMended hinv.1 hde k (by omega)) C0.mv hC (C0.rc hC) jyX0_isMended kl_RL_125 ⟨rfl, rfl⟩ ⟨Nat.le_of_ble_eq_true rfl, Nat.le_of_ble_eq_true rfl⟩ rfl hl.1 rfl (Nat.le_of_ble_eq_true rfl) ⟨(by show _ ≤ 600130; omega), (by show _ ≤ 7301080; omega)⟩ dL_law_397 (fun r9 hr9 => ?_)
              subst hr9
              refine lv_if_eq (tgt := 411) hx hb dL_law_400 (by decide) (fun c400 => ?_) (fun c400 => ?_)
              · have c400b := b2i_f c400
                exact J411 ls (lv_sub hl [0, 1, 2, 3, 4, 5, 6, 7, 8, 9, 10, 11, 12, 13, 14, 15, 16, 17, 18, 19, 20] rfl)
              · have c400b := b2i_t c400
                refine lv_iload hx hb dL_law_403 (lv_at hl 19 rfl) ?_
                refine lv_iconst (v := 2) hx hb dL_law_405 (by decide) ?_
                refine lv_icmp_ge (tgt := 411) hx hb dL_law_406 (by decide) (fun c406 => ?_) (fun c406 => ?_)
                · exact J411 ls (lv_sub hl [0, 1, 2, 3, 4, 5, 6, 7, 8, 9, 10, 11, 12, 13, 14, 15, 16, 17, 18, 19, 20] rfl)
                · exact absurd (lt_2 (hinv.2.2.2 k (by omega) c400b)) c406
          · refine lv_aload_n hx hb dL_law_377 rfl (lv_at hl 1 rfl) ?_
            refine lv_iload hx hb dL_law_378 (lv_at hl 16 rfl) ?_
            refine cVi (As := [.int (nI k)]) (rest := [.int (b2i (amb v st mk k))]) hF (mX0_isMended hinv.1 hde k (by omega)) C0.mv hC (C0.rc hC) jyX0_isMended kl_RL_125 ⟨rfl, rfl⟩ ⟨Nat.le_of_ble_eq_true rfl, Nat.le_of_ble_eq_true rfl⟩ rfl hl.1 rfl (Nat.le_of_ble_eq_true rfl) ⟨(by show _ ≤ 600130; omega), (by show _ ≤ 7301080; omega)⟩ dL_law_380 (fun r9 hr9 => ?_)
            subst hr9
            refine lv_if_ne (tgt := 390) hx hb dL_law_383 (by decide) (fun c383 => ?_) (fun c383 => ?_)
            · have c383b := b2i_t c383
              refine lv_iconst (v := 0) hx hb dL_law_390 (by decide) ?_
              refine lv_icmp_ne (tgt := 409) hx hb dL_law_391 (by decide) (fun c391 => ?_) (fun c391 => ?_)
              · have c391b := b2i_t c391
                exact absurd (by rw [amb_o c383b]; rfl) c391
              · have c391b := b2i_f c391
                refine lv_aload_n hx hb dL_law_394 rfl (lv_at hl 1 rfl) ?_
                refine lv_iload hx hb dL_law_395 (lv_at hl 16 rfl) ?_
                refine cVi (As := [.int (nI k)]) (rest := []) hF (mX0_isMended hinv.1 hde k (by omega)) C0.mv hC (C0.rc hC) jyX0_isMended kl_RL_125 ⟨rfl, rfl⟩ ⟨Nat.le_of_ble_eq_true rfl, Nat.le_of_ble_eq_true rfl⟩ rfl hl.1 rfl (Nat.le_of_ble_eq_true rfl) ⟨(by show _ ≤ 600130; omega), (by show _ ≤ 7301080; omega)⟩ dL_law_397 (fun r9 hr9 => ?_)
                subst hr9
                refine lv_if_eq (tgt := 411) hx hb dL_law_400 (by decide) (fun c400 => ?_) (fun c400 => ?_)
                · have c400b := b2i_f c400
                  exact J411 ls (lv_sub hl [0, 1, 2, 3, 4, 5, 6, 7, 8, 9, 10, 11, 12, 13, 14, 15, 16, 17, 18, 19, 20] rfl)
                · have c400b := b2i_t c400
                  refine lv_iload hx hb dL_law_403 (lv_at hl 19 rfl) ?_
                  refine lv_iconst (v := 2) hx hb dL_law_405 (by decide) ?_
                  refine lv_icmp_ge (tgt := 411) hx hb dL_law_406 (by decide) (fun c406 => ?_) (fun c406 => ?_)
                  · exact J411 ls (lv_sub hl [0, 1, 2, 3, 4, 5, 6, 7, 8, 9, 10, 11, 12, 13, 14, 15, 16, 17, 18, 19, 20] rfl)
                  · exact absurd (lt_2 (hinv.2.2.2 k (by omega) c400b)) c406
            · have c383b := b2i_f c383
              refine lv_iconst (v := 1) hx hb dL_law_386 (by decide) ?_
              refine lv_goto (tgt := 391) hx hb dL_law_387 (by decide) ?_
              refine lv_icmp_ne (tgt := 409) hx hb dL_law_391 (by decide) (fun c391 => ?_) (fun c391 => ?_)
              · exact absurd (by rw [amb_1 c383b c374]; rfl) c391
              · refine lv_aload_n hx hb dL_law_394 rfl (lv_at hl 1 rfl) ?_
                refine lv_iload hx hb dL_law_395 (lv_at hl 16 rfl) ?_
                refine cVi (As := [.int (nI k)]) (rest := []) hF (mX0_isMended hinv.1 hde k (by omega)) C0.mv hC (C0.rc hC) jyX0_isMended kl_RL_125 ⟨rfl, rfl⟩ ⟨Nat.le_of_ble_eq_true rfl, Nat.le_of_ble_eq_true rfl⟩ rfl hl.1 rfl (Nat.le_of_ble_eq_true rfl) ⟨(by show _ ≤ 600130; omega), (by show _ ≤ 7301080; omega)⟩ dL_law_397 (fun r9 hr9 => ?_)
                subst hr9
                refine lv_if_eq (tgt := 411) hx hb dL_law_400 (by decide) (fun c400 => ?_) (fun c400 => ?_)
                · have c400b := b2i_f c400
                  exact J411 ls (lv_sub hl [0, 1, 2, 3, 4, 5, 6, 7, 8, 9, 10, 11, 12, 13, 14, 15, 16, 17, 18, 19, 20] rfl)
                · have c400b := b2i_t c400
                  refine lv_iload hx hb dL_law_403 (lv_at hl 19 rfl) ?_
                  refine lv_iconst (v := 2) hx hb dL_law_405 (by decide) ?_
                  refine lv_icmp_ge (tgt := 411) hx hb dL_law_406 (by decide) (fun c406 => ?_) (fun c406 => ?_)
                  · exact J411 ls (lv_sub hl [0, 1, 2, 3, 4, 5, 6, 7, 8, 9, 10, 11, 12, 13, 14, 15, 16, 17, 18, 19, 20] rfl)
                  · exact absurd (lt_2 (hinv.2.2.2 k (by omega) c400b)) c406
        · refine cutR (pc2 := 347) (st2 := []) (fun ls => lv_has ls 27 [(0, .ref sb), (1, .ref (q 0)), (2, .ref sm), (3, .int t9), (4, .int y0), (5, .long (dgst v st mk N)), (7, .int (nI N)), (8, .int st), (9, .int (nt (v 0) st k)), (10, .int (hd (v 0) (k + 1))), (11, .int (ctB (amb v st mk) k)), (12, .int (ctB (umP v (v 3) st) k)), (13, .int (ctB (fold1 v st) k)), (14, .int (sumI (v 1) k)), (15, .int (fam v st mk k)), (16, .long (wys v st mk k)), (18, .int (nI k)), (19, .int (nt (v 0) st (k + 1))), (20, .int (st * (v 0 k))), (21, .int (rdn v st k)), (22, .int (lc (v 3) (wd v k) 10))]) (fun ls hl => ?_) (fun J347 => ?_)
          · refine lv_aload_n hx hb dL_law_347 rfl (lv_at hl 1 rfl) ?_
            refine lv_iload hx hb dL_law_348 (lv_at hl 16 rfl) ?_
            refine cVi (As := [.int (nI k)]) (rest := []) hF (mX0_isFolded hinv.1 hde k (by omega)) C0.mv hC (C0.rc hC) jyX0_isFolded kl_RL_110 ⟨rfl, rfl⟩ ⟨Nat.le_of_ble_eq_true rfl, Nat.le_of_ble_eq_true rfl⟩ rfl hl.1 rfl (Nat.le_of_ble_eq_true rfl) ⟨(by show _ ≤ 600130; omega), (by show _ ≤ 7301080; omega)⟩ dL_law_350 (fun r9 hr9 => ?_)
            subst hr9
            refine lv_if_eq (tgt := 365) hx hb dL_law_353 (by decide) (fun c353 => ?_) (fun c353 => ?_)
            · have c353b := b2i_f c353
              exact J365 ls (lv_sub hl [0, 1, 2, 3, 4, 5, 6, 7, 8, 9, 10, 11, 12, 13, 14, 15, 16, 17, 18, 19, 20] rfl)
            · have c353b := b2i_t c353
              refine lv_iload hx hb dL_law_356 (lv_at hl 19 rfl) ?_
              refine lv_iconst (v := 2) hx hb dL_law_358 (by decide) ?_
              refine lv_iload hx hb dL_law_359 (lv_at hl 20 rfl) ?_
              refine lv_imul hx hb dL_law_361 ?_
              refine lv_icmp_ne (tgt := 409) hx hb dL_law_362 (by decide) (fun c362 => ?_) (fun c362 => ?_)
              · exact absurd (tw_two (fold_tw hinv.1 c353b)) c362
              · exact J365 ls (lv_sub hl [0, 1, 2, 3, 4, 5, 6, 7, 8, 9, 10, 11, 12, 13, 14, 15, 16, 17, 18, 19, 20] rfl)
          · refine cutR (pc2 := 276) (st2 := []) (fun ls => lv_has ls 27 [(0, .ref sb), (1, .ref (q 0)), (2, .ref sm), (3, .int t9), (4, .int y0), (5, .long (dgst v st mk N)), (7, .int (nI N)), (8, .int st), (9, .int (nt (v 0) st k)), (10, .int (hd (v 0) (k + 1))), (11, .int (ctB (amb v st mk) k)), (12, .int (ctB (umP v (v 3) st) k)), (13, .int (ctB (fold1 v st) k)), (14, .int (sumI (v 1) k)), (15, .int (fam v st mk k)), (16, .long (wys v st mk k)), (18, .int (nI k)), (19, .int (nt (v 0) st (k + 1))), (20, .int (st * (v 0 k))), (21, .int (rdn v st k)), (22, .int (lc (v 3) (wd v k) 10))]) (fun ls hl => ?_) (fun J276 => ?_)
            · refine lv_aload_n hx hb dL_law_276 rfl (lv_at hl 1 rfl) ?_
              refine lv_iload hx hb dL_law_277 (lv_at hl 16 rfl) ?_
              refine cVi (As := [.int (nI k)]) (rest := []) hF (mX0_headingOf hinv.1 hde k (by omega)) C0.mv hC (C0.rc hC) jyX0_headingOf kl_RL_113 ⟨rfl, rfl⟩ ⟨Nat.le_of_ble_eq_true rfl, Nat.le_of_ble_eq_true rfl⟩ rfl hl.1 rfl (Nat.le_of_ble_eq_true rfl) ⟨(by show _ ≤ 600130; omega), (by show _ ≤ 7301080; omega)⟩ dL_law_279 (fun r9 hr9 => ?_)
              subst hr9
              refine lv_iload hx hb dL_law_282 (lv_at hl 9 rfl) ?_
              refine lv_icmp_ne (tgt := 409) hx hb dL_law_284 (by decide) (fun c284 => ?_) (fun c284 => ?_)
              · exact absurd rfl c284
              · refine lv_aload_n hx hb dL_law_287 rfl (lv_at hl 1 rfl) ?_
                refine lv_iload hx hb dL_law_288 (lv_at hl 16 rfl) ?_
                refine cVi (As := [.int (nI k)]) (rest := []) hF (mX0_wordIn hinv.1 hde k (by omega)) C0.mv hC (C0.rc hC) jyX0_wordIn kl_RL_107 ⟨rfl, rfl⟩ ⟨Nat.le_of_ble_eq_true rfl, Nat.le_of_ble_eq_true rfl⟩ rfl hl.1 rfl (Nat.le_of_ble_eq_true rfl) ⟨(by show _ ≤ 600130; omega), (by show _ ≤ 7301080; omega)⟩ dL_law_290 (fun r9 hr9 => ?_)
                subst hr9
                refine lv_aload_n hx hb dL_law_293 rfl (lv_at hl 1 rfl) ?_
                refine lv_aload_n hx hb dL_law_294 rfl (lv_at hl 1 rfl) ?_
                refine lv_iload hx hb dL_law_295 (lv_at hl 16 rfl) ?_
                refine cVi (As := [.int (nI k)]) (rest := [.ref (q 0), .int (wd v k)]) hF (mX0_landmarkOf hinv.1 hde k (by omega)) C0.mv hC (C0.rc hC) jyX0_landmarkOf kl_RL_116 ⟨rfl, rfl⟩ ⟨Nat.le_of_ble_eq_true rfl, Nat.le_of_ble_eq_true rfl⟩ rfl hl.1 rfl (Nat.le_of_ble_eq_true rfl) ⟨(by show _ ≤ 600130; omega), (by show _ ≤ 7301080; omega)⟩ dL_law_297 (fun r9 hr9 => ?_)
                subst hr9
                refine topI (show (v 2 k) = nI (ix (v 2 k)) from okM hinv.1 k) ?_
                refine cVi (As := [.int (nI (ix (v 2 k)))]) (rest := [.int (wd v k)]) hF (mX0_wordOf (ix (v 2 k)) (okM10 hinv.1 k)) C0.mv hC (C0.rc hC) jyX0_wordOf kl_RL_104 ⟨rfl, rfl⟩ ⟨Nat.le_of_ble_eq_true rfl, Nat.le_of_ble_eq_true rfl⟩ rfl hl.1 rfl (Nat.le_of_ble_eq_true rfl) ⟨(by show _ ≤ 600130; omega), (by show _ ≤ 7301080; omega)⟩ dL_law_300 (fun r9 hr9 => ?_)
                subst hr9
                refine lv_icmp_ne (tgt := 409) hx hb dL_law_303 (by decide) (fun c303 => ?_) (fun c303 => ?_)
                · exact absurd rfl c303
                · refine lv_aload_n hx hb dL_law_306 rfl (lv_at hl 1 rfl) ?_
                  refine lv_iload hx hb dL_law_307 (lv_at hl 16 rfl) ?_
                  refine cVi (As := [.int (nI k)]) (rest := []) hF (mX0_rightReading hinv.1 hde k (by omega)) C0.mv hC (C0.rc hC) jyX0_rightReading kl_RL_119 ⟨rfl, rfl⟩ ⟨Nat.le_of_ble_eq_true rfl, Nat.le_of_ble_eq_true rfl⟩ rfl hl.1 rfl (Nat.le_of_ble_eq_true rfl) ⟨(by show _ ≤ 600130; omega), (by show _ ≤ 7301080; omega)⟩ dL_law_309 (fun r9 hr9 => ?_)
                  subst hr9
                  refine lv_if_lt (tgt := 409) hx hb dL_law_312 (by decide) (fun c312 => ?_) (fun c312 => ?_)
                  · exact absurd c312 (rr_lo hinv.1 k)
                  · refine lv_aload_n hx hb dL_law_315 rfl (lv_at hl 1 rfl) ?_
                    refine lv_iload hx hb dL_law_316 (lv_at hl 16 rfl) ?_
                    refine cVi (As := [.int (nI k)]) (rest := []) hF (mX0_rightReading hinv.1 hde k (by omega)) C0.mv hC (C0.rc hC) jyX0_rightReading kl_RL_119 ⟨rfl, rfl⟩ ⟨Nat.le_of_ble_eq_true rfl, Nat.le_of_ble_eq_true rfl⟩ rfl hl.1 rfl (Nat.le_of_ble_eq_true rfl) ⟨(by show _ ≤ 600130; omega), (by show _ ≤ 7301080; omega)⟩ dL_law_318 (fun r9 hr9 => ?_)
                    subst hr9
                    refine lv_iload hx hb dL_law_321 (lv_at hl 19 rfl) ?_
                    refine lv_icmp_ge (tgt := 409) hx hb dL_law_323 (by decide) (fun c323 => ?_) (fun c323 => ?_)
                    · exact absurd c323 (rr_hi hinv.1 k)
                    · refine lv_iload hx hb dL_law_326 (lv_at hl 19 rfl) ?_
                      refine lv_iload hx hb dL_law_328 (lv_at hl 20 rfl) ?_
                      refine lv_icmp_eq (tgt := 347) hx hb dL_law_330 (by decide) (fun c330 => ?_) (fun c330 => ?_)
                      · exact J347 ls (lv_sub hl [0, 1, 2, 3, 4, 5, 6, 7, 8, 9, 10, 11, 12, 13, 14, 15, 16, 17, 18, 19, 20] rfl)
                      · refine lv_iload hx hb dL_law_333 (lv_at hl 19 rfl) ?_
                        refine lv_iconst (v := 2) hx hb dL_law_335 (by decide) ?_
                        refine lv_iload hx hb dL_law_336 (lv_at hl 20 rfl) ?_
                        refine lv_imul hx hb dL_law_338 ?_
                        refine lv_icmp_ne (tgt := 409) hx hb dL_law_339 (by decide) (fun c339 => ?_) (fun c339 => ?_)
                        · exact absurd (tw_two (rd_two c330)) c339
                        · refine lv_iload hx hb dL_law_342 (lv_at hl 18 rfl) ?_
                          refine lv_if_eq (tgt := 409) hx hb dL_law_344 (by decide) (fun c344 => ?_) (fun c344 => ?_)
                          · exact absurd c344 (st_ne hinv.1 k (tw_ne (rd_two c330)))
                          · exact J347 ls (lv_sub hl [0, 1, 2, 3, 4, 5, 6, 7, 8, 9, 10, 11, 12, 13, 14, 15, 16, 17, 18, 19, 20] rfl)
            · refine lv_iload hx hb dL_law_223 (lv_at hl 17 rfl) ?_
              refine lv_if_lt (tgt := 409) hx hb dL_law_225 (by decide) (fun c225 => ?_) (fun c225 => ?_)
              · exact absurd c225 (nt_lo hinv.1 _)
              · refine lv_iload hx hb dL_law_228 (lv_at hl 17 rfl) ?_
                refine lv_bipush (v := 24) hx hb dL_law_230 (by decide) ?_
                refine lv_icmp_gt (tgt := 409) hx hb dL_law_232 (by decide) (fun c232 => ?_) (fun c232 => ?_)
                · exact absurd (nt_hi hinv.1 _) (Int32.not_le.mpr c232)
                · refine lv_iload hx hb dL_law_235 (lv_at hl 17 rfl) ?_
                  refine lv_aload_n hx hb dL_law_237 rfl (lv_at hl 2 rfl) ?_
                  refine lv_iload hx hb dL_law_238 (lv_at hl 16 rfl) ?_
                  refine cVi (As := [.int (nI k)]) (rest := [.int (nt (v 0) st (k + 1))]) hF (mX0_isFolded hinv.1 hde k (by omega)) C0.mv hC (C0.rc hC) jyX0_isFolded kl_RL_110 ⟨rfl, rfl⟩ ⟨Nat.le_of_ble_eq_true rfl, Nat.le_of_ble_eq_true rfl⟩ rfl hl.1 rfl (Nat.le_of_ble_eq_true rfl) ⟨(by show _ ≤ 600130; omega), (by show _ ≤ 7301080; omega)⟩ dL_law_240 (fun r9 hr9 => ?_)
                  subst hr9
                  refine lv_if_eq (tgt := 254) hx hb dL_law_243 (by decide) (fun c243 => ?_) (fun c243 => ?_)
                  · have c243b := b2i_f c243
                    refine lv_iload hx hb dL_law_254 (lv_at hl 9 rfl) ?_
                    refine lv_iload hx hb dL_law_256 (lv_at hl 18 rfl) ?_
                    refine lv_iadd hx hb dL_law_258 ?_
                    refine lv_icmp_ne (tgt := 409) hx hb dL_law_259 (by decide) (fun c259 => ?_) (fun c259 => ?_)
                    · exact absurd (nt_f c243b) c259
                    · refine lv_aload_n hx hb dL_law_262 rfl (lv_at hl 2 rfl) ?_
                      refine lv_iload hx hb dL_law_263 (lv_at hl 16 rfl) ?_
                      refine cVi (As := [.int (nI k)]) (rest := []) hF (mX0_isFolded hinv.1 hde k (by omega)) C0.mv hC (C0.rc hC) jyX0_isFolded kl_RL_110 ⟨rfl, rfl⟩ ⟨Nat.le_of_ble_eq_true rfl, Nat.le_of_ble_eq_true rfl⟩ rfl hl.1 rfl (Nat.le_of_ble_eq_true rfl) ⟨(by show _ ≤ 600130; omega), (by show _ ≤ 7301080; omega)⟩ dL_law_265 (fun r9 hr9 => ?_)
                      subst hr9
                      refine lv_if_eq (tgt := 276) hx hb dL_law_268 (by decide) (fun c268 => ?_) (fun c268 => ?_)
                      · have c268b := b2i_f c268
                        exact J276 ls (lv_sub hl [1, 2, 3, 4, 5, 6, 7, 8, 9, 0, 10, 11, 12, 13, 14, 15, 16, 17, 18, 19, 20] rfl)
                      · have c268b := b2i_t c268
                        exact absurd c243b (by rw [c268b]; decide)
                  · have c243b := b2i_t c243
                    refine lv_iload hx hb dL_law_246 (lv_at hl 9 rfl) ?_
                    refine lv_iload hx hb dL_law_248 (lv_at hl 18 rfl) ?_
                    refine lv_isub hx hb dL_law_250 ?_
                    refine lv_goto (tgt := 259) hx hb dL_law_251 (by decide) ?_
                    refine lv_icmp_ne (tgt := 409) hx hb dL_law_259 (by decide) (fun c259 => ?_) (fun c259 => ?_)
                    · exact absurd (nt_t c243b) c259
                    · refine lv_aload_n hx hb dL_law_262 rfl (lv_at hl 2 rfl) ?_
                      refine lv_iload hx hb dL_law_263 (lv_at hl 16 rfl) ?_
                      refine cVi (As := [.int (nI k)]) (rest := []) hF (mX0_isFolded hinv.1 hde k (by omega)) C0.mv hC (C0.rc hC) jyX0_isFolded kl_RL_110 ⟨rfl, rfl⟩ ⟨Nat.le_of_ble_eq_true rfl, Nat.le_of_ble_eq_true rfl⟩ rfl hl.1 rfl (Nat.le_of_ble_eq_true rfl) ⟨(by show _ ≤ 600130; omega), (by show _ ≤ 7301080; omega)⟩ dL_law_265 (fun r9 hr9 => ?_)
                      subst hr9
                      refine lv_if_eq (tgt := 276) hx hb dL_law_268 (by decide) (fun c268 => ?_) (fun c268 => ?_)
                      · have c268b := b2i_f c268
                        exact absurd c243b (by rw [c268b]; decide)
                      · have c268b := b2i_t c268
                        refine lv_iload hx hb dL_law_271 (lv_at hl 18 rfl) ?_
                        refine lv_if_eq (tgt := 409) hx hb dL_law_273 (by decide) (fun c273 => ?_) (fun c273 => ?_)
                        · exact absurd c273 (fold_ne hinv.1 c268b)
                        · exact J276 ls (lv_sub hl [1, 2, 3, 4, 5, 6, 7, 8, 9, 0, 10, 11, 12, 13, 14, 15, 16, 17, 18, 19, 20] rfl)
    · have c172n : ¬ 10 ≤ o := fun h9 => c172 ((nI_leI (a := 10) (b := o) (by omega) (by omega)).mpr h9)
      refine lv_iload hx hb dL_law_175 (lv_at hl 20 rfl) ?_
      refine lv_aload_n hx hb dL_law_177 rfl (lv_at hl 1 rfl) ?_
      refine lv_iload hx hb dL_law_178 (lv_at hl 21 rfl) ?_
      refine cVi (As := [.int (nI o)]) (rest := [.int (lc (v 3) (wd v k) o)]) hF (mX0_wordOf o (by omega)) C0.mv hC (C0.rc hC) jyX0_wordOf kl_RL_104 ⟨rfl, rfl⟩ ⟨Nat.le_of_ble_eq_true rfl, Nat.le_of_ble_eq_true rfl⟩ rfl hl.1 rfl (Nat.le_of_ble_eq_true rfl) ⟨(by show _ ≤ 600130; omega), (by show _ ≤ 7301080; omega)⟩ dL_law_180 (fun r9 hr9 => ?_)
      subst hr9
      refine lv_aload_n hx hb dL_law_183 rfl (lv_at hl 1 rfl) ?_
      refine lv_iload hx hb dL_law_184 (lv_at hl 16 rfl) ?_
      refine cVi (As := [.int (nI k)]) (rest := [.int (v 3 o), .int (lc (v 3) (wd v k) o)]) hF (mX0_wordIn hinv.1 hde k (by omega)) C0.mv hC (C0.rc hC) jyX0_wordIn kl_RL_107 ⟨rfl, rfl⟩ ⟨Nat.le_of_ble_eq_true rfl, Nat.le_of_ble_eq_true rfl⟩ rfl hl.1 rfl (Nat.le_of_ble_eq_true rfl) ⟨(by show _ ≤ 600130; omega), (by show _ ≤ 7301080; omega)⟩ dL_law_186 (fun r9 hr9 => ?_)
      subst hr9
      refine lv_icmp_ne (tgt := 196) hx hb dL_law_189 (by decide) (fun c189 => ?_) (fun c189 => ?_)
      · refine lv_iconst (v := 0) hx hb dL_law_196 (by decide) ?_
        refine lv_iadd hx hb dL_law_197 ?_
        refine topI (show ((lc (v 3) (wd v k) o) + 0) = lc (v 3) (wd v k) (o + 1) from lc_f' c189 rfl) ?_
        refine lv_istore (lv' := [(22, .int (lc (v 3) (wd v k) (o + 1))), (0, .ref sb), (1, .ref (q 0)), (2, .ref sm), (3, .int t9), (4, .int y0), (5, .long (dgst v st mk N)), (7, .int (nI N)), (8, .int st), (9, .int (nt (v 0) st k)), (10, .int (hd (v 0) k)), (11, .int (ctB (amb v st mk) k)), (12, .int (ctB (umP v (v 3) st) k)), (13, .int (ctB (fold1 v st) k)), (14, .int (sumI (v 1) k)), (15, .int (fam v st mk k)), (16, .long (wys v st mk k)), (18, .int (nI k)), (19, .int (nt (v 0) st (k + 1))), (20, .int (st * (v 0 k))), (21, .int (rdn v st k)), (23, .int (nI o))]) hx hb dL_law_198 hl (by decide) rfl (fun ls hl => ?_)
        refine lv_iinc (v := (nI (o + 1))) (lv' := [(23, .int (nI (o + 1))), (22, .int (lc (v 3) (wd v k) (o + 1))), (0, .ref sb), (1, .ref (q 0)), (2, .ref sm), (3, .int t9), (4, .int y0), (5, .long (dgst v st mk N)), (7, .int (nI N)), (8, .int st), (9, .int (nt (v 0) st k)), (10, .int (hd (v 0) k)), (11, .int (ctB (amb v st mk) k)), (12, .int (ctB (umP v (v 3) st) k)), (13, .int (ctB (fold1 v st) k)), (14, .int (sumI (v 1) k)), (15, .int (fam v st mk k)), (16, .long (wys v st mk k)), (18, .int (nI k)), (19, .int (nt (v 0) st (k + 1))), (20, .int (st * (v 0 k))), (21, .int (rdn v st k))]) hx hb dL_law_200 hl (k := 21) rfl (nI_1 _) (by decide) rfl (fun ls hl => ?_)
        refine lv_goto (tgt := 168) hx hb dL_law_203 (by decide) ?_
        exact ih2 (o + 1) ls (by omega) ⟨by omega, by exact lv_sub hl [2, 3, 4, 5, 6, 7, 8, 9, 10, 11, 12, 13, 14, 15, 16, 17, 18, 19, 20, 21, 1, 0] rfl⟩
      · refine lv_iconst (v := 1) hx hb dL_law_192 (by decide) ?_
        refine lv_goto (tgt := 197) hx hb dL_law_193 (by decide) ?_
        refine lv_iadd hx hb dL_law_197 ?_
        refine topI (show ((lc (v 3) (wd v k) o) + 1) = lc (v 3) (wd v k) (o + 1) from lc_t' c189 rfl) ?_
        refine lv_istore (lv' := [(22, .int (lc (v 3) (wd v k) (o + 1))), (0, .ref sb), (1, .ref (q 0)), (2, .ref sm), (3, .int t9), (4, .int y0), (5, .long (dgst v st mk N)), (7, .int (nI N)), (8, .int st), (9, .int (nt (v 0) st k)), (10, .int (hd (v 0) k)), (11, .int (ctB (amb v st mk) k)), (12, .int (ctB (umP v (v 3) st) k)), (13, .int (ctB (fold1 v st) k)), (14, .int (sumI (v 1) k)), (15, .int (fam v st mk k)), (16, .long (wys v st mk k)), (18, .int (nI k)), (19, .int (nt (v 0) st (k + 1))), (20, .int (st * (v 0 k))), (21, .int (rdn v st k)), (23, .int (nI o))]) hx hb dL_law_198 hl (by decide) rfl (fun ls hl => ?_)
        refine lv_iinc (v := (nI (o + 1))) (lv' := [(23, .int (nI (o + 1))), (22, .int (lc (v 3) (wd v k) (o + 1))), (0, .ref sb), (1, .ref (q 0)), (2, .ref sm), (3, .int t9), (4, .int y0), (5, .long (dgst v st mk N)), (7, .int (nI N)), (8, .int st), (9, .int (nt (v 0) st k)), (10, .int (hd (v 0) k)), (11, .int (ctB (amb v st mk) k)), (12, .int (ctB (umP v (v 3) st) k)), (13, .int (ctB (fold1 v st) k)), (14, .int (sumI (v 1) k)), (15, .int (fam v st mk k)), (16, .long (wys v st mk k)), (18, .int (nI k)), (19, .int (nt (v 0) st (k + 1))), (20, .int (st * (v 0 k))), (21, .int (rdn v st k))]) hx hb dL_law_200 hl (k := 21) rfl (nI_1 _) (by decide) rfl (fun ls hl => ?_)
        refine lv_goto (tgt := 168) hx hb dL_law_203 (by decide) ?_
        exact ih2 (o + 1) ls (by omega) ⟨by omega, by exact lv_sub hl [2, 3, 4, 5, 6, 7, 8, 9, 10, 11, 12, 13, 14, 15, 16, 17, 18, 19, 20, 21, 1, 0] rfl⟩
end P36
