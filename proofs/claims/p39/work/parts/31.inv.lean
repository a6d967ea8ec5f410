/-! WHAT STAYS OF A SONG: numbers in their ranges; a mark is on a verse of several readings -/
def Inv (N : Nat) (st : Int32) (v : Nat → Nat → Int32) (mk : Nat → Bool) : Prop := Ok N st v ∧ (∀ k : Nat, k < N → ∃ x : Nat, x < 9 ∧ v 1 k = nI (x + 1)) ∧ (∀ i : Nat, i < 10 → ∃ x : Nat, x < 10 ∧ v 3 i = nI x) ∧ ∀ k : Nat, k < N → mk k = true → 1 < rdn v st k
section INV
variable {N M k e j x y : Nat} {st : Int32} {v v2 w : Nat → Nat → Int32} {mk mk2 : Nat → Bool}
theorem rdn_cong (h0 : ∀ i : Nat, i ≤ k → v2 0 i = v 0 i) (h2 : v2 2 k = v 2 k) (h3 : v2 3 = v 3) : rdn v2 st k = rdn v st k := by
  unfold rdn wd
  rw [h2, h3, h0 k (Nat.le_refl k), nt_cong (fun i hi => h0 i (by omega))]
theorem addV_lt (t ln m : Int32) {i : Nat} (hk : k < N) : addV v N t ln m i k = v i k := by
  have hn := Nat.ne_of_lt hk
  unfold addV
  by_cases h2 : i = 2
  · subst h2; simp [va_up, upd, hn]
  · by_cases h1 : i = 1
    · subst h1; simp [va_up, upd, hn]
    · by_cases h0 : i = 0
      · subst h0; simp [va_up, upd, hn]
      · simp [va_up, h2, h1, h0]
theorem addV_0 (t ln m : Int32) : addV v N t ln m 0 N = t := by unfold addV; simp [va_up, upd]
theorem addV_1 (t ln m : Int32) : addV v N t ln m 1 N = ln := by unfold addV; simp [va_up, upd]
theorem addV_2 (t ln m : Int32) : addV v N t ln m 2 N = m := by unfold addV; simp [va_up, upd]
theorem addV_3 (t ln m : Int32) : addV v N t ln m 3 = v 3 := by unfold addV; simp [va_up]
theorem Inv.add (h : Inv N st v mk) (hN : N < 16) (he : e < 7) (hx : x < 9) (hj : j < 10) : Inv (N + 1) st (addV v N (nI e - 3) (nI (x + 1)) (nI j)) (va_up mk N false) := by
  refine ⟨addV_ok h.1 hN he hj, fun k hk => ?_, fun i hi => ?_, fun k hk hm => ?_⟩
  · by_cases hkN : k = N
    · subst hkN
      exact ⟨x, hx, addV_1 _ _ _⟩
    · rw [addV_lt _ _ _ (by omega)]
      exact h.2.1 k (by omega)
  · rw [addV_3]; exact h.2.2.1 i hi
  · by_cases hkN : k = N
    · subst hkN
      simp [va_up] at hm
    · rw [rdn_cong (v := v) (fun i hi => addV_lt _ _ _ (by omega)) (addV_lt _ _ _ (by omega)) (addV_3 _ _ _)]
      exact h.2.2.2 k (by omega) (by simpa [va_up, hkN] using hm)
theorem Inv.strike (h : Inv (M + 1) st v mk) : Inv M st v mk :=
  ⟨⟨Nat.le_trans (Nat.le_succ M) h.1.1, h.1.2⟩, fun k hk => h.2.1 k (by omega), h.2.2.1, fun k hk => h.2.2.2 k (by omega)⟩
theorem Inv.bend (h : Inv N st v mk) (he : e < 7) (i : Nat) (hm : ∀ k, k < N → mk2 k = false) : Inv N st (va_up v 0 (upd (v 0) i (nI e - 3))) mk2 :=
  ⟨bend_ok h.1 he, fun k hk => h.2.1 k hk, h.2.2.1, fun k hk h9 => by rw [hm k hk] at h9; cases h9⟩
theorem Inv.word (h : Inv N st v mk) (hx : x < 10) (i : Nat) (hm : ∀ k, k < N → mk2 k = false) : Inv N st (va_up v 3 (upd (v 3) i (nI x))) mk2 := by
  refine ⟨h.1, fun k hk => h.2.1 k hk, fun k hk => ?_, fun k hk h9 => by rw [hm k hk] at h9; cases h9⟩
  have e1 : (va_up v 3 (upd (v 3) i (nI x))) 3 k = upd (v 3) i (nI x) k := by simp [va_up]
  rw [e1]
  by_cases hki : k = i
  · exact ⟨x, hx, by simp [upd, hki]⟩
  · simp only [upd, if_neg hki]
    exact h.2.2.1 k hk
theorem Inv.step (h : Inv N st v mk) (hy : y < 4) (hm : ∀ k, k < N → mk2 k = false) : Inv N (nI (y + 1)) v mk2 :=
  ⟨⟨h.1.1, ⟨y, hy, rfl⟩, h.1.2.2⟩, h.2.1, h.2.2.1, fun k hk h9 => by rw [hm k hk] at h9; cases h9⟩
theorem Inv.mend (h : Inv N st v mk) (ha : amb v st mk k = true) : Inv N st v (va_up mk k true) := by
  refine ⟨h.1, h.2.1, h.2.2.1, fun i hi h9 => ?_⟩
  by_cases hik : i = k
  · subst hik
    exact (amb_iff.mp ha).2
  · exact h.2.2.2 i hi (by simpa [va_up, hik] using h9)
theorem Inv.cong (h : Inv N st v mk) (hm : ∀ k, k < N → mk k = mk2 k) : Inv N st v mk2 := ⟨h.1, h.2.1, h.2.2.1, fun k hk h9 => h.2.2.2 k hk (by rw [hm k hk]; exact h9)⟩
theorem word_der {K : Nat} {z : Int32} (h : Der K st v w) : Der K st (va_up v 3 (upd (v 3) j z)) w := h
theorem rowV_mk (h : ∀ k : Nat, k < N → mk k = mk2 k) : ∀ k : Nat, k < N → ∀ i : Nat, i < 6 → rowV v st mk k i = rowV v st mk2 k i := by
  intro k hk i hi
  match i, hi with
  | 0, _ => rfl
  | 1, _ => rfl
  | 2, _ => rfl
  | 3, _ => rfl
  | 4, _ => rfl
  | 5, _ =>
    show b2i (mk k) = b2i (mk2 k)
    rw [h k hk]
/-- a remainder of a number that is not negative -/
theorem bel {n : Nat} (h0 : 0 < n) (h1 : n ≤ 1000) (z : Int32) : ∃ i : Nat, i < n ∧ (z &&& 2147483647) - (z &&& 2147483647) / nI n * nI n = nI i := by
  have h2 : 0 ≤ (z &&& 2147483647).toInt := by
    have e1 : (z &&& 2147483647).toInt = (z.toBitVec &&& 2147483647#32).toInt := rfl
    have e2 : (z.toBitVec &&& 2147483647#32).toNat ≤ 2147483647 := by
      rw [BitVec.toNat_and]
      exact Nat.and_le_right
    rw [e1, BitVec.toInt_eq_toNat_of_lt (by omega)]
    omega
  have h3 : ((z &&& 2147483647) - (z &&& 2147483647) / nI n * nI n).toInt = (z &&& 2147483647).toInt.tmod n := by
    rw [rem_toInt, nI_toInt (by omega)]
  rw [Int.tmod_eq_emod_of_nonneg h2] at h3
  have h4 := Int.emod_nonneg (z &&& 2147483647).toInt (b := (n : Int)) (by omega)
  have h5 := Int.emod_lt_of_pos (z &&& 2147483647).toInt (b := (n : Int)) (by omega)
  refine ⟨((z &&& 2147483647).toInt % n).toNat, by omega, Int32.toInt_inj.mp ?_⟩
  rw [h3, nI_toInt (by omega)]
  omega
theorem nI_1l (n : Nat) : 1 + nI n = nI (n + 1) := by rw [nI_succ, Int32.add_comm]
theorem lenL {x : Nat} (hx : x < 9) : ¬ nI (x + 1) < 1 ∧ nI (x + 1) ≤ 9 := by
  match x, hx with
  | 0, _ => decide
  | 1, _ => decide
  | 2, _ => decide
  | 3, _ => decide
  | 4, _ => decide
  | 5, _ => decide
  | 6, _ => decide
  | 7, _ => decide
  | 8, _ => decide
end INV
/-! THE TWO SONGS -/
def LX (D : va_G) (cyI cyZ cyA : ClassId) (q : Nat → Nat) (sm wd B N : Nat) (st : Int32) (v : Nat → Nat → Int32) (mk : Nat → Bool) (w : Nat → Nat → Int32) (lg : Nat) (a : Nat → Nat) : State → Heap → Prop := fun U H =>
  (C0 D cyI cyZ q (nI N) st v mk w U H ∧ S0 D cyI cyA sm wd lg a N st (v 3) (rowV v st mk) U H) ∧ (Inv N st v mk ∧ Der N st v w) ∧ (∀ z, own 10 q z → B ≤ z) ∧ (∀ z, sown sm wd lg a N z → B ≤ z) ∧ ∀ z, own 10 q z → ¬ sown sm wd lg a N z
def LW (D : va_G) (cyI cyZ cyA : ClassId) (q : Nat → Nat) (sm wd B : Nat) : State → Heap → Prop := fun U H => ∃ (N : Nat) (st : Int32) (v : Nat → Nat → Int32) (mk : Nat → Bool) (w : Nat → Nat → Int32) (lg : Nat) (a : Nat → Nat), LX D cyI cyZ cyA q sm wd B N st v mk w lg a U H
theorem LW.mv {D : va_G} {cyI cyZ cyA : ClassId} {q : Nat → Nat} {sm wd B : Nat} : Mv (LW D cyI cyZ cyA q sm wd B) := fun _ _ _ al ⟨N9, s9, v9, m9, w9, l9, a9, h⟩ => ⟨N9, s9, v9, m9, w9, l9, a9, ⟨C0.mv _ _ _ al h.1.1, S0.mv _ _ _ al h.1.2⟩, h.2⟩
def XA (D : va_G) (cyI cyZ cyA : ClassId) (q : Nat → Nat) (sm wd B t1 t2 : Nat) : State → Heap → Prop := fun U H => LW D cyI cyZ cyA q sm wd B U H ∧ ST t1 t2 (fun z => B ≤ z) U H ∧ TH (fun z => B ≤ z) U H ∧ B ≤ H.size
theorem XA.wm {D : va_G} {cyI cyZ cyA : ClassId} {q : Nat → Nat} {sm wd B t1 t2 : Nat} : Wm (XA D cyI cyZ cyA q sm wd B t1 t2) := fun u U H al h => ⟨LW.mv.wm u U H al h.1, ST.mv.wm u U H al h.2.1, TH.wm u U H al h.2.2.1, h.2.2.2⟩
