/-! THE LOOP: what a number may be; the 36 cases; the rounds -/
theorem of_toInt {x : Int32} {n : Nat} (hn : n < 1000) (h : x.toInt = (n : Int)) : x = nI n := Int32.toInt_inj.mp (by rw [h, nI_toInt (by omega)])
theorem legC {N : Nat} (hN : N ≤ 16) (x : Int32) : (∃ i, i < N ∧ x = nI i) ∨ (x < 0 ∨ nI N ≤ x) := by
  by_cases h : x < 0
  · exact Or.inr (Or.inl h)
  · by_cases h2 : nI N ≤ x
    · exact Or.inr (Or.inr h2)
    · rw [Int32.lt_iff_toInt_lt, Int32.toInt_zero] at h
      rw [Int32.le_iff_toInt_le, nI_toInt (by omega)] at h2
      exact Or.inl ⟨x.toInt.toNat, by omega, of_toInt (by omega) (by omega)⟩
theorem tenC (x : Int32) : (∃ i, i < 10 ∧ x = nI i) ∨ in10 x = false := by
  cases hb : in10 x with
  | false => exact Or.inr rfl
  | true =>
    simp only [in10, Bool.and_eq_true, decide_eq_true_eq, Int32.le_iff_toInt_le, Int32.lt_iff_toInt_lt] at hb
    have h3 : (10 : Int32).toInt = 10 := by decide
    have h0 : (0 : Int32).toInt = 0 := by decide
    rw [h3, h0] at hb
    exact Or.inl ⟨x.toInt.toNat, by omega, of_toInt (by omega) (by omega)⟩
theorem turnC (x : Int32) : (∃ e, e < 7 ∧ x = nI e - 3) ∨ (x < -3 ∨ 3 < x) := by
  by_cases h : x < -3
  · exact Or.inr (Or.inl h)
  · by_cases h2 : 3 < x
    · exact Or.inr (Or.inr h2)
    · have h3 : (3 : Int32).toInt = 3 := by decide
      have h4 : (-3 : Int32).toInt = -3 := by decide
      rw [Int32.lt_iff_toInt_lt, h4] at h
      rw [Int32.lt_iff_toInt_lt, h3] at h2
      exact Or.inl ⟨(x.toInt + 3).toNat, by omega, Int32.toInt_inj.mp (by rw [nI_3T (by omega)]; omega)⟩
theorem stepC (x : Int32) : (∃ y, y < 4 ∧ x = nI (y + 1)) ∨ (x < 1 ∨ 4 < x) := by
  by_cases h : x < 1
  · exact Or.inr (Or.inl h)
  · by_cases h2 : 4 < x
    · exact Or.inr (Or.inr h2)
    · have h3 : (4 : Int32).toInt = 4 := by decide
      have h4 : (1 : Int32).toInt = 1 := by decide
      rw [Int32.lt_iff_toInt_lt, h4] at h
      rw [Int32.lt_iff_toInt_lt, h3] at h2
      exact Or.inl ⟨(x.toInt - 1).toNat, by omega, of_toInt (by omega) (by omega)⟩
theorem rngC (x hi : Int32) : (¬ x < 1 ∧ x ≤ hi) ∨ (x < 1 ∨ hi < x) := by
  by_cases h : x < 1
  · exact Or.inr (Or.inl h)
  · by_cases h2 : hi < x
    · exact Or.inr (Or.inr h2)
    · exact Or.inl ⟨h, Int32.not_lt.mp h2⟩
theorem and63 (x : Int32) : 0 ≤ (x &&& 63).toInt ∧ (x &&& 63).toInt < 64 := by
  have h1 : (x &&& 63).toInt = (x.toBitVec &&& 63#32).toInt := rfl
  have h2 : (x.toBitVec &&& 63#32).toNat < 64 := by
    rw [BitVec.toNat_and]
    exact Nat.lt_of_le_of_lt Nat.and_le_right (by decide)
  rw [h1, BitVec.toInt_eq_toNat_of_lt (by omega)]
  omega
theorem lenC {L j : Nat} (hL : L ≤ 2048) (hj : j ≤ L) (h : ¬ Int32.ofNat L - 4 < nI j) : j + 4 ≤ L := by
  rw [Int32.lt_iff_toInt_lt, nI_toInt (by omega)] at h
  have h2 : (Int32.ofNat L - 4).toInt = (L : Int) - 4 := pk_sub_toInt (a := L) (b := 4) (by omega) (by decide)
  omega

section P33
variable {p : Program} {l : Launch} {ev : Env} {s : State} {m : MethodId} {args : Array Value} {below : List Frame} {meth : Method} {c : Code} {cells slots : Nat} {Q : State → Prop}
variable {D : va_G} {cyI cyZ cyL : ClassId} {q q2 : Nat → Nat} {o t1 t2 t3 sb L jj : Nat} {xs : Nat → Int32} {N : Nat} {st th md : Int32} {v w w2 : Nat → Nat → Int32} {mk : Nat → Bool} {f : Nat → Int64} {H : Heap} {locs : List Loc} {ls : Array Slot}
theorem r_addLeg (hF : CallFix p m c cL_law 9 s args wA RL) (hfx : FX l s q q2 o t1 t2 t3 sb L xs) (hce : cells + 20 ≤ 601024 ∧ slots + 150 ≤ 7293034) (hj : 4 * jj + 4 ≤ L) (hI : RI D cyI cyZ cyL q q2 o N st v mk w th md w2 f s H) (hS : va_S (A9 s) s.heap H locs) (hl : lv_has ls 9 (LC sb q q2 o jj)) (KK : KT p l ev s m args below meth c cells slots Q D cyI cyZ cyL q q2 o sb jj) : W p l ev room_1 s m args below meth c H locs cells slots Q (F0 m 196 ls []) := by
  have hok := hI.2.1
  have hN := hok.1
  rcases turnC (xs (4 * jj + 1)) with ⟨e, he, e1⟩ | h1
  · rcases rngC (xs (4 * jj + 2)) 9 with ⟨hl1, hl9⟩ | h2
    · rcases tenC (xs (4 * jj + 3)) with ⟨j, hj10, e3⟩ | h3
      · by_cases hN16 : N < 16
        · exact k_addLeg_g hF hfx hce hj e j _ he hl1 hl9 hj10 hN16 hI hS hl e1 rfl e3 KK
        · obtain rfl : N = 16 := by omega
          exact k_addLeg_b4 hF hfx hce hj e he _ j hl1 hl9 hj10 hI hS hl e1 rfl e3 KK
      · exact k_addLeg_b3 hF hfx hce hj e he _ _ hl1 hl9 h3 hI hS hl e1 rfl rfl KK
    · exact k_addLeg_b2 hF hfx hce hj e he _ _ h2 hI hS hl e1 rfl rfl KK
  · exact k_addLeg_b1 hF hfx hce hj _ h1 _ _ hI hS hl rfl rfl rfl KK
theorem r_strikeLeg (hF : CallFix p m c cL_law 9 s args wA RL) (hfx : FX l s q q2 o t1 t2 t3 sb L xs) (hce : cells + 20 ≤ 601024 ∧ slots + 150 ≤ 7293034) (hj : 4 * jj + 4 ≤ L) (hI : RI D cyI cyZ cyL q q2 o N st v mk w th md w2 f s H) (hS : va_S (A9 s) s.heap H locs) (hl : lv_has ls 9 (LC sb q q2 o jj)) (KK : KT p l ev s m args below meth c cells slots Q D cyI cyZ cyL q q2 o sb jj) : W p l ev room_1 s m args below meth c H locs cells slots Q (F0 m 276 ls []) := by
  have hok := hI.2.1
  have hN := hok.1
  cases N with
  | zero => exact k_strikeLeg_b hF hfx hce hj hI hS hl KK
  | succ M => exact k_strikeLeg_g hF hfx hce hj M (by omega) hI hS hl KK
theorem r_bend (hF : CallFix p m c cL_law 9 s args wA RL) (hfx : FX l s q q2 o t1 t2 t3 sb L xs) (hce : cells + 20 ≤ 601024 ∧ slots + 150 ≤ 7293034) (hj : 4 * jj + 4 ≤ L) (hI : RI D cyI cyZ cyL q q2 o N st v mk w th md w2 f s H) (hS : va_S (A9 s) s.heap H locs) (hl : lv_has ls 9 (LC sb q q2 o jj)) (KK : KT p l ev s m args below meth c cells slots Q D cyI cyZ cyL q q2 o sb jj) : W p l ev room_1 s m args below meth c H locs cells slots Q (F0 m 320 ls []) := by
  have hok := hI.2.1
  have hN := hok.1
  rcases legC hN (xs (4 * jj + 1)) with ⟨i, hi, e1⟩ | h1
  · rcases turnC (xs (4 * jj + 2)) with ⟨e, he, e2⟩ | h2
    · exact k_bend_g hF hfx hce hj i e hi he hI hS hl e1 e2 KK
    · exact k_bend_b2 hF hfx hce hj i hi _ h2 hI hS hl e1 rfl KK
  · exact k_bend_b1 hF hfx hce hj _ h1 _ hI hS hl rfl rfl KK
theorem r_setWord (hF : CallFix p m c cL_law 9 s args wA RL) (hfx : FX l s q q2 o t1 t2 t3 sb L xs) (hce : cells + 20 ≤ 601024 ∧ slots + 150 ≤ 7293034) (hj : 4 * jj + 4 ≤ L) (hI : RI D cyI cyZ cyL q q2 o N st v mk w th md w2 f s H) (hS : va_S (A9 s) s.heap H locs) (hl : lv_has ls 9 (LC sb q q2 o jj)) (KK : KT p l ev s m args below meth c cells slots Q D cyI cyZ cyL q q2 o sb jj) : W p l ev room_1 s m args below meth c H locs cells slots Q (F0 m 388 ls []) := by
  have hok := hI.2.1
  have hN := hok.1
  rcases tenC (xs (4 * jj + 1)) with ⟨i, hi, e1⟩ | h1
  · rcases tenC (xs (4 * jj + 2)) with ⟨x, hx, e2⟩ | h2
    · exact k_setWord_g hF hfx hce hj i x hi hx hI hS hl e1 e2 KK
    · exact k_setWord_b2 hF hfx hce hj i hi _ h2 hI hS hl e1 rfl KK
  · exact k_setWord_b1 hF hfx hce hj _ _ h1 hI hS hl rfl rfl KK
theorem r_setStep (hF : CallFix p m c cL_law 9 s args wA RL) (hfx : FX l s q q2 o t1 t2 t3 sb L xs) (hce : cells + 20 ≤ 601024 ∧ slots + 150 ≤ 7293034) (hj : 4 * jj + 4 ≤ L) (hI : RI D cyI cyZ cyL q q2 o N st v mk w th md w2 f s H) (hS : va_S (A9 s) s.heap H locs) (hl : lv_has ls 9 (LC sb q q2 o jj)) (KK : KT p l ev s m args below meth c cells slots Q D cyI cyZ cyL q q2 o sb jj) : W p l ev room_1 s m args below meth c H locs cells slots Q (F0 m 456 ls []) := by
  have hok := hI.2.1
  have hN := hok.1
  rcases stepC (xs (4 * jj + 1)) with ⟨x, hx, e1⟩ | h1
  · exact k_setStep_g hF hfx hce hj x hx hI hS hl e1 KK
  · exact k_setStep_b hF hfx hce hj _ h1 hI hS hl rfl KK
theorem r_legs (hF : CallFix p m c cL_law 9 s args wA RL) (hfx : FX l s q q2 o t1 t2 t3 sb L xs) (hce : cells + 20 ≤ 601024 ∧ slots + 150 ≤ 7293034) (hj : 4 * jj + 4 ≤ L) (hI : RI D cyI cyZ cyL q q2 o N st v mk w th md w2 f s H) (hS : va_S (A9 s) s.heap H locs) (hl : lv_has ls 9 (LC sb q q2 o jj)) (KK : KT p l ev s m args below meth c cells slots Q D cyI cyZ cyL q q2 o sb jj) : W p l ev room_1 s m args below meth c H locs cells slots Q (F0 m 512 ls []) := by
  have hok := hI.2.1
  have hN := hok.1
  exact k_legs hF hfx hce hj hI hS hl KK
theorem r_step (hF : CallFix p m c cL_law 9 s args wA RL) (hfx : FX l s q q2 o t1 t2 t3 sb L xs) (hce : cells + 20 ≤ 601024 ∧ slots + 150 ≤ 7293034) (hj : 4 * jj + 4 ≤ L) (hI : RI D cyI cyZ cyL q q2 o N st v mk w th md w2 f s H) (hS : va_S (A9 s) s.heap H locs) (hl : lv_has ls 9 (LC sb q q2 o jj)) (KK : KT p l ev s m args below meth c cells slots Q D cyI cyZ cyL q q2 o sb jj) : W p l ev room_1 s m args below meth c H locs cells slots Q (F0 m 525 ls []) := by
  have hok := hI.2.1
  have hN := hok.1
  exact k_step hF hfx hce hj hI hS hl KK
theorem r_endX (hF : CallFix p m c cL_law 9 s args wA RL) (hfx : FX l s q q2 o t1 t2 t3 sb L xs) (hce : cells + 20 ≤ 601024 ∧ slots + 150 ≤ 7293034) (hj : 4 * jj + 4 ≤ L) (hI : RI D cyI cyZ cyL q q2 o N st v mk w th md w2 f s H) (hS : va_S (A9 s) s.heap H locs) (hl : lv_has ls 9 (LC sb q q2 o jj)) (KK : KT p l ev s m args below meth c cells slots Q D cyI cyZ cyL q q2 o sb jj) : W p l ev room_1 s m args below meth c H locs cells slots Q (F0 m 538 ls []) := by
  have hok := hI.2.1
  have hN := hok.1
  exact k_endX hF hfx hce hj hI hS hl KK
theorem r_endY (hF : CallFix p m c cL_law 9 s args wA RL) (hfx : FX l s q q2 o t1 t2 t3 sb L xs) (hce : cells + 20 ≤ 601024 ∧ slots + 150 ≤ 7293034) (hj : 4 * jj + 4 ≤ L) (hI : RI D cyI cyZ cyL q q2 o N st v mk w th md w2 f s H) (hS : va_S (A9 s) s.heap H locs) (hl : lv_has ls 9 (LC sb q q2 o jj)) (KK : KT p l ev s m args below meth c cells slots Q D cyI cyZ cyL q q2 o sb jj) : W p l ev room_1 s m args below meth c H locs cells slots Q (F0 m 551 ls []) := by
  have hok := hI.2.1
  have hN := hok.1
  exact k_endY hF hfx hce hj hI hS hl KK
theorem r_stepsHome (hF : CallFix p m c cL_law 9 s args wA RL) (hfx : FX l s q q2 o t1 t2 t3 sb L xs) (hce : cells + 20 ≤ 601024 ∧ slots + 150 ≤ 7293034) (hj : 4 * jj + 4 ≤ L) (hI : RI D cyI cyZ cyL q q2 o N st v mk w th md w2 f s H) (hS : va_S (A9 s) s.heap H locs) (hl : lv_has ls 9 (LC sb q q2 o jj)) (KK : KT p l ev s m args below meth c cells slots Q D cyI cyZ cyL q q2 o sb jj) : W p l ev room_1 s m args below meth c H locs cells slots Q (F0 m 564 ls []) := by
  have hok := hI.2.1
  have hN := hok.1
  exact k_stepsHome hF hfx hce hj hI hS hl KK
theorem r_returns (hF : CallFix p m c cL_law 9 s args wA RL) (hfx : FX l s q q2 o t1 t2 t3 sb L xs) (hce : cells + 20 ≤ 601024 ∧ slots + 150 ≤ 7293034) (hj : 4 * jj + 4 ≤ L) (hI : RI D cyI cyZ cyL q q2 o N st v mk w th md w2 f s H) (hS : va_S (A9 s) s.heap H locs) (hl : lv_has ls 9 (LC sb q q2 o jj)) (KK : KT p l ev s m args below meth c cells slots Q D cyI cyZ cyL q q2 o sb jj) : W p l ev room_1 s m args below meth c H locs cells slots Q (F0 m 577 ls []) := by
  have hok := hI.2.1
  have hN := hok.1
  exact k_returns hF hfx hce hj hI hS hl KK
theorem r_turnOf (hF : CallFix p m c cL_law 9 s args wA RL) (hfx : FX l s q q2 o t1 t2 t3 sb L xs) (hce : cells + 20 ≤ 601024 ∧ slots + 150 ≤ 7293034) (hj : 4 * jj + 4 ≤ L) (hI : RI D cyI cyZ cyL q q2 o N st v mk w th md w2 f s H) (hS : va_S (A9 s) s.heap H locs) (hl : lv_has ls 9 (LC sb q q2 o jj)) (KK : KT p l ev s m args below meth c cells slots Q D cyI cyZ cyL q q2 o sb jj) : W p l ev room_1 s m args below meth c H locs cells slots Q (F0 m 590 ls []) := by
  have hok := hI.2.1
  have hN := hok.1
  rcases legC hN (xs (4 * jj + 1)) with ⟨i, hi, e1⟩ | h1
  · exact k_turnOf_g hF hfx hce hj i hi hI hS hl e1 KK
  · exact k_turnOf_b hF hfx hce hj _ h1 hI hS hl rfl KK
theorem r_headingOf (hF : CallFix p m c cL_law 9 s args wA RL) (hfx : FX l s q q2 o t1 t2 t3 sb L xs) (hce : cells + 20 ≤ 601024 ∧ slots + 150 ≤ 7293034) (hj : 4 * jj + 4 ≤ L) (hI : RI D cyI cyZ cyL q q2 o N st v mk w th md w2 f s H) (hS : va_S (A9 s) s.heap H locs) (hl : lv_has ls 9 (LC sb q q2 o jj)) (KK : KT p l ev s m args below meth c cells slots Q D cyI cyZ cyL q q2 o sb jj) : W p l ev room_1 s m args below meth c H locs cells slots Q (F0 m 646 ls []) := by
  have hok := hI.2.1
  have hN := hok.1
  rcases legC hN (xs (4 * jj + 1)) with ⟨i, hi, e1⟩ | h1
  · exact k_headingOf_g hF hfx hce hj i hi hI hS hl e1 KK
  · exact k_headingOf_b hF hfx hce hj _ h1 hI hS hl rfl KK
theorem r_landmarkOf (hF : CallFix p m c cL_law 9 s args wA RL) (hfx : FX l s q q2 o t1 t2 t3 sb L xs) (hce : cells + 20 ≤ 601024 ∧ slots + 150 ≤ 7293034) (hj : 4 * jj + 4 ≤ L) (hI : RI D cyI cyZ cyL q q2 o N st v mk w th md w2 f s H) (hS : va_S (A9 s) s.heap H locs) (hl : lv_has ls 9 (LC sb q q2 o jj)) (KK : KT p l ev s m args below meth c cells slots Q D cyI cyZ cyL q q2 o sb jj) : W p l ev room_1 s m args below meth c H locs cells slots Q (F0 m 702 ls []) := by
  have hok := hI.2.1
  have hN := hok.1
  rcases legC hN (xs (4 * jj + 1)) with ⟨i, hi, e1⟩ | h1
  · exact k_landmarkOf_g hF hfx hce hj i hi hI hS hl e1 KK
  · exact k_landmarkOf_b hF hfx hce hj _ h1 hI hS hl rfl KK
theorem r_noteOf (hF : CallFix p m c cL_law 9 s args wA RL) (hfx : FX l s q q2 o t1 t2 t3 sb L xs) (hce : cells + 20 ≤ 601024 ∧ slots + 150 ≤ 7293034) (hj : 4 * jj + 4 ≤ L) (hI : RI D cyI cyZ cyL q q2 o N st v mk w th md w2 f s H) (hS : va_S (A9 s) s.heap H locs) (hl : lv_has ls 9 (LC sb q q2 o jj)) (KK : KT p l ev s m args below meth c cells slots Q D cyI cyZ cyL q q2 o sb jj) : W p l ev room_1 s m args below meth c H locs cells slots Q (F0 m 758 ls []) := by
  have hok := hI.2.1
  have hN := hok.1
  rcases legC hN (xs (4 * jj + 1)) with ⟨i, hi, e1⟩ | h1
  · exact k_noteOf_g hF hfx hce hj i hi hI hS hl e1 KK
  · exact k_noteOf_b hF hfx hce hj _ h1 hI hS hl rfl KK
theorem r_isFolded (hF : CallFix p m c cL_law 9 s args wA RL) (hfx : FX l s q q2 o t1 t2 t3 sb L xs) (hce : cells + 20 ≤ 601024 ∧ slots + 150 ≤ 7293034) (hj : 4 * jj + 4 ≤ L) (hI : RI D cyI cyZ cyL q q2 o N st v mk w th md w2 f s H) (hS : va_S (A9 s) s.heap H locs) (hl : lv_has ls 9 (LC sb q q2 o jj)) (KK : KT p l ev s m args below meth c cells slots Q D cyI cyZ cyL q q2 o sb jj) : W p l ev room_1 s m args below meth c H locs cells slots Q (F0 m 814 ls []) := by
  have hok := hI.2.1
  have hN := hok.1
  rcases legC hN (xs (4 * jj + 1)) with ⟨i, hi, e1⟩ | h1
  · exact k_isFolded_g hF hfx hce hj i hi hI hS hl e1 KK
  · exact k_isFolded_b hF hfx hce hj _ h1 hI hS hl rfl KK
theorem r_wordIn (hF : CallFix p m c cL_law 9 s args wA RL) (hfx : FX l s q q2 o t1 t2 t3 sb L xs) (hce : cells + 20 ≤ 601024 ∧ slots + 150 ≤ 7293034) (hj : 4 * jj + 4 ≤ L) (hI : RI D cyI cyZ cyL q q2 o N st v mk w th md w2 f s H) (hS : va_S (A9 s) s.heap H locs) (hl : lv_has ls 9 (LC sb q q2 o jj)) (KK : KT p l ev s m args below meth c cells slots Q D cyI cyZ cyL q q2 o sb jj) : W p l ev room_1 s m args below meth c H locs cells slots Q (F0 m 877 ls []) := by
  have hok := hI.2.1
  have hN := hok.1
  rcases legC hN (xs (4 * jj + 1)) with ⟨i, hi, e1⟩ | h1
  · exact k_wordIn_g hF hfx hce hj i hi hI hS hl e1 KK
  · exact k_wordIn_b hF hfx hce hj _ h1 hI hS hl rfl KK
theorem r_wordOf (hF : CallFix p m c cL_law 9 s args wA RL) (hfx : FX l s q q2 o t1 t2 t3 sb L xs) (hce : cells + 20 ≤ 601024 ∧ slots + 150 ≤ 7293034) (hj : 4 * jj + 4 ≤ L) (hI : RI D cyI cyZ cyL q q2 o N st v mk w th md w2 f s H) (hS : va_S (A9 s) s.heap H locs) (hl : lv_has ls 9 (LC sb q q2 o jj)) (KK : KT p l ev s m args below meth c cells slots Q D cyI cyZ cyL q q2 o sb jj) : W p l ev room_1 s m args below meth c H locs cells slots Q (F0 m 933 ls []) := by
  have hok := hI.2.1
  have hN := hok.1
  rcases tenC (xs (4 * jj + 1)) with ⟨i, hi, e1⟩ | h1
  · exact k_wordOf_g hF hfx hce hj i hi hI hS hl e1 KK
  · exact k_wordOf_b hF hfx hce hj _ h1 hI hS hl rfl KK
theorem r_beats (hF : CallFix p m c cL_law 9 s args wA RL) (hfx : FX l s q q2 o t1 t2 t3 sb L xs) (hce : cells + 20 ≤ 601024 ∧ slots + 150 ≤ 7293034) (hj : 4 * jj + 4 ≤ L) (hI : RI D cyI cyZ cyL q q2 o N st v mk w th md w2 f s H) (hS : va_S (A9 s) s.heap H locs) (hl : lv_has ls 9 (LC sb q q2 o jj)) (KK : KT p l ev s m args below meth c cells slots Q D cyI cyZ cyL q q2 o sb jj) : W p l ev room_1 s m args below meth c H locs cells slots Q (F0 m 989 ls []) := by
  have hok := hI.2.1
  have hN := hok.1
  exact k_beats hF hfx hce hj hI hS hl KK
theorem r_folded (hF : CallFix p m c cL_law 9 s args wA RL) (hfx : FX l s q q2 o t1 t2 t3 sb L xs) (hce : cells + 20 ≤ 601024 ∧ slots + 150 ≤ 7293034) (hj : 4 * jj + 4 ≤ L) (hI : RI D cyI cyZ cyL q q2 o N st v mk w th md w2 f s H) (hS : va_S (A9 s) s.heap H locs) (hl : lv_has ls 9 (LC sb q q2 o jj)) (KK : KT p l ev s m args below meth c cells slots Q D cyI cyZ cyL q q2 o sb jj) : W p l ev room_1 s m args below meth c H locs cells slots Q (F0 m 1002 ls []) := by
  have hok := hI.2.1
  have hN := hok.1
  exact k_folded hF hfx hce hj hI hS hl KK
theorem r_range (hF : CallFix p m c cL_law 9 s args wA RL) (hfx : FX l s q q2 o t1 t2 t3 sb L xs) (hce : cells + 20 ≤ 601024 ∧ slots + 150 ≤ 7293034) (hj : 4 * jj + 4 ≤ L) (hI : RI D cyI cyZ cyL q q2 o N st v mk w th md w2 f s H) (hS : va_S (A9 s) s.heap H locs) (hl : lv_has ls 9 (LC sb q q2 o jj)) (KK : KT p l ev s m args below meth c cells slots Q D cyI cyZ cyL q q2 o sb jj) : W p l ev room_1 s m args below meth c H locs cells slots Q (F0 m 1015 ls []) := by
  have hok := hI.2.1
  have hN := hok.1
  exact k_range hF hfx hce hj hI hS hl KK
theorem r_sungWith (hF : CallFix p m c cL_law 9 s args wA RL) (hfx : FX l s q q2 o t1 t2 t3 sb L xs) (hce : cells + 20 ≤ 601024 ∧ slots + 150 ≤ 7293034) (hj : 4 * jj + 4 ≤ L) (hI : RI D cyI cyZ cyL q q2 o N st v mk w th md w2 f s H) (hS : va_S (A9 s) s.heap H locs) (hl : lv_has ls 9 (LC sb q q2 o jj)) (KK : KT p l ev s m args below meth c cells slots Q D cyI cyZ cyL q q2 o sb jj) : W p l ev room_1 s m args below meth c H locs cells slots Q (F0 m 1028 ls []) := by
  have hok := hI.2.1
  have hN := hok.1
  rcases tenC (xs (4 * jj + 1)) with ⟨i, hi, e1⟩ | h1
  · exact k_sungWith_g hF hfx hce hj i hi hI hS hl e1 KK
  · exact k_sungWith_b hF hfx hce hj _ h1 hI hS hl rfl KK
theorem r_readings (hF : CallFix p m c cL_law 9 s args wA RL) (hfx : FX l s q q2 o t1 t2 t3 sb L xs) (hce : cells + 20 ≤ 601024 ∧ slots + 150 ≤ 7293034) (hj : 4 * jj + 4 ≤ L) (hI : RI D cyI cyZ cyL q q2 o N st v mk w th md w2 f s H) (hS : va_S (A9 s) s.heap H locs) (hl : lv_has ls 9 (LC sb q q2 o jj)) (KK : KT p l ev s m args below meth c cells slots Q D cyI cyZ cyL q q2 o sb jj) : W p l ev room_1 s m args below meth c H locs cells slots Q (F0 m 1084 ls []) := by
  have hok := hI.2.1
  have hN := hok.1
  rcases legC hN (xs (4 * jj + 1)) with ⟨i, hi, e1⟩ | h1
  · exact k_readings_g hF hfx hce hj i hi hI hS hl e1 KK
  · exact k_readings_b hF hfx hce hj _ h1 hI hS hl rfl KK
theorem r_rightReading (hF : CallFix p m c cL_law 9 s args wA RL) (hfx : FX l s q q2 o t1 t2 t3 sb L xs) (hce : cells + 20 ≤ 601024 ∧ slots + 150 ≤ 7293034) (hj : 4 * jj + 4 ≤ L) (hI : RI D cyI cyZ cyL q q2 o N st v mk w th md w2 f s H) (hS : va_S (A9 s) s.heap H locs) (hl : lv_has ls 9 (LC sb q q2 o jj)) (KK : KT p l ev s m args below meth c cells slots Q D cyI cyZ cyL q q2 o sb jj) : W p l ev room_1 s m args below meth c H locs cells slots Q (F0 m 1140 ls []) := by
  have hok := hI.2.1
  have hN := hok.1
  rcases legC hN (xs (4 * jj + 1)) with ⟨i, hi, e1⟩ | h1
  · exact k_rightReading_g hF hfx hce hj i hi hI hS hl e1 KK
  · exact k_rightReading_b hF hfx hce hj _ h1 hI hS hl rfl KK
theorem r_isAmbiguous (hF : CallFix p m c cL_law 9 s args wA RL) (hfx : FX l s q q2 o t1 t2 t3 sb L xs) (hce : cells + 20 ≤ 601024 ∧ slots + 150 ≤ 7293034) (hj : 4 * jj + 4 ≤ L) (hI : RI D cyI cyZ cyL q q2 o N st v mk w th md w2 f s H) (hS : va_S (A9 s) s.heap H locs) (hl : lv_has ls 9 (LC sb q q2 o jj)) (KK : KT p l ev s m args below meth c cells slots Q D cyI cyZ cyL q q2 o sb jj) : W p l ev room_1 s m args below meth c H locs cells slots Q (F0 m 1196 ls []) := by
  have hok := hI.2.1
  have hN := hok.1
  rcases legC hN (xs (4 * jj + 1)) with ⟨i, hi, e1⟩ | h1
  · exact k_isAmbiguous_g hF hfx hce hj i hi hI hS hl e1 KK
  · exact k_isAmbiguous_b hF hfx hce hj _ h1 hI hS hl rfl KK
theorem r_isMended (hF : CallFix p m c cL_law 9 s args wA RL) (hfx : FX l s q q2 o t1 t2 t3 sb L xs) (hce : cells + 20 ≤ 601024 ∧ slots + 150 ≤ 7293034) (hj : 4 * jj + 4 ≤ L) (hI : RI D cyI cyZ cyL q q2 o N st v mk w th md w2 f s H) (hS : va_S (A9 s) s.heap H locs) (hl : lv_has ls 9 (LC sb q q2 o jj)) (KK : KT p l ev s m args below meth c cells slots Q D cyI cyZ cyL q q2 o sb jj) : W p l ev room_1 s m args below meth c H locs cells slots Q (F0 m 1259 ls []) := by
  have hok := hI.2.1
  have hN := hok.1
  rcases legC hN (xs (4 * jj + 1)) with ⟨i, hi, e1⟩ | h1
  · exact k_isMended_g hF hfx hce hj i hi hI hS hl e1 KK
  · exact k_isMended_b hF hfx hce hj _ h1 hI hS hl rfl KK
theorem r_mend (hF : CallFix p m c cL_law 9 s args wA RL) (hfx : FX l s q q2 o t1 t2 t3 sb L xs) (hce : cells + 20 ≤ 601024 ∧ slots + 150 ≤ 7293034) (hj : 4 * jj + 4 ≤ L) (hI : RI D cyI cyZ cyL q q2 o N st v mk w th md w2 f s H) (hS : va_S (A9 s) s.heap H locs) (hl : lv_has ls 9 (LC sb q q2 o jj)) (KK : KT p l ev s m args below meth c cells slots Q D cyI cyZ cyL q q2 o sb jj) : W p l ev room_1 s m args below meth c H locs cells slots Q (F0 m 1322 ls []) := by
  have hok := hI.2.1
  have hN := hok.1
  rcases legC hN (xs (4 * jj + 1)) with ⟨i, hi, e1⟩ | h1
  · cases ha : amb v st mk i with
    | true => exact k_mend_g hF hfx hce hj i hi ha hI hS hl e1 KK
    | false => exact k_mend_b2 hF hfx hce hj i hi ha hI hS hl e1 KK
  · exact k_mend_b1 hF hfx hce hj _ h1 hI hS hl rfl KK
theorem r_mendTo (hF : CallFix p m c cL_law 9 s args wA RL) (hfx : FX l s q q2 o t1 t2 t3 sb L xs) (hce : cells + 20 ≤ 601024 ∧ slots + 150 ≤ 7293034) (hj : 4 * jj + 4 ≤ L) (hI : RI D cyI cyZ cyL q q2 o N st v mk w th md w2 f s H) (hS : va_S (A9 s) s.heap H locs) (hl : lv_has ls 9 (LC sb q q2 o jj)) (KK : KT p l ev s m args below meth c cells slots Q D cyI cyZ cyL q q2 o sb jj) : W p l ev room_1 s m args below meth c H locs cells slots Q (F0 m 1378 ls []) := by
  have hok := hI.2.1
  have hN := hok.1
  rcases rngC (xs (4 * jj + 1)) 1000000 with ⟨h1, h2⟩ | h1
  · exact k_mendTo_g hF hfx hce hj _ h1 h2 hI hS hl rfl KK
  · exact k_mendTo_b hF hfx hce hj _ h1 hI hS hl rfl KK
theorem r_ambiguous (hF : CallFix p m c cL_law 9 s args wA RL) (hfx : FX l s q q2 o t1 t2 t3 sb L xs) (hce : cells + 20 ≤ 601024 ∧ slots + 150 ≤ 7293034) (hj : 4 * jj + 4 ≤ L) (hI : RI D cyI cyZ cyL q q2 o N st v mk w th md w2 f s H) (hS : va_S (A9 s) s.heap H locs) (hl : lv_has ls 9 (LC sb q q2 o jj)) (KK : KT p l ev s m args below meth c cells slots Q D cyI cyZ cyL q q2 o sb jj) : W p l ev room_1 s m args below meth c H locs cells slots Q (F0 m 1434 ls []) := by
  have hok := hI.2.1
  have hN := hok.1
  exact k_ambiguous hF hfx hce hj hI hS hl KK
theorem r_ways (hF : CallFix p m c cL_law 9 s args wA RL) (hfx : FX l s q q2 o t1 t2 t3 sb L xs) (hce : cells + 20 ≤ 601024 ∧ slots + 150 ≤ 7293034) (hj : 4 * jj + 4 ≤ L) (hI : RI D cyI cyZ cyL q q2 o N st v mk w th md w2 f s H) (hS : va_S (A9 s) s.heap H locs) (hl : lv_has ls 9 (LC sb q q2 o jj)) (KK : KT p l ev s m args below meth c cells slots Q D cyI cyZ cyL q q2 o sb jj) : W p l ev room_1 s m args below meth c H locs cells slots Q (F0 m 1447 ls []) := by
  have hok := hI.2.1
  have hN := hok.1
  exact k_ways hF hfx hce hj hI hS hl KK
theorem r_firstAmbiguous (hF : CallFix p m c cL_law 9 s args wA RL) (hfx : FX l s q q2 o t1 t2 t3 sb L xs) (hce : cells + 20 ≤ 601024 ∧ slots + 150 ≤ 7293034) (hj : 4 * jj + 4 ≤ L) (hI : RI D cyI cyZ cyL q q2 o N st v mk w th md w2 f s H) (hS : va_S (A9 s) s.heap H locs) (hl : lv_has ls 9 (LC sb q q2 o jj)) (KK : KT p l ev s m args below meth c cells slots Q D cyI cyZ cyL q q2 o sb jj) : W p l ev room_1 s m args below meth c H locs cells slots Q (F0 m 1461 ls []) := by
  have hok := hI.2.1
  have hN := hok.1
  exact k_firstAmbiguous hF hfx hce hj hI hS hl KK
theorem r_ambiguousWith (hF : CallFix p m c cL_law 9 s args wA RL) (hfx : FX l s q q2 o t1 t2 t3 sb L xs) (hce : cells + 20 ≤ 601024 ∧ slots + 150 ≤ 7293034) (hj : 4 * jj + 4 ≤ L) (hI : RI D cyI cyZ cyL q q2 o N st v mk w th md w2 f s H) (hS : va_S (A9 s) s.heap H locs) (hl : lv_has ls 9 (LC sb q q2 o jj)) (KK : KT p l ev s m args below meth c cells slots Q D cyI cyZ cyL q q2 o sb jj) : W p l ev room_1 s m args below meth c H locs cells slots Q (F0 m 1474 ls []) := by
  have hok := hI.2.1
  have hN := hok.1
  rcases tenC (xs (4 * jj + 1)) with ⟨i, hi, e1⟩ | h1
  · rcases tenC (xs (4 * jj + 2)) with ⟨x, hx, e2⟩ | h2
    · exact k_ambiguousWith_g hF hfx hce hj i x hi hx hI hS hl e1 e2 KK
    · exact k_ambiguousWith_b2 hF hfx hce hj i hi _ h2 hI hS hl e1 rfl KK
  · exact k_ambiguousWith_b1 hF hfx hce hj _ _ h1 hI hS hl rfl rfl KK
theorem r_bestWord (hF : CallFix p m c cL_law 9 s args wA RL) (hfx : FX l s q q2 o t1 t2 t3 sb L xs) (hce : cells + 20 ≤ 601024 ∧ slots + 150 ≤ 7293034) (hj : 4 * jj + 4 ≤ L) (hI : RI D cyI cyZ cyL q q2 o N st v mk w th md w2 f s H) (hS : va_S (A9 s) s.heap H locs) (hl : lv_has ls 9 (LC sb q q2 o jj)) (KK : KT p l ev s m args below meth c cells slots Q D cyI cyZ cyL q q2 o sb jj) : W p l ev room_1 s m args below meth c H locs cells slots Q (F0 m 1542 ls []) := by
  have hok := hI.2.1
  have hN := hok.1
  rcases tenC (xs (4 * jj + 1)) with ⟨i, hi, e1⟩ | h1
  · exact k_bestWord_g hF hfx hce hj i hi hI hS hl e1 KK
  · exact k_bestWord_b hF hfx hce hj _ h1 hI hS hl rfl KK
theorem r_bestStep (hF : CallFix p m c cL_law 9 s args wA RL) (hfx : FX l s q q2 o t1 t2 t3 sb L xs) (hce : cells + 20 ≤ 601024 ∧ slots + 150 ≤ 7293034) (hj : 4 * jj + 4 ≤ L) (hI : RI D cyI cyZ cyL q q2 o N st v mk w th md w2 f s H) (hS : va_S (A9 s) s.heap H locs) (hl : lv_has ls 9 (LC sb q q2 o jj)) (KK : KT p l ev s m args below meth c cells slots Q D cyI cyZ cyL q q2 o sb jj) : W p l ev room_1 s m args below meth c H locs cells slots Q (F0 m 1598 ls []) := by
  have hok := hI.2.1
  have hN := hok.1
  exact k_bestStep hF hfx hce hj hI hS hl KK
theorem r_meanNote (hF : CallFix p m c cL_law 9 s args wA RL) (hfx : FX l s q q2 o t1 t2 t3 sb L xs) (hce : cells + 20 ≤ 601024 ∧ slots + 150 ≤ 7293034) (hj : 4 * jj + 4 ≤ L) (hI : RI D cyI cyZ cyL q q2 o N st v mk w th md w2 f s H) (hS : va_S (A9 s) s.heap H locs) (hl : lv_has ls 9 (LC sb q q2 o jj)) (KK : KT p l ev s m args below meth c cells slots Q D cyI cyZ cyL q q2 o sb jj) : W p l ev room_1 s m args below meth c H locs cells slots Q (F0 m 1611 ls []) := by
  have hok := hI.2.1
  have hN := hok.1
  exact k_meanNote hF hfx hce hj hI hS hl KK
theorem r_digest (hF : CallFix p m c cL_law 9 s args wA RL) (hfx : FX l s q q2 o t1 t2 t3 sb L xs) (hce : cells + 20 ≤ 601024 ∧ slots + 150 ≤ 7293034) (hj : 4 * jj + 4 ≤ L) (hI : RI D cyI cyZ cyL q q2 o N st v mk w th md w2 f s H) (hS : va_S (A9 s) s.heap H locs) (hl : lv_has ls 9 (LC sb q q2 o jj)) (KK : KT p l ev s m args below meth c cells slots Q D cyI cyZ cyL q q2 o sb jj) : W p l ev room_1 s m args below meth c H locs cells slots Q (F0 m 1652 ls []) := by
  have hok := hI.2.1
  have hN := hok.1
  exact k_digest hF hfx hce hj hI hS hl KK
theorem tsw {k : Nat} {off : Int} {x : Int32} {tgt : Nat} (hF : CallFix p m c cL_law 9 s args wA RL) (hx9 : x.toInt = (k : Int)) (hk : k < 36) (ho : (#[157, 237, 281, 349, 417, 473, 486, 499, 512, 525, 538, 551, 607, 663, 719, 775, 838, 894, 950, 963, 976, 989, 1045, 1101, 1157, 1220, 1283, 1339, 1395, 1408, 1422, 1435, 1503, 1559, 1572, 1613] : Array Int)[k]? = some off) (ht : (39 : Int) + off = (tgt : Int))
    (kk : W p l ev room_1 s m args below meth c H locs cells slots Q (F0 m tgt ls [])) : W p l ev room_1 s m args below meth c H locs cells slots Q (F0 m 39 ls [.int x]) :=
  lv_tableIn hF.1 hF.2.1 dL_law_39 (by omega) (by omega) (by rw [show (x.toInt - 0).toNat = k by omega]; exact ho) ht kk
theorem r_all (hF : CallFix p m c cL_law 9 s args wA RL) (hfx : FX l s q q2 o t1 t2 t3 sb L xs) (hce : cells + 20 ≤ 601024 ∧ slots + 150 ≤ 7293034) (hj : 4 * jj + 4 ≤ L) (hI : RI D cyI cyZ cyL q q2 o N st v mk w th md w2 f s H) (hS : va_S (A9 s) s.heap H locs) (hl : lv_has ls 9 (LC sb q q2 o jj)) (KK : KT p l ev s m args below meth c cells slots Q D cyI cyZ cyL q q2 o sb jj) : W p l ev room_1 s m args below meth c H locs cells slots Q (F0 m 32 ls []) := by
  obtain ⟨hx, hb, hml, hown, hts⟩ := id hF
  obtain ⟨hXs, hbl, hL⟩ := hfx.2.2.1
  refine lv_aload_n hx hb dL_law_32 rfl (lv_at hl 0 rfl) ?_
  refine lv_iload hx hb dL_law_33 (lv_at hl 4 rfl) ?_
  refine scr hF hXs hbl hL hS rfl (show 4 * jj < L by omega) rfl dL_law_35 ?_
  refine lv_bipush (v := 63) hx hb dL_law_36 (by decide) ?_
  refine lv_iand hx hb dL_law_38 ?_
  have h63 := and63 (xs (4 * jj))
  generalize xs (4 * jj) &&& 63 = z at h63 ⊢
  by_cases hz : 35 < z.toInt
  · refine lv_tableOut (tgt := 1666) hx hb dL_law_39 (Or.inr hz) rfl ?_
    exact W.widen (by omega) (by omega) (KK N st v mk w th md w2 f H locs ls hI hS hl)
  · obtain ⟨k, hk, hzk⟩ : ∃ k : Nat, k < 36 ∧ z.toInt = (k : Int) := ⟨z.toInt.toNat, by omega, by omega⟩
    match k, hk, hzk with
    | 0, _, h9 => exact tsw hF h9 (by decide) rfl rfl (r_addLeg hF hfx hce hj hI hS hl KK)
    | 1, _, h9 => exact tsw hF h9 (by decide) rfl rfl (r_strikeLeg hF hfx hce hj hI hS hl KK)
    | 2, _, h9 => exact tsw hF h9 (by decide) rfl rfl (r_bend hF hfx hce hj hI hS hl KK)
    | 3, _, h9 => exact tsw hF h9 (by decide) rfl rfl (r_setWord hF hfx hce hj hI hS hl KK)
    | 4, _, h9 => exact tsw hF h9 (by decide) rfl rfl (r_setStep hF hfx hce hj hI hS hl KK)
    | 5, _, h9 => exact tsw hF h9 (by decide) rfl rfl (r_legs hF hfx hce hj hI hS hl KK)
    | 6, _, h9 => exact tsw hF h9 (by decide) rfl rfl (r_step hF hfx hce hj hI hS hl KK)
    | 7, _, h9 => exact tsw hF h9 (by decide) rfl rfl (r_endX hF hfx hce hj hI hS hl KK)
    | 8, _, h9 => exact tsw hF h9 (by decide) rfl rfl (r_endY hF hfx hce hj hI hS hl KK)
    | 9, _, h9 => exact tsw hF h9 (by decide) rfl rfl (r_stepsHome hF hfx hce hj hI hS hl KK)
    | 10, _, h9 => exact tsw hF h9 (by decide) rfl rfl (r_returns hF hfx hce hj hI hS hl KK)
    | 11, _, h9 => exact tsw hF h9 (by decide) rfl rfl (r_turnOf hF hfx hce hj hI hS hl KK)
    | 12, _, h9 => exact tsw hF h9 (by decide) rfl rfl (r_headingOf hF hfx hce hj hI hS hl KK)
    | 13, _, h9 => exact tsw hF h9 (by decide) rfl rfl (r_landmarkOf hF hfx hce hj hI hS hl KK)
    | 14, _, h9 => exact tsw hF h9 (by decide) rfl rfl (r_noteOf hF hfx hce hj hI hS hl KK)
    | 15, _, h9 => exact tsw hF h9 (by decide) rfl rfl (r_isFolded hF hfx hce hj hI hS hl KK)
    | 16, _, h9 => exact tsw hF h9 (by decide) rfl rfl (r_wordIn hF hfx hce hj hI hS hl KK)
    | 17, _, h9 => exact tsw hF h9 (by decide) rfl rfl (r_wordOf hF hfx hce hj hI hS hl KK)
    | 18, _, h9 => exact tsw hF h9 (by decide) rfl rfl (r_beats hF hfx hce hj hI hS hl KK)
    | 19, _, h9 => exact tsw hF h9 (by decide) rfl rfl (r_folded hF hfx hce hj hI hS hl KK)
    | 20, _, h9 => exact tsw hF h9 (by decide) rfl rfl (r_range hF hfx hce hj hI hS hl KK)
    | 21, _, h9 => exact tsw hF h9 (by decide) rfl rfl (r_sungWith hF hfx hce hj hI hS hl KK)
    | 22, _, h9 => exact tsw hF h9 (by decide) rfl rfl (r_readings hF hfx hce hj hI hS hl KK)
    | 23, _, h9 => exact tsw hF h9 (by decide) rfl rfl (r_rightReading hF hfx hce hj hI hS hl KK)
    | 24, _, h9 => exact tsw hF h9 (by decide) rfl rfl (r_isAmbiguous hF hfx hce hj hI hS hl KK)
    | 25, _, h9 => exact tsw hF h9 (by decide) rfl rfl (r_isMended hF hfx hce hj hI hS hl KK)
    | 26, _, h9 => exact tsw hF h9 (by decide) rfl rfl (r_mend hF hfx hce hj hI hS hl KK)
    | 27, _, h9 => exact tsw hF h9 (by decide) rfl rfl (r_mendTo hF hfx hce hj hI hS hl KK)
    | 28, _, h9 => exact tsw hF h9 (by decide) rfl rfl (r_ambiguous hF hfx hce hj hI hS hl KK)
    | 29, _, h9 => exact tsw hF h9 (by decide) rfl rfl (r_ways hF hfx hce hj hI hS hl KK)
    | 30, _, h9 => exact tsw hF h9 (by decide) rfl rfl (r_firstAmbiguous hF hfx hce hj hI hS hl KK)
    | 31, _, h9 => exact tsw hF h9 (by decide) rfl rfl (r_ambiguousWith hF hfx hce hj hI hS hl KK)
    | 32, _, h9 => exact tsw hF h9 (by decide) rfl rfl (r_bestWord hF hfx hce hj hI hS hl KK)
    | 33, _, h9 => exact tsw hF h9 (by decide) rfl rfl (r_bestStep hF hfx hce hj hI hS hl KK)
    | 34, _, h9 => exact tsw hF h9 (by decide) rfl rfl (r_meanNote hF hfx hce hj hI hS hl KK)
    | 35, _, h9 => exact tsw hF h9 (by decide) rfl rfl (r_digest hF hfx hce hj hI hS hl KK)
    | k + 36, h8, _ => exact absurd h8 (by omega)
end P33
