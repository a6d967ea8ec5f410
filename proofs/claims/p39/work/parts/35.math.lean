/-! WHAT HOLDS OF EVERY SONG -/
section MATH
variable {N M k e j x : Nat} {st : Int32} {v : Nat → Nat → Int32} {mk mk2 : Nat → Bool}
theorem nt_25 (h : Ok N st v) (k : Nat) : ∃ a : Nat, a < 25 ∧ nt (v 0) st k = nI a := by
  obtain ⟨s, hs, e⟩ := h.2.1
  subst e
  exact nt_rng h hs k
theorem nt_lo (h : Ok N st v) (k : Nat) : ¬ nt (v 0) st k < 0 := by
  obtain ⟨a, ha, e⟩ := nt_25 h k
  rw [e]; exact nI_pos (by omega)
theorem nt_hi (h : Ok N st v) (k : Nat) : nt (v 0) st k ≤ 24 := by
  obtain ⟨a, ha, e⟩ := nt_25 h k
  rw [e]; exact nI_le (b := 24) (by omega) (by omega)
theorem nt_f (h : fold1 v st k = false) : nt (v 0) st (k + 1) = nt (v 0) st k + st * v 0 k := by
  show nb (nt (v 0) st k) (v 0 k * st) = _
  rw [Int32.mul_comm st (v 0 k)]
  exact (nb_f h).symm
theorem nt_t (h : fold1 v st k = true) : nt (v 0) st (k + 1) = nt (v 0) st k - st * v 0 k := by
  show nb (nt (v 0) st k) (v 0 k * st) = _
  rw [Int32.mul_comm st (v 0 k)]
  exact (nb_t h).symm
theorem lv_fin : ∀ a, a < 25 → lv9 (nI a) = false := by decide +kernel
theorem fold_ne (h : Ok N st v) (hf : fold1 v st k = true) : ¬ st * v 0 k = 0 := by
  intro e
  obtain ⟨a, ha, ea⟩ := nt_25 h k
  unfold fold1 at hf
  rw [Int32.mul_comm, e, Int32.add_zero, ea, lv_fin a ha] at hf
  cases hf
theorem st_fin : ∀ e, e < 7 → ∀ s, s < 4 → ¬ nI e - 3 = 0 → ¬ nI (s + 1) * (nI e - 3) = 0 := by decide +kernel
theorem st_ne (h : Ok N st v) (k : Nat) (h0 : ¬ v 0 k = 0) : ¬ st * v 0 k = 0 := by
  obtain ⟨s, hs, es⟩ := h.2.1
  obtain ⟨e, he, ev⟩ := h.2.2.1 k
  rw [es, ev]
  rw [ev] at h0
  exact st_fin e he s hs h0
theorem tw_ne (h : tw (nt (v 0) st k) (v 0 k) st = true) : ¬ v 0 k = 0 := by
  unfold tw at h
  simp only [Bool.and_eq_true, decide_eq_true_eq] at h
  exact h.1
theorem fold_tw (h : Ok N st v) (hf : fold1 v st k = true) : tw (nt (v 0) st k) (v 0 k) st = true := by
  have h0 : ¬ v 0 k = 0 := fun e => fold_ne h hf (by rw [e, Int32.mul_zero])
  refine tw_1 h0 ?_
  unfold fold1 at hf
  rw [Int32.mul_comm st (v 0 k)]
  exact hf
abbrev shN (v : Nat → Nat → Int32) (k : Nat) : Nat := lcN (v 3) (wd v k) 10
theorem sh_le (v : Nat → Nat → Int32) (k : Nat) : shN v k ≤ 10 := lcN_le _ _ _
theorem sh_lt (h : Ok N st v) (k : Nat) : lcN (v 3) (wd v k) (ix (v 2 k)) + 1 ≤ shN v k := by
  have h1 : lcN (v 3) (wd v k) (ix (v 2 k) + 1) = lcN (v 3) (wd v k) (ix (v 2 k)) + 1 := by rw [lcN, if_pos (show v 3 (ix (v 2 k)) = wd v k from rfl)]
  have h2 := lcN_mono (W := v 3) (x := wd v k) (show ix (v 2 k) + 1 ≤ 10 from okM10 h k)
  show _ ≤ lcN (v 3) (wd v k) 10
  omega
def rdN (v : Nat → Nat → Int32) (st : Int32) (k : Nat) : Nat := (if tw (nt (v 0) st k) (v 0 k) st = true then 2 else 1) * shN v k
theorem rd_N (v : Nat → Nat → Int32) (st : Int32) (k : Nat) : rdn v st k = nI (rdN v st k) := by
  unfold rdn rdN
  rw [lc_N]
  split
  · rw [show (2 : Int32) = nI 2 from rfl, pk_mul]
  · rw [Int32.one_mul, Nat.one_mul]
theorem rdN_le (v : Nat → Nat → Int32) (st : Int32) (k : Nat) : rdN v st k ≤ 20 := by
  have := sh_le v k
  unfold rdN
  split <;> omega
theorem rdN_1 (h : Ok N st v) (k : Nat) : 1 ≤ rdN v st k := by
  have := sh_lt h k
  unfold rdN
  split <;> omega
theorem rr_N (h : Ok N st v) (k : Nat) : ∃ r : Nat, r < rdN v st k ∧ rrn v st k = nI r := by
  have h1 : lcN (v 3) (wd v k) (ix (v 2 k)) + 1 ≤ lcN (v 3) (wd v k) 10 := sh_lt h k
  have h2 : lcN (v 3) (wd v k) 10 ≤ 10 := sh_le v k
  unfold rrn rdN
  rw [lc_N, lc_N, show shN v k = lcN (v 3) (wd v k) 10 from rfl]
  by_cases ht : tw (nt (v 0) st k) (v 0 k) st = true
  · rw [ht, if_pos rfl]
    by_cases hp : 0 < v 0 k
    · rw [show (true && decide (0 < v 0 k)) = true by simp [hp], if_pos rfl, nI_add]
      exact ⟨_, by omega, rfl⟩
    · rw [show (true && decide (0 < v 0 k)) = false by simp [hp], if_neg (by decide), Int32.zero_add]
      exact ⟨_, by omega, rfl⟩
  · have hf : tw (nt (v 0) st k) (v 0 k) st = false := by simpa using ht
    rw [hf, Bool.false_and, if_neg (by decide), if_neg (by decide), Int32.zero_add]
    exact ⟨_, by omega, rfl⟩
theorem rr_lo (h : Ok N st v) (k : Nat) : ¬ rrn v st k < 0 := by
  obtain ⟨r, hr, e⟩ := rr_N h k
  have := rdN_le v st k
  rw [e]; exact nI_pos (by omega)
theorem rr_hi (h : Ok N st v) (k : Nat) : ¬ rdn v st k ≤ rrn v st k := by
  obtain ⟨r, hr, e⟩ := rr_N h k
  have := rdN_le v st k
  rw [e, rd_N]
  exact nI_ge hr (by omega)
theorem rd_two (h : ¬ rdn v st k = lc (v 3) (wd v k) 10) : tw (nt (v 0) st k) (v 0 k) st = true := by
  cases ht : tw (nt (v 0) st k) (v 0 k) st with
  | true => rfl
  | false =>
    exfalso
    apply h
    unfold rdn
    rw [ht, if_neg (by decide), Int32.one_mul]
theorem tw_two (h : tw (nt (v 0) st k) (v 0 k) st = true) : rdn v st k = 2 * lc (v 3) (wd v k) 10 := by
  unfold rdn
  rw [h, if_pos rfl]
theorem lt_2 {x : Int32} (h : 1 < x) : 2 ≤ x := by
  rw [Int32.lt_iff_toInt_lt] at h
  rw [Int32.le_iff_toInt_le]
  have h1 : (1 : Int32).toInt = 1 := by decide
  have h2 : (2 : Int32).toInt = 2 := by decide
  omega
theorem fam_f (hk : k ≤ 16) (ha : amb v st mk k = false) : fam v st mk (k + 1) = fam v st mk k := by
  by_cases h : 0 ≤ fam v st mk k
  · exact fam_s1 hk h
  · exact fam_s3 hk h ha
/-- counting in numbers -/
def cN (P : Nat → Bool) : Nat → Nat
  | 0 => 0
  | n + 1 => cN P n + (if P n = true then 1 else 0)
theorem ct_N (P : Nat → Bool) : ∀ n : Nat, ctB P n = nI (cN P n)
  | 0 => rfl
  | n + 1 => by
    rw [ctB, cN, ct_N P n]
    split
    · exact nI_1 _
    · rfl
theorem cN_le (P : Nat → Bool) : ∀ n : Nat, cN P n ≤ n
  | 0 => Nat.le_refl _
  | n + 1 => by
    have := cN_le P n
    rw [cN]
    split <;> omega
theorem cN_0 {P : Nat → Bool} : ∀ {n : Nat}, cN P n = 0 → ∀ k, k < n → P k = false
  | 0, _, k, hk => absurd hk (Nat.not_lt_zero _)
  | n + 1, h, k, hk => by
    rw [cN] at h
    by_cases hkn : k = n
    · subst hkn
      cases hp : P k with
      | false => rfl
      | true => rw [hp, if_pos rfl] at h; omega
    · exact cN_0 (n := n) (by omega) k (by omega)
theorem cN_z {P : Nat → Bool} : ∀ {n : Nat}, (∀ k, k < n → P k = false) → cN P n = 0
  | 0, _ => rfl
  | n + 1, h => by rw [cN, cN_z (fun k hk => h k (by omega)), h n (by omega)]; rfl
theorem ct_lo (P : Nat → Bool) {n : Nat} (hn : n ≤ 16) : ¬ ctB P n < 0 := by
  have := cN_le P n
  rw [ct_N]; exact nI_pos (by omega)
theorem ct_hi (P : Nat → Bool) {n : Nat} (hn : n ≤ 16) : ctB P n ≤ nI n := by
  rw [ct_N]; exact nI_le (cN_le P n) (by omega)
/-- each verse is sung with one of the ten words -/
theorem sung_one {f : Nat → Int32} {x0 : Nat} {z : Int32} (hz : z = nI x0) (hx0 : x0 < 100) : ∀ n : Nat, n ≤ 100 → sumI (fun o => f o + (if z = nI o then 1 else 0)) n = sumI f n + (if x0 < n then 1 else 0)
  | 0, _ => by rw [if_neg (Nat.not_lt_zero _)]; rfl
  | n + 1, h => by
    rw [sumI, sumI, sung_one hz hx0 n (by omega)]
    have e : (z = nI n) ↔ x0 = n := by
      rw [hz]
      exact nI_eq (by omega) (by omega)
    by_cases hn : x0 = n
    · rw [if_pos (e.mpr hn), if_neg (by omega), if_pos (by omega), Int32.add_zero, Int32.add_assoc]
    · rw [if_neg (fun q => hn (e.mp q)), Int32.add_zero]
      by_cases hl : x0 < n
      · rw [if_pos hl, if_pos (by omega), Int32.add_assoc, Int32.add_comm 1 (f n), ← Int32.add_assoc]
      · rw [if_neg hl, if_neg (by omega), Int32.add_zero, Int32.add_zero]
theorem sung_all (h : Inv N st v mk) : ∀ n : Nat, sumI (fun o => sung v (nI o) n) 10 = nI n
  | 0 => rfl
  | n + 1 => by
    obtain ⟨x0, hx0, hxe⟩ := h.2.2.1 (ix (v 2 n)) (okM10 h.1 n)
    have e : (fun o => sung v (nI o) (n + 1)) = fun o => sung v (nI o) n + (if wd v n = nI o then 1 else 0) := by
      funext o
      unfold sung
      rw [ctB]
      unfold sgP
      by_cases hw : wd v n = nI o
      · rw [if_pos (by simp [hw]), if_pos hw]
      · rw [if_neg (by simp [hw]), if_neg hw, Int32.add_zero]
    rw [e, sung_one (z := wd v n) hxe (by omega) 10 (by omega), sung_all h n, if_pos hx0, nI_1]
/-- the ways, as a number -/
def wN (v : Nat → Nat → Int32) (st : Int32) (mk : Nat → Bool) : Nat → Nat
  | 0 => 1
  | k + 1 => if amb v st mk k = true then min 1000000000 (wN v st mk k * rdN v st k) else wN v st mk k
theorem wN_b (h : Ok N st v) (mk : Nat → Bool) : ∀ n : Nat, 1 ≤ wN v st mk n ∧ wN v st mk n ≤ 1000000000
  | 0 => ⟨Nat.le_refl _, by show 1 ≤ 1000000000; decide⟩
  | n + 1 => by
    have ih := wN_b h mk n
    rw [wN]
    split
    · have h1 := Nat.mul_le_mul ih.1 (rdN_1 h n)
      omega
    · exact ih
theorem wy_N (h : Ok N st v) (mk : Nat → Bool) : ∀ n : Nat, wys v st mk n = lN (wN v st mk n)
  | 0 => rfl
  | n + 1 => by
    have ih := wN_b h mk n
    have hr := rdN_le v st n
    rw [wys, wN, wy_N h mk n, rd_N, nI_l (by omega), lN_mul]
    split
    · have hb : wN v st mk n * rdN v st n ≤ 1000000000 * 20 := Nat.mul_le_mul ih.2 hr
      by_cases h9 : 1000000000 < wN v st mk n * rdN v st n
      · have h8 : (1000000000 : Int64) < lN (wN v st mk n * rdN v st n) := by
          rw [Int64.lt_iff_toInt_lt, pk_lT (by omega)]
          have e : (1000000000 : Int64).toInt = 1000000000 := by decide
          omega
        rw [if_pos h8, Nat.min_eq_left (by omega)]
        rfl
      · have h8 : ¬ (1000000000 : Int64) < lN (wN v st mk n * rdN v st n) := by
          rw [Int64.lt_iff_toInt_lt, pk_lT (by omega)]
          have e : (1000000000 : Int64).toInt = 1000000000 := by decide
          omega
        rw [if_neg h8, Nat.min_eq_right (by omega)]
    · rfl
theorem wN_2 (h : Ok N st v) {mk : Nat → Bool} : ∀ {n k : Nat}, k < n → amb v st mk k = true → 2 ≤ wN v st mk n
  | 0, k, hk, _ => absurd hk (Nat.not_lt_zero _)
  | n + 1, k, hk, ha => by
    have ih := wN_b h mk n
    rw [wN]
    by_cases hkn : k = n
    · subst hkn
      rw [if_pos ha]
      have h2 := (amb_iff.mp ha).2
      rw [rd_N] at h2
      have hr := rdN_le v st k
      have h3 : 1 < rdN v st k := (nI_ltI (a := 1) (by omega) (by omega)).mp h2
      have h4 : 1 * 2 ≤ wN v st mk k * rdN v st k := Nat.mul_le_mul ih.1 h3
      omega
    · have h2 := wN_2 h (n := n) (k := k) (by omega) ha
      split
      · have h4 : 2 * 1 ≤ wN v st mk n * rdN v st n := Nat.mul_le_mul h2 (rdN_1 h n)
        omega
      · exact h2
theorem ways_1 (h : Ok N st v) (hc : ¬ ctB (amb v st mk) N = 0) : ¬ wys v st mk N = 1 := by
  intro e
  have hb := wN_b h mk N
  have hN := h.1
  have hc2 : ¬ cN (amb v st mk) N = 0 := fun q => hc (by rw [ct_N, q]; rfl)
  have : ∃ k, k < N ∧ amb v st mk k = true := by
    apply Classical.byContradiction
    intro q
    exact hc2 (cN_z (fun k hk => by
      cases ha : amb v st mk k with
      | false => rfl
      | true => exact absurd ⟨k, hk, ha⟩ q))
  obtain ⟨k, hk, ha⟩ := this
  have h2 := wN_2 h hk ha
  rw [wy_N h] at e
  have e2 := congrArg Int64.toInt e
  rw [pk_lT (by omega)] at e2
  have e3 : (1 : Int64).toInt = 1 := by decide
  omega
theorem ways_0 (h : Ok N st v) (hc : ctB (amb v st mk) N = 0) : wys v st mk N = 1 := by
  have hN := h.1
  have h1 := cN_le (amb v st mk) N
  have hc2 : cN (amb v st mk) N = 0 := by
    rw [ct_N] at hc
    exact (nI_eq (b := 0) (by omega) (by omega)).mp hc
  exact wys_1 (cN_0 hc2)
theorem wN_mono (h : Ok N st v) (hm : ∀ k, amb v st mk2 k = true → amb v st mk k = true) : ∀ n : Nat, wN v st mk2 n ≤ wN v st mk n
  | 0 => Nat.le_refl _
  | n + 1 => by
    have ih := wN_mono h hm n
    have hb := wN_b h mk n
    have hb2 := wN_b h mk2 n
    have hr := rdN_1 h n
    rw [wN, wN]
    by_cases h2 : amb v st mk2 n = true
    · rw [if_pos h2, if_pos (hm n h2)]
      have := Nat.mul_le_mul_right (rdN v st n) ih
      omega
    · rw [if_neg h2]
      split
      · have : wN v st mk2 n * 1 ≤ wN v st mk n * rdN v st n := Nat.mul_le_mul ih hr
        omega
      · exact ih
theorem wys_le (h : Ok N st v) (hm : ∀ k, amb v st mk2 k = true → amb v st mk k = true) : wys v st mk2 N ≤ wys v st mk N := by
  have hb := wN_b h mk N
  have hb2 := wN_b h mk2 N
  rw [wy_N h, wy_N h, Int64.le_iff_toInt_le, pk_lT (by omega), pk_lT (by omega)]
  have := wN_mono h hm N
  omega
/-- the smallest place of the least -/
theorem amin_all {f : Nat → Int32} : ∀ {n i : Nat}, i ≤ n → f (amin f n) ≤ f i
  | 0, i, hi => by rw [Nat.le_zero.mp hi]; exact Int32.le_refl _
  | n + 1, i, hi => by
    by_cases h : f (n + 1) < f (amin f n)
    · rw [amin_t h]
      by_cases hin : i = n + 1
      · rw [hin]; exact Int32.le_refl _
      · exact Int32.le_trans (Int32.le_of_lt h) (amin_all (by omega))
    · rw [amin_f h]
      by_cases hin : i = n + 1
      · rw [hin]; exact Int32.not_lt.mp h
      · exact amin_all (by omega)
theorem amin_first {f : Nat → Int32} : ∀ {n i : Nat}, i < amin f n → ¬ f i = f (amin f n)
  | 0, i, hi => absurd hi (Nat.not_lt_zero _)
  | n + 1, i, hi => by
    by_cases h : f (n + 1) < f (amin f n)
    · rw [amin_t h] at hi ⊢
      intro e
      have h1 := amin_all (f := f) (n := n) (i := i) (by omega)
      rw [e] at h1
      exact absurd h (Int32.not_lt.mpr h1)
    · rw [amin_f h] at hi ⊢
      exact amin_first hi
theorem unW_self (v : Nat → Nat → Int32) (st : Int32) (N j : Nat) : unW v st N j (v 3 j) = unm v (v 3) st N := by unfold unW; rw [upd_self]
theorem fst_sat {P : Nat → Bool} : ∀ {n : Nat}, fst P n < n → P (fst P n) = true
  | 0, h => absurd h (Nat.not_lt_zero _)
  | n + 1, h => by
    rw [fst] at h ⊢
    by_cases h1 : fst P n < n
    · rw [if_pos h1]; exact fst_sat h1
    · rw [if_neg h1] at h ⊢
      by_cases ha : P n = true
      · rw [if_pos ha]; exact ha
      · rw [if_neg ha] at h; exact absurd h (Nat.lt_irrefl _)
theorem fst_nil {P : Nat → Bool} : ∀ {n : Nat}, ¬ fst P n < n → ∀ k, k < n → P k = false
  | 0, _, k, hk => absurd hk (Nat.not_lt_zero _)
  | n + 1, h, k, hk => by
    rw [fst] at h
    by_cases h1 : fst P n < n
    · rw [if_pos h1] at h; exact absurd (by omega) h
    · rw [if_neg h1] at h
      by_cases ha : P n = true
      · rw [if_pos ha] at h; exact absurd (Nat.lt_succ_self n) h
      · by_cases hkn : k = n
        · subst hkn; simpa using ha
        · exact fst_nil h1 k (by omega)
theorem fam_some (h : Ok N st v) (hc : ¬ ctB (amb v st mk) N = 0) : ∃ f : Nat, f < N ∧ fam v st mk N = nI f ∧ amb v st mk f = true := by
  by_cases h1 : fst (amb v st mk) N < N
  · exact ⟨_, h1, by unfold fam; rw [if_pos h1], fst_sat h1⟩
  · exact absurd (by rw [ct_N, cN_z (fst_nil h1)]; rfl) hc
/-- a mark -/
theorem amb_up {f : Nat} (h : amb v st (va_up mk f true) k = true) : amb v st mk k = true := by
  by_cases hk : k = f
  · subst hk
    rw [amb_o (by simp [va_up])] at h
    cases h
  · have h2 := amb_iff.mp h
    exact amb_iff.mpr ⟨by simpa [va_up, hk] using h2.1, h2.2⟩
theorem amb_ne {f : Nat} (hk : ¬ k = f) : amb v st (va_up mk f true) k = amb v st mk k := by
  unfold amb
  simp [va_up, hk]
theorem cN_mend {f : Nat} (hf : amb v st mk f = true) : ∀ {n : Nat}, (n ≤ f → cN (amb v st (va_up mk f true)) n = cN (amb v st mk) n) ∧ (f < n → cN (amb v st (va_up mk f true)) n + 1 = cN (amb v st mk) n)
  | 0 => ⟨fun _ => rfl, fun h => absurd h (Nat.not_lt_zero _)⟩
  | n + 1 => by
    have ih := cN_mend hf (n := n)
    refine ⟨fun h => ?_, fun h => ?_⟩
    · rw [cN, cN, ih.1 (by omega), amb_ne (by omega)]
    · rw [cN, cN]
      by_cases hnf : n = f
      · subst hnf
        rw [ih.1 (Nat.le_refl _), hf, amb_o (by simp [va_up])]
        simp
      · rw [amb_ne hnf]
        have := ih.2 (by omega)
        omega
theorem ct_mend {f : Nat} (hN : N ≤ 16) (hf : amb v st mk f = true) (hfN : f < N) : ctB (amb v st (va_up mk f true)) N = ctB (amb v st mk) N - 1 := by
  have h1 := (cN_mend hf (n := N)).2 hfN
  have h2 := cN_le (amb v st mk) N
  rw [ct_N, ct_N, ← h1, nI_succ, Int32.add_sub_cancel]
/-- marks until there are few enough ways -/
theorem md_all (h : Ok N st v) {W9 : Int64} (h1 : 1 ≤ W9) : ∀ (f c : Nat) (m9 : Nat → Bool), ucn m9 N ≤ f → Inv N st v m9 →
    Inv N st v (mdF v st N W9 f c m9).2 ∧ (mdF v st N W9 f c m9).1 + cN (amb v st (mdF v st N W9 f c m9).2) N = c + cN (amb v st m9) N ∧ wys v st (mdF v st N W9 f c m9).2 N ≤ W9 ∧ ((mdF v st N W9 f c m9).1 = c → wys v st m9 N ≤ W9) ∧ (c < (mdF v st N W9 f c m9).1 → W9 < wys v st m9 N) ∧ c ≤ (mdF v st N W9 f c m9).1
  | 0, c, m9, hu, hi => by
    have hw : wys v st m9 N = 1 := wys_1 (fun k hk => amb_o (ucn_0 (by omega) k hk))
    show Inv N st v m9 ∧ c + cN (amb v st m9) N = c + cN (amb v st m9) N ∧ wys v st m9 N ≤ W9 ∧ (c = c → wys v st m9 N ≤ W9) ∧ (c < c → W9 < wys v st m9 N) ∧ c ≤ c
    rw [hw]
    exact ⟨hi, rfl, h1, fun _ => h1, fun q => absurd q (Nat.lt_irrefl _), Nat.le_refl _⟩
  | f + 1, c, m9, hu, hi => by
    by_cases hw : W9 < wys v st m9 N
    · obtain ⟨b, hb, hbN⟩ := mst_go h1 hw
      have ha := (mst_amb hb).2
      have hmb := (amb_iff.mp ha).1
      have hu2 := (ucn_up hmb (n := N)).2 hbN
      rw [mdF_go (Nat.succ_pos f) hw hb, show f.succ - 1 = f from rfl]
      obtain ⟨g1, g2, g3, g4, g5, g6⟩ := md_all h h1 f (c + 1) (va_up m9 b true) (by omega) (hi.mend ha)
      have hc := (cN_mend ha (n := N)).2 hbN
      refine ⟨g1, by omega, g3, fun q => by omega, fun _ => hw, by omega⟩
    · rw [mdF_stop hw]
      exact ⟨hi, rfl, Int64.not_lt.mp hw, fun _ => Int64.not_lt.mp hw, fun q => absurd q (Nat.lt_irrefl _), Nat.le_refl _⟩
theorem md_most {x : Nat} (hx : x < 50) : (1 : Int64) ≤ Int32.toInt64 (nI (x + 1)) ∧ ¬ nI (x + 1) < 1 ∧ nI (x + 1) ≤ 1000000 := by
  refine ⟨?_, ?_, ?_⟩
  · rw [Int64.le_iff_toInt_le, Int32.toInt_toInt64, nI_toInt (by omega)]
    have e : (1 : Int64).toInt = 1 := by decide
    omega
  · exact nI_nlt (b := 1) (by omega) (by omega)
  · exact nI_le (b := 1000000) (by omega) (by decide)
theorem md_le (f c : Nat) (W9 : Int64) (mk : Nat → Bool) : (mdF v st N W9 f c mk).1 ≤ c + f := by
  induction f generalizing c mk with
  | zero => exact Nat.le_refl _
  | succ f ih =>
    rw [mdF]
    split
    · split
      · show c ≤ _
        omega
      · have := ih (c + 1)
        rename_i b _
        have h9 := this (va_up mk b true)
        omega
    · show c ≤ _
      omega
/-- home is no farther than all beats -/
theorem lx_fin : ∀ l : Nat, l < 9 → ∀ h : Nat, h < 8 → -((l : Int) + 1) ≤ (nI (l + 1) * eaT h).toInt ∧ (nI (l + 1) * eaT h).toInt ≤ (l : Int) + 1 := by decide +kernel
theorem ly_fin : ∀ l : Nat, l < 9 → ∀ h : Nat, h < 8 → -((l : Int) + 1) ≤ (nI (l + 1) * noT h).toInt ∧ (nI (l + 1) * noT h).toInt ≤ (l : Int) + 1 := by decide +kernel
theorem ml_add {x y : Int32} (h1 : -1000 ≤ x.toInt + y.toInt) (h2 : x.toInt + y.toInt < 1000) : (x + y).toInt = x.toInt + y.toInt := by
  rw [Int32.toInt_add, Int.bmod_eq_of_le (by omega) (by omega)]
theorem home_b (h : Inv N st v mk) : ∀ n : Nat, n ≤ N → ∃ b : Nat, b ≤ 9 * n ∧ sumI (v 1) n = nI b ∧ (-(b : Int) ≤ (px (v 0) (v 1) n).toInt ∧ (px (v 0) (v 1) n).toInt ≤ b) ∧ (-(b : Int) ≤ (py (v 0) (v 1) n).toInt ∧ (py (v 0) (v 1) n).toInt ≤ b)
  | 0, _ => ⟨0, Nat.le_refl _, rfl, ⟨by show -((0 : Nat) : Int) ≤ (0 : Int32).toInt; decide, by show (0 : Int32).toInt ≤ ((0 : Nat) : Int); decide⟩, ⟨by show -((0 : Nat) : Int) ≤ (0 : Int32).toInt; decide, by show (0 : Int32).toInt ≤ ((0 : Nat) : Int); decide⟩⟩
  | n + 1, hn => by
    have hN := h.1.1
    obtain ⟨b, hb, eb, hx, hy⟩ := home_b h n (by omega)
    obtain ⟨l, hl, el⟩ := h.2.1 n (by omega)
    have h8 := hd_ix8 h.1 (n + 1)
    have fx := lx_fin l hl _ h8
    have fy := ly_fin l hl _ h8
    refine ⟨b + (l + 1), by omega, by rw [sumI, eb, el, nI_add], ?_, ?_⟩
    · rw [px, el, ml_add (by omega) (by omega)]
      omega
    · rw [py, el, ml_add (by omega) (by omega)]
      omega
theorem ab_le {x : Int32} {b : Nat} (hb : b ≤ 1000) (h : -(b : Int) ≤ x.toInt ∧ x.toInt ≤ b) : ab x ≤ nI b := by
  unfold ab
  rw [Int32.le_iff_toInt_le, nI_toInt (by omega)]
  split
  · omega
  · have e : (0 - x).toInt = 0 - x.toInt := by
      rw [Int32.toInt_sub, Int32.toInt_zero, Int.bmod_eq_of_le (by omega) (by omega)]
    omega
theorem mx_le {x y z : Int32} (h1 : x ≤ z) (h2 : y ≤ z) : mx x y ≤ z := by
  unfold mx
  split
  · exact h2
  · exact h1
theorem home_le (h : Inv N st v mk) : mx (ab (px (v 0) (v 1) N)) (ab (py (v 0) (v 1) N)) ≤ sumI (v 1) N := by
  have hN := h.1.1
  obtain ⟨b, hb, eb, hx, hy⟩ := home_b h N (Nat.le_refl _)
  rw [eb]
  exact mx_le (ab_le (by omega) hx) (ab_le (by omega) hy)
/-- the range -/
theorem rg_b (h : Ok N st v) : ∀ n : Nat, ∃ lo hi : Nat, lo ≤ 24 ∧ hi ≤ 24 ∧ lo9 (v 0) st n = nI lo ∧ hi9 (v 0) st n = nI hi ∧ (0 < n → lo ≤ hi)
  | 0 => ⟨24, 0, by decide, by decide, rfl, rfl, fun q => absurd q (Nat.lt_irrefl _)⟩
  | n + 1 => by
    obtain ⟨lo, hi, h1, h2, e1, e2, h3⟩ := rg_b h n
    obtain ⟨a, ha, ea⟩ := nt_25 h (n + 1)
    refine ⟨min lo a, max hi a, by omega, by omega, ?_, ?_, fun _ => ?_⟩
    · rw [lo9, e1, ea, mn]
      by_cases q : a < lo
      · rw [if_pos (nI_lt q (by omega)), Nat.min_eq_right (by omega)]
      · rw [if_neg (nI_nlt (by omega) (by omega)), Nat.min_eq_left (by omega)]
    · rw [hi9, e2, ea, mx]
      by_cases q : hi < a
      · rw [if_pos (nI_lt q (by omega)), Nat.max_eq_right (by omega)]
      · rw [if_neg (nI_nlt (by omega) (by omega)), Nat.max_eq_left (by omega)]
    · omega
theorem rg_N (h : Ok N st v) : ∃ r : Nat, r ≤ 24 ∧ rng v st N = nI r := by
  by_cases h0 : N = 0
  · exact ⟨0, by decide, (rng_0 h0).symm⟩
  · obtain ⟨lo, hi, h1, h2, e1, e2, h3⟩ := rg_b h N
    have h4 := h3 (by omega)
    refine ⟨hi - lo, by omega, ?_⟩
    rw [← rng_1 (by omega), e1, e2, pk_sub h4]
theorem rg_lo (h : Ok N st v) : ¬ rng v st N < 0 := by
  obtain ⟨r, hr, e⟩ := rg_N h
  rw [e]; exact nI_pos (by omega)
theorem rg_hi (h : Ok N st v) : rng v st N ≤ 24 := by
  obtain ⟨r, hr, e⟩ := rg_N h
  rw [e]; exact nI_le (b := 24) hr (by decide)
end MATH
