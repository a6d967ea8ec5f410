/-! the class's two tables -/
def ST (t1 t2 : Nat) (A : Nat → Prop) : State → Heap → Prop := fun U H => va_Z "MapSongs" "STEP_EAST" "[I" (.ref t1) A U H ∧ va_T .int t1 8 (fun j => .int (eaT j)) A U H ∧ va_Z "MapSongs" "STEP_NORTH" "[I" (.ref t2) A U H ∧ va_T .int t2 8 (fun j => .int (noT j)) A U H
theorem ST.mv {t1 t2 : Nat} {A : Nat → Prop} : Mv (ST t1 t2 A) := fun _ _ _ a h => ⟨va_Z.moved a h.1, va_T.moved a h.2.1, va_Z.moved a h.2.2.1, va_T.moved a h.2.2.2⟩
theorem ST.kept {t1 t2 : Nat} {A : Nat → Prop} {U : State} {H H1 : Heap} (h : ST t1 t2 A U H) (hq : ∀ a : Nat, a < H.size → ¬ A a → H1[a]? = H[a]?) : ST t1 t2 A U H1 := ⟨va_Z.kept h.1 hq, va_T.kept h.2.1 hq, va_Z.kept h.2.2.1 hq, va_T.kept h.2.2.2 hq⟩
theorem ST.narrow {t1 t2 : Nat} {A B : Nat → Prop} {U : State} {H : Heap} (h : ST t1 t2 A U H) (hAB : ∀ q, B q → A q) : ST t1 t2 B U H := ⟨va_Z.narrow h.1 hAB, va_T.narrow h.2.1 hAB, va_Z.narrow h.2.2.1 hAB, va_T.narrow h.2.2.2 hAB⟩
def SM1 (t1 : Nat) (A : Nat → Prop) : State → Heap → Prop := fun U H => va_Z "MapSongsModel" "EAST" "[I" (.ref t1) A U H ∧ va_T .int t1 8 (fun j => .int (eaT j)) A U H
theorem SM1.mv {t1 : Nat} {A : Nat → Prop} : Mv (SM1 t1 A) := fun _ _ _ a h => ⟨va_Z.moved a h.1, va_T.moved a h.2⟩
theorem SM1.kept {t1 : Nat} {A : Nat → Prop} {U : State} {H H1 : Heap} (h : SM1 t1 A U H) (hq : ∀ a : Nat, a < H.size → ¬ A a → H1[a]? = H[a]?) : SM1 t1 A U H1 := ⟨va_Z.kept h.1 hq, va_T.kept h.2 hq⟩
theorem SM1.narrow {t1 : Nat} {A B : Nat → Prop} {U : State} {H : Heap} (h : SM1 t1 A U H) (hAB : ∀ q, B q → A q) : SM1 t1 B U H := ⟨va_Z.narrow h.1 hAB, va_T.narrow h.2 hAB⟩

/-! plain facts -/
def in10 (x : Int32) : Bool := decide (0 ≤ x) && decide (x < 10)
theorem in10_nI {j : Nat} (h : j < 10) : in10 (nI j) = true := by
  have h1 : (0 : Int32) ≤ nI j := (nI_leI (a := 0) (by omega) (by omega)).mpr (Nat.zero_le _)
  have h2 : nI j < 10 := (nI_ltI (b := 10) (by omega) (by omega)).mpr h
  simp [in10, h1, h2]
theorem tn_lo {e : Nat} (h : e < 7) : ¬ nI e - 3 < -3 := by
  rw [show (-3 : Int32) = nI 0 - 3 by decide, nI_3lt (by omega) (by omega)]; omega
theorem tn_hi {e : Nat} (h : e < 7) : nI e - 3 ≤ 3 := by
  rw [show (3 : Int32) = nI 6 - 3 by decide]
  exact (nI_3le (by omega) (by omega)).mpr (by omega)
theorem nI_dec {i : Nat} (h : 0 < i) : nI i - 1 = nI (i - 1) := by
  obtain ⟨k, rfl⟩ : ∃ k, i = k + 1 := ⟨i - 1, by omega⟩
  exact nI_pred k
theorem der_pred {K i : Nat} {st : Int32} {v w : Nat → Nat → Int32} (h : Der K st v w) (h0 : 0 < i) (hi : i ≤ K) : w 0 (i - 1) = hd (v 0) i ∧ w 1 (i - 1) = px (v 0) (v 1) i ∧ w 2 (i - 1) = py (v 0) (v 1) i ∧ w 3 (i - 1) = nt (v 0) st i := by
  obtain ⟨k, rfl⟩ : ∃ k, i = k + 1 := ⟨i - 1, by omega⟩
  exact h k (by omega)
theorem tsa_t {a b c : Int32} {j : Nat} (h : nb b ((nI j - 3) * c) = a) : tsa a b c (j + 1) = tsa a b c j + 1 := by rw [tsa, if_pos h]
theorem tsa_f {a b c : Int32} {j : Nat} (h : ¬ nb b ((nI j - 3) * c) = a) : tsa a b c (j + 1) = tsa a b c j := by rw [tsa, if_neg h]
theorem lc_t {W : Nat → Int32} {x : Int32} {j : Nat} (h : W j = x) : lc W x (j + 1) = lc W x j + 1 := by rw [lc, if_pos h]
theorem lc_f {W : Nat → Int32} {x : Int32} {j : Nat} (h : ¬ W j = x) : lc W x (j + 1) = lc W x j := by rw [lc, if_neg h]
theorem ctB_t {P : Nat → Bool} {j : Nat} (h : P j = true) : ctB P (j + 1) = ctB P j + 1 := by rw [ctB, if_pos h]
theorem ctB_f {P : Nat → Bool} {j : Nat} (h : P j = false) : ctB P (j + 1) = ctB P j := by rw [ctB, h]; rfl
theorem okM {N : Nat} {st : Int32} {v : Nat → Nat → Int32} (h : Ok N st v) (k : Nat) : v 2 k = nI (ix (v 2 k)) := by
  obtain ⟨j, hj, e⟩ := h.2.2.2 k
  rw [e, ix, nI_clamp (by omega)]
theorem okM10 {N : Nat} {st : Int32} {v : Nat → Nat → Int32} (h : Ok N st v) (k : Nat) : ix (v 2 k) < 10 := by
  obtain ⟨j, hj, e⟩ := h.2.2.2 k
  rw [e, ix, nI_clamp (by omega)]
  exact hj
set_option maxRecDepth 100000 in
theorem fin1 : ∀ a, a < 25 → ∀ e, e < 7 → ∀ s, s < 4 → (∃ b, b < 25 ∧ nb (nI a) ((nI e - 3) * nI (s + 1)) = nI b) ∧ tsa (nb (nI a) ((nI e - 3) * nI (s + 1))) (nI a) (nI (s + 1)) 7 = (if tw (nI a) (nI e - 3) (nI (s + 1)) = true then 2 else 1) ∧ tsa (nb (nI a) ((nI e - 3) * nI (s + 1))) (nI a) (nI (s + 1)) e = (if (tw (nI a) (nI e - 3) (nI (s + 1)) && decide (0 < nI e - 3)) = true then 1 else 0) := by decide +kernel
theorem nt_rng {N : Nat} {st : Int32} {v : Nat → Nat → Int32} (h : Ok N st v) {s : Nat} (hs : s < 4) : ∀ k : Nat, ∃ a : Nat, a < 25 ∧ nt (v 0) (nI (s + 1)) k = nI a
  | 0 => ⟨12, by decide, rfl⟩
  | k + 1 => by
    obtain ⟨a, ha, ea⟩ := nt_rng h hs k
    obtain ⟨e, he, ee⟩ := h.2.2.1 k
    obtain ⟨b, hb, eb⟩ := (fin1 a ha e he s hs).1
    exact ⟨b, hb, by rw [nt, ea, ee, eb]⟩
theorem tsa7 {N : Nat} {st by1 : Int32} {v : Nat → Nat → Int32} (h : Ok N st v) (hb : ∃ s : Nat, s < 4 ∧ by1 = nI (s + 1)) (k : Nat) : tsa (nt (v 0) by1 (k + 1)) (nt (v 0) by1 k) by1 7 = (if tw (nt (v 0) by1 k) (v 0 k) by1 = true then 2 else 1) := by
  obtain ⟨s, hs, rfl⟩ := hb
  obtain ⟨a, ha, ea⟩ := nt_rng h hs k
  obtain ⟨e, he, ee⟩ := h.2.2.1 k
  rw [nt, ea, ee]
  exact (fin1 a ha e he s hs).2.1
theorem tsaE {N : Nat} {st : Int32} {v : Nat → Nat → Int32} (h : Ok N st v) {e k : Nat} (he : e < 7) (ee : v 0 k = nI e - 3) : tsa (nt (v 0) st (k + 1)) (nt (v 0) st k) st e = (if (tw (nt (v 0) st k) (v 0 k) st && decide (0 < v 0 k)) = true then 1 else 0) := by
  obtain ⟨s, hs, rfl⟩ := h.2.1
  obtain ⟨a, ha, ea⟩ := nt_rng h hs k
  rw [nt, ea, ee]
  exact (fin1 a ha e he s hs).2.2
theorem rdn_c {N K i : Nat} {st : Int32} {v w : Nat → Nat → Int32} (h : Ok N st v) (hd : Der K st v w) (hi : i < K) : tsa (w 3 i) (nt (v 0) st i) st 7 * lc (v 3) (v 3 (ix (v 2 i))) 10 = rdn v st i := by
  rw [(hd i hi).2.2.2, tsa7 h h.2.1 i]
  rfl
theorem rrn_c {N K i e : Nat} {st : Int32} {v w : Nat → Nat → Int32} (h : Ok N st v) (hd : Der K st v w) (hi : i < K) (he : e < 7) (ee : v 0 i = nI e - 3) : tsa (w 3 i) (nt (v 0) st i) st e * lc (v 3) (v 3 (ix (v 2 i))) 10 + lc (v 3) (v 3 (ix (v 2 i))) (ix (v 2 i)) = rrn v st i := by
  rw [(hd i hi).2.2.2, tsaE h he ee]
  unfold rrn wd
  split <;> simp
theorem exB_in {P : Nat → Bool} {i : Nat} : ∀ {n : Nat}, i < n → P i = true → exB P n = true
  | 0, h, _ => absurd h (Nat.not_lt_zero _)
  | n + 1, h, hp => by
    rw [exB]
    rcases Nat.lt_or_ge i n with q | q
    · rw [exB_in q hp]; rfl
    · rw [show n = i by omega, hp, Bool.or_true]
theorem exB_f {P : Nat → Bool} {n : Nat} (h : exB P n = false) (hp : P n = false) : exB P (n + 1) = false := by rw [exB, h, hp]; rfl
theorem exB_ex {P : Nat → Bool} : ∀ {n : Nat}, exB P n = true → ∃ i : Nat, i < n ∧ P i = true
  | 0, h => by cases h
  | n + 1, h => by
    rw [exB, Bool.or_eq_true] at h
    rcases h with h | h
    · obtain ⟨i, h1, h2⟩ := exB_ex h
      exact ⟨i, by omega, h2⟩
    · exact ⟨n, by omega, h⟩
theorem wys_t {v : Nat → Nat → Int32} {st : Int32} {mk : Nat → Bool} {k : Nat} (h : amb v st mk k = true) : wys v st mk (k + 1) = (if 1000000000 < wys v st mk k * Int32.toInt64 (rdn v st k) then 1000000000 else wys v st mk k * Int32.toInt64 (rdn v st k)) := by rw [wys, if_pos h]
theorem wys_f {v : Nat → Nat → Int32} {st : Int32} {mk : Nat → Bool} {k : Nat} (h : amb v st mk k = false) : wys v st mk (k + 1) = wys v st mk k := by rw [wys, h]; rfl
theorem fst_no {P : Nat → Bool} : ∀ {n : Nat}, (∀ i, i < n → P i = false) → fst P n = n
  | 0, _ => rfl
  | n + 1, h => by rw [fst, fst_no (fun i hi => h i (by omega)), if_neg (Nat.lt_irrefl _), h n (by omega)]; rfl
theorem fst_at {P : Nat → Bool} {j : Nat} (h : ∀ i, i < j → P i = false) (hj : P j = true) : ∀ {n : Nat}, j < n → fst P n = j
  | 0, q => absurd q (Nat.not_lt_zero _)
  | n + 1, q => by
    rw [fst]
    rcases Nat.lt_or_ge j n with g | g
    · rw [fst_at h hj g, if_pos g]
    · rw [show n = j by omega, fst_no h, if_neg (Nat.lt_irrefl _), if_pos hj]
theorem fam_at {v : Nat → Nat → Int32} {st : Int32} {mk : Nat → Bool} {j N : Nat} (h : ∀ i, i < j → amb v st mk i = false) (hj : amb v st mk j = true) (hn : j < N) : nI j = fam v st mk N := by
  unfold fam
  rw [fst_at h hj hn, if_pos hn]
theorem fam_no {v : Nat → Nat → Int32} {st : Int32} {mk : Nat → Bool} {N : Nat} (h : ∀ i, i < N → amb v st mk i = false) : (-1) = fam v st mk N := by
  unfold fam
  rw [fst_no h, if_neg (Nat.lt_irrefl _)]
theorem lt_s1 {P : Nat → Prop} {j : Nat} (h : ∀ i, i < j → P i) (hj : P j) : ∀ i, i < j + 1 → P i := fun i hi => by
  rcases Nat.lt_or_ge i j with q | q
  · exact h i q
  · rw [show i = j by omega]; exact hj
theorem mst_amb {v : Nat → Nat → Int32} {st : Int32} {mk : Nat → Bool} : ∀ {n b : Nat}, mst v st mk n = some b → b < n ∧ amb v st mk b = true
  | 0, b, h => by cases h
  | n + 1, b, h => by
    rw [mst] at h
    cases e : mst v st mk n with
    | none =>
      rw [e] at h
      dsimp only at h
      split at h
      · cases h; exact ⟨by omega, by assumption⟩
      · cases h
    | some b0 =>
      rw [e] at h
      dsimp only at h
      split at h
      · rename_i hc; cases h; exact ⟨by omega, hc.1⟩
      · cases h
        have := mst_amb e
        exact ⟨by omega, this.2⟩
theorem amb_iff {v : Nat → Nat → Int32} {st : Int32} {mk : Nat → Bool} {k : Nat} : amb v st mk k = true ↔ mk k = false ∧ 1 < rdn v st k := by
  unfold amb
  cases mk k <;> simp
theorem mst_t {v : Nat → Nat → Int32} {st : Int32} {mk : Nat → Bool} {k : Nat} (h : mk k = false) (hr : optR v st (mst v st mk k) < rdn v st k) : mst v st mk (k + 1) = some k := by
  rw [mst]
  cases e : mst v st mk k with
  | none =>
    rw [e] at hr
    dsimp only
    rw [if_pos (amb_iff.mpr ⟨h, hr⟩)]
  | some b =>
    rw [e] at hr
    dsimp only
    have h1 := (amb_iff.mp (mst_amb e).2).2
    have hr : rdn v st b < rdn v st k := hr
    rw [if_pos ⟨amb_iff.mpr ⟨h, Int32.lt_trans h1 hr⟩, hr⟩]
theorem mst_f {v : Nat → Nat → Int32} {st : Int32} {mk : Nat → Bool} {k : Nat} (h : ¬ (mk k = false ∧ optR v st (mst v st mk k) < rdn v st k)) : mst v st mk (k + 1) = mst v st mk k := by
  rw [mst]
  cases e : mst v st mk k with
  | none =>
    rw [e] at h
    dsimp only
    rw [if_neg (fun q => h (amb_iff.mp q))]
  | some b =>
    rw [e] at h
    dsimp only
    rw [if_neg (fun q => h ⟨(amb_iff.mp q.1).1, q.2⟩)]
theorem amin_t {f : Nat → Int32} {k : Nat} (h : f (k + 1) < f (amin f k)) : amin f (k + 1) = k + 1 := by rw [amin, if_pos h]
theorem amin_f {f : Nat → Int32} {k : Nat} (h : ¬ f (k + 1) < f (amin f k)) : amin f (k + 1) = amin f k := by rw [amin, if_neg h]
theorem amin_le {f : Nat → Int32} : ∀ {k : Nat}, amin f k ≤ k
  | 0 => Nat.le_refl _
  | k + 1 => by
    rw [amin]
    split
    · exact Nat.le_refl _
    · exact Nat.le_succ_of_le amin_le
theorem upd_self {f : Nat → Int32} {j : Nat} : upd f j (f j) = f := by
  funext i
  unfold upd
  split
  · rename_i h; rw [h]
  · rfl
theorem lo_1 {N : Nat} {st : Int32} {v : Nat → Nat → Int32} (h : Ok N st v) : nt (v 0) st 1 = lo9 (v 0) st 1 ∧ nt (v 0) st 1 = hi9 (v 0) st 1 := by
  obtain ⟨s, hs, rfl⟩ := h.2.1
  obtain ⟨a, ha, ea⟩ := nt_rng h hs 1
  rw [lo9, hi9, lo9, hi9, ea, mn, mx]
  have h1 : ¬ 24 < nI a := fun q => by have := (nI_ltI (a := 24) (by omega) (by omega)).mp q; omega
  constructor
  · split
    · rfl
    · rename_i h2
      have h3 : ¬ nI a < nI 24 := h2
      rw [nI_ltI (by omega) (by omega)] at h3
      rw [show a = 24 by omega]; rfl
  · split
    · rfl
    · rename_i h2
      have h3 : ¬ nI 0 < nI a := h2
      rw [nI_ltI (by omega) (by omega)] at h3
      rw [show a = 0 by omega]; rfl
/-- how many of the first n have the word x, as a number -/
def lcN (W : Nat → Int32) (x : Int32) : Nat → Nat
  | 0 => 0
  | j + 1 => if W j = x then lcN W x j + 1 else lcN W x j
theorem lc_N (W : Nat → Int32) (x : Int32) : ∀ n : Nat, lc W x n = nI (lcN W x n)
  | 0 => rfl
  | n + 1 => by
    rw [lc, lcN, lc_N W x n]
    split
    · exact nI_1 _
    · rfl
theorem lcN_le (W : Nat → Int32) (x : Int32) : ∀ n : Nat, lcN W x n ≤ n
  | 0 => Nat.le_refl _
  | n + 1 => by
    have := lcN_le W x n
    rw [lcN]
    split <;> omega
theorem lcN_mono {W : Nat → Int32} {x : Int32} {a : Nat} : ∀ {n : Nat}, a ≤ n → lcN W x a ≤ lcN W x n
  | 0, h => by rw [show a = 0 by omega]; exact Nat.le_refl _
  | n + 1, h => by
    rcases Nat.lt_or_ge a (n + 1) with q | q
    · have := lcN_mono (W := W) (x := x) (show a ≤ n by omega)
      rw [lcN]
      split <;> omega
    · rw [show a = n + 1 by omega]; exact Nat.le_refl _
theorem lcN_0 {W : Nat → Int32} {x : Int32} : ∀ {n : Nat}, (∀ o, o < n → ¬ W o = x) → lcN W x n = 0
  | 0, _ => rfl
  | n + 1, h => by rw [lcN, if_neg (h n (by omega)), lcN_0 (fun o ho => h o (by omega))]
theorem lcN_1 {W : Nat → Int32} {x : Int32} {a : Nat} (ha : W a = x) : ∀ {n : Nat}, (∀ o, o < n → W o = x → o = a) → lcN W x n ≤ 1
  | 0, _ => Nat.zero_le _
  | n + 1, h => by
    rw [lcN]
    split
    · rename_i hn
      have e := h n (by omega) hn
      rw [lcN_0 (fun o ho q => by have := h o (by omega) q; omega)]
      exact Nat.le_refl _
    · exact lcN_1 ha (fun o ho => h o (by omega))
theorem lcN_2 {W : Nat → Int32} {x : Int32} {a b : Nat} (hab : a < b) (ha : W a = x) (hb : W b = x) {n : Nat} (hn : b < n) : 2 ≤ lcN W x n := by
  have h1 : lcN W x (b + 1) = lcN W x b + 1 := by rw [lcN, if_pos hb]
  have h2 : lcN W x (a + 1) = lcN W x a + 1 := by rw [lcN, if_pos ha]
  have h3 := lcN_mono (W := W) (x := x) (show a + 1 ≤ b by omega)
  have h4 := lcN_mono (W := W) (x := x) (show b + 1 ≤ n by omega)
  omega
theorem lcN_self {W : Nat → Int32} {a n : Nat} (ha : a < n) : 1 ≤ lcN W (W a) n := by
  have h2 : lcN W (W a) (a + 1) = lcN W (W a) a + 1 := by rw [lcN, if_pos rfl]
  have h4 := lcN_mono (W := W) (x := W a) (show a + 1 ≤ n by omega)
  omega
/-- several readings: several turns, or another landmark with the word -/
theorem um_iff {W : Nat → Int32} {a : Nat} (ha : a < 10) (b : Bool) : decide (1 < (if b = true then 2 else 1) * lc W (W a) 10) = (b || exB (shE W a) 10) := by
  have h1 := lcN_self (W := W) ha
  have h2 := lcN_le W (W a) 10
  rw [lc_N]
  have h3 : (1 < (if b = true then (2 : Int32) else 1) * nI (lcN W (W a) 10)) ↔ (b = true ∨ 1 < lcN W (W a) 10) := by
    cases b
    · have e1 : (if false = true then (2 : Int32) else 1) * nI (lcN W (W a) 10) = nI (lcN W (W a) 10) := by
        rw [if_neg (by decide), Int32.one_mul]
      rw [e1]
      constructor
      · intro h; exact Or.inr ((nI_ltI (a := 1) (by omega) (by omega)).mp h)
      · intro h
        rcases h with h | h
        · cases h
        · exact (nI_ltI (a := 1) (by omega) (by omega)).mpr h
    · have e1 : (if true = true then (2 : Int32) else 1) * nI (lcN W (W a) 10) = nI (2 * lcN W (W a) 10) := by
        rw [if_pos rfl]; exact pk_mul 2 _
      rw [e1]
      constructor
      · intro _; exact Or.inl rfl
      · intro _; exact (nI_ltI (a := 1) (by omega) (by omega)).mpr (by omega)
  have h4 : exB (shE W a) 10 = true ↔ 1 < lcN W (W a) 10 := by
    constructor
    · intro h
      obtain ⟨o, ho, hp⟩ := exB_ex h
      unfold shE at hp
      simp only [Bool.and_eq_true, decide_eq_true_eq] at hp
      rcases Nat.lt_or_gt_of_ne hp.1 with q | q
      · exact lcN_2 q hp.2 rfl ha
      · exact lcN_2 q rfl hp.2 ho
    · intro h
      cases e : exB (shE W a) 10 with
      | true => rfl
      | false =>
        have : lcN W (W a) 10 ≤ 1 := lcN_1 (a := a) rfl (fun o ho hw => by
          rcases Nat.decEq o a with hne | heq
          · have : exB (shE W a) 10 = true := exB_in ho (by unfold shE; simp [hne, hw])
            rw [e] at this; cases this
          · exact heq)
        omega
  cases b
  · rw [Bool.false_or]
    cases e : exB (shE W a) 10 with
    | true => rw [decide_eq_true_eq, h3]; exact Or.inr (h4.mp e)
    | false =>
      rw [decide_eq_false_iff_not, h3]
      intro h
      rcases h with h | h
      · cases h
      · have := h4.mpr h; rw [e] at this; cases this
  · rw [Bool.true_or, decide_eq_true_eq, h3]; exact Or.inl rfl
theorem rtE_x {v : Nat → Nat → Int32} {k n : Nat} {a b : Int32} (ha : a = px (v 0) (v 1) n) (hb : b = px (v 0) (v 1) (k + 1)) (h : ¬ a = b) : rtE v k n = false := by
  unfold rtE; rw [← ha, ← hb]; simp [h]
theorem rtE_y {v : Nat → Nat → Int32} {k n : Nat} {a b : Int32} (ha : a = py (v 0) (v 1) n) (hb : b = py (v 0) (v 1) (k + 1)) (h : ¬ a = b) : rtE v k n = false := by
  unfold rtE; rw [← ha, ← hb]; simp [h]
theorem rtE_t {v : Nat → Nat → Int32} {k n : Nat} {a b c d : Int32} (ha : a = px (v 0) (v 1) n) (hb : b = py (v 0) (v 1) n) (hc : c = px (v 0) (v 1) (k + 1)) (hd : d = py (v 0) (v 1) (k + 1)) (h : a = c) (h2 : b = d) : rtE v k n = true := by
  unfold rtE; rw [← ha, ← hb, ← hc, ← hd]; simp [h, h2]
theorem rng_0 {v : Nat → Nat → Int32} {st : Int32} {N : Nat} (h : N = 0) : 0 = rng v st N := by unfold rng; rw [if_pos h]
theorem rng_1 {v : Nat → Nat → Int32} {st : Int32} {N : Nat} (h : 0 < N) : hi9 (v 0) st N - lo9 (v 0) st N = rng v st N := by unfold rng; rw [if_neg (by omega)]
theorem sgP_t {v : Nat → Nat → Int32} {x : Int32} {k : Nat} (h : v 3 (ix (v 2 k)) = x) : sgP v x k = true := by unfold sgP wd; simp [h]
theorem sgP_f {v : Nat → Nat → Int32} {x : Int32} {k : Nat} (h : ¬ v 3 (ix (v 2 k)) = x) : sgP v x k = false := by unfold sgP wd; simp [h]
theorem upd_n {f : Nat → Int32} {j a : Nat} {x : Int32} (h : ¬ a = j) : f a = upd f j x a := by unfold upd; rw [if_neg h]
theorem upd_s {f : Nat → Int32} {j a : Nat} {x : Int32} (h : a = j) : x = upd f j x a := by unfold upd; rw [if_pos h]
theorem shE_a {W : Nat → Int32} {a o : Nat} (h : o = a) : shE W a o = false := by unfold shE; simp [h]
theorem shE_w {W : Nat → Int32} {a o : Nat} (h : ¬ W o = W a) : shE W a o = false := by unfold shE; simp [h]
theorem shE_t {W : Nat → Int32} {a o : Nat} (h : ¬ o = a) (h2 : W o = W a) : shE W a o = true := by unfold shE; simp [h, h2]
theorem um_t1 {N k : Nat} {st by1 : Int32} {v : Nat → Nat → Int32} {W : Nat → Int32} (hok : Ok N st v) (hb : ∃ s : Nat, s < 4 ∧ by1 = nI (s + 1)) (h : ¬ tsa (nb (nt (v 0) by1 k) (v 0 k * by1)) (nt (v 0) by1 k) by1 7 ≤ 1) : umP v W by1 k = true := by
  have e : tsa (nb (nt (v 0) by1 k) (v 0 k * by1)) (nt (v 0) by1 k) by1 7 = _ := tsa7 hok hb k
  rw [e] at h
  unfold umP
  rw [um_iff (okM10 hok k)]
  cases t : tw (nt (v 0) by1 k) (v 0 k) by1
  · rw [t] at h; exact absurd (by decide) h
  · rfl
theorem um_t2 {N k : Nat} {st by1 : Int32} {v : Nat → Nat → Int32} {W : Nat → Int32} (hok : Ok N st v) (h : exB (shE W (ix (v 2 k))) 10 = true) : umP v W by1 k = true := by
  unfold umP
  rw [um_iff (okM10 hok k), h, Bool.or_true]
theorem um_f {N k : Nat} {st by1 : Int32} {v : Nat → Nat → Int32} {W : Nat → Int32} (hok : Ok N st v) (hb : ∃ s : Nat, s < 4 ∧ by1 = nI (s + 1)) (h : tsa (nb (nt (v 0) by1 k) (v 0 k * by1)) (nt (v 0) by1 k) by1 7 ≤ 1) (h2 : exB (shE W (ix (v 2 k))) 10 = false) : umP v W by1 k = false := by
  have e : tsa (nb (nt (v 0) by1 k) (v 0 k * by1)) (nt (v 0) by1 k) by1 7 = _ := tsa7 hok hb k
  rw [e] at h
  unfold umP
  rw [um_iff (okM10 hok k), h2, Bool.or_false]
  cases t : tw (nt (v 0) by1 k) (v 0 k) by1
  · rfl
  · rw [t] at h; exact absurd h (by decide)
theorem hd_nat {N : Nat} {st : Int32} {v : Nat → Nat → Int32} (h : Ok N st v) : ∀ k : Nat, ∃ a : Nat, a < 8 ∧ hd (v 0) k = nI a
  | 0 => ⟨0, by decide, rfl⟩
  | k + 1 => by
    obtain ⟨a, ha, ea⟩ := hd_nat h k
    obtain ⟨e, he, ee⟩ := h.2.2.1 k
    have fin : ∀ a, a < 8 → ∀ e, e < 7 → ∃ b, b < 8 ∧ fmd (nI a + (nI e - 3)) 8 = nI b := by decide +kernel
    obtain ⟨b, hb, eb⟩ := fin a ha e he
    exact ⟨b, hb, by rw [hd, ea, ee, eb]⟩
theorem hd_ix {N : Nat} {st : Int32} {v : Nat → Nat → Int32} (h : Ok N st v) (k : Nat) : hd (v 0) k = nI (ix (hd (v 0) k)) := by
  obtain ⟨a, ha, ea⟩ := hd_nat h k
  rw [ea, ix, nI_clamp (by omega)]
theorem hd_ix8 {N : Nat} {st : Int32} {v : Nat → Nat → Int32} (h : Ok N st v) (k : Nat) : ix (hd (v 0) k) < 8 := by
  obtain ⟨a, ha, ea⟩ := hd_nat h k
  rw [ea, ix, nI_clamp (by omega)]
  exact ha
theorem der_up {K j : Nat} {st : Int32} {v w : Nat → Nat → Int32} (h : Der K st v w) (hj : K ≤ j) (k : Nat) (x : Int32) : Der K st v (va_up w k (upd (w k) j x)) := by
  intro i hi
  have e : ∀ n : Nat, va_up w k (upd (w k) j x) n i = w n i := by
    intro n
    unfold va_up
    split
    · rename_i hn; subst hn; unfold upd; rw [if_neg (by omega)]
    · rfl
  rw [e, e, e, e]
  exact h i hi
/-- the four stores of one turn of follow -/
def st4 (w : Nat → Nat → Int32) (j : Nat) (a b c d : Int32) : Nat → Nat → Int32 :=
  va_up (va_up (va_up (va_up w 0 (upd (w 0) j a)) 1 (upd ((va_up w 0 (upd (w 0) j a)) 1) j b)) 2 (upd ((va_up (va_up w 0 (upd (w 0) j a)) 1 (upd ((va_up w 0 (upd (w 0) j a)) 1) j b)) 2) j c)) 3
    (upd ((va_up (va_up (va_up w 0 (upd (w 0) j a)) 1 (upd ((va_up w 0 (upd (w 0) j a)) 1) j b)) 2 (upd ((va_up (va_up w 0 (upd (w 0) j a)) 1 (upd ((va_up w 0 (upd (w 0) j a)) 1) j b)) 2) j c)) 3) j d)
theorem der_next {K : Nat} {st : Int32} {v w : Nat → Nat → Int32} (h : Der K st v w) : Der (K + 1) st v (st4 w K (hd (v 0) (K + 1)) (px (v 0) (v 1) (K + 1)) (py (v 0) (v 1) (K + 1)) (nt (v 0) st (K + 1))) := by
  intro i hi
  rcases Nat.lt_or_ge i K with q | q
  · have := der_up (der_up (der_up (der_up h (Nat.le_refl K) 0 (hd (v 0) (K + 1))) (Nat.le_refl K) 1 (px (v 0) (v 1) (K + 1))) (Nat.le_refl K) 2 (py (v 0) (v 1) (K + 1))) (Nat.le_refl K) 3 (nt (v 0) st (K + 1))
    exact this i q
  · have e : i = K := by omega
    subst e
    unfold st4
    simp [va_up, upd]
theorem der_0 {st : Int32} {v w : Nat → Nat → Int32} : Der 0 st v w := fun _ h => absurd h (Nat.not_lt_zero _)
theorem der_le {K M : Nat} {st : Int32} {v w : Nat → Nat → Int32} (h : Der K st v w) (hm : M ≤ K) : Der M st v w := fun i hi => h i (by omega)
theorem hd_cong {T T' : Nat → Int32} : ∀ {k : Nat}, (∀ i, i < k → T i = T' i) → hd T k = hd T' k
  | 0, _ => rfl
  | k + 1, h => by rw [hd, hd, hd_cong (fun i hi => h i (by omega)), h k (by omega)]
theorem px_cong {T T' L L' : Nat → Int32} : ∀ {k : Nat}, (∀ i, i < k → T i = T' i) → (∀ i, i < k → L i = L' i) → px T L k = px T' L' k
  | 0, _, _ => rfl
  | k + 1, h, h2 => by rw [px, px, px_cong (fun i hi => h i (by omega)) (fun i hi => h2 i (by omega)), h2 k (by omega), hd_cong h]
theorem py_cong {T T' L L' : Nat → Int32} : ∀ {k : Nat}, (∀ i, i < k → T i = T' i) → (∀ i, i < k → L i = L' i) → py T L k = py T' L' k
  | 0, _, _ => rfl
  | k + 1, h, h2 => by rw [py, py, py_cong (fun i hi => h i (by omega)) (fun i hi => h2 i (by omega)), h2 k (by omega), hd_cong h]
theorem nt_cong {T T' : Nat → Int32} {st : Int32} : ∀ {k : Nat}, (∀ i, i < k → T i = T' i) → nt T st k = nt T' st k
  | 0, _ => rfl
  | k + 1, h => by rw [nt, nt, nt_cong (fun i hi => h i (by omega)), h k (by omega)]
theorem der_cong {K : Nat} {st : Int32} {v v' w : Nat → Nat → Int32} (h : Der K st v w) (h0 : ∀ i, i < K → v 0 i = v' 0 i) (h1 : ∀ i, i < K → v 1 i = v' 1 i) : Der K st v' w := by
  intro i hi
  obtain ⟨a, b, c, d⟩ := h i hi
  exact ⟨a.trans (hd_cong (fun k hk => h0 k (by omega))), b.trans (px_cong (fun k hk => h0 k (by omega)) (fun k hk => h1 k (by omega))), c.trans (py_cong (fun k hk => h0 k (by omega)) (fun k hk => h1 k (by omega))), d.trans (nt_cong (fun k hk => h0 k (by omega)))⟩
/-- what addLeg writes down -/
def addV (v : Nat → Nat → Int32) (j : Nat) (t ln m : Int32) : Nat → Nat → Int32 :=
  va_up (va_up (va_up v 0 (upd (v 0) j t)) 1 (upd ((va_up v 0 (upd (v 0) j t)) 1) j ln)) 2 (upd ((va_up (va_up v 0 (upd (v 0) j t)) 1 (upd ((va_up v 0 (upd (v 0) j t)) 1) j ln)) 2) j m)
theorem addV_ok {N : Nat} {st ln : Int32} {v : Nat → Nat → Int32} (h : Ok N st v) (hN : N < 16) {e j : Nat} (he : e < 7) (hj : j < 10) : Ok (N + 1) st (addV v N (nI e - 3) ln (nI j)) := by
  refine ⟨by omega, h.2.1, fun k => ?_, fun k => ?_⟩
  · have e1 : addV v N (nI e - 3) ln (nI j) 0 k = upd (v 0) N (nI e - 3) k := rfl
    rw [e1]
    unfold upd
    split
    · exact ⟨e, he, rfl⟩
    · exact h.2.2.1 k
  · have e1 : addV v N (nI e - 3) ln (nI j) 2 k = upd (v 2) N (nI j) k := rfl
    rw [e1]
    unfold upd
    split
    · exact ⟨j, hj, rfl⟩
    · exact h.2.2.2 k
theorem addV_der {N : Nat} {st t ln m : Int32} {v w : Nat → Nat → Int32} (h : Der N st v w) : Der N st (addV v N t ln m) w := by
  refine der_cong h (fun i hi => ?_) (fun i hi => ?_)
  · show v 0 i = upd (v 0) N t i
    unfold upd; rw [if_neg (by omega)]
  · show v 1 i = upd (v 1) N ln i
    unfold upd; rw [if_neg (by omega)]
theorem bend_ok {N : Nat} {st : Int32} {v : Nat → Nat → Int32} (h : Ok N st v) {e i : Nat} (he : e < 7) : Ok N st (va_up v 0 (upd (v 0) i (nI e - 3))) := by
  refine ⟨h.1, h.2.1, fun k => ?_, fun k => h.2.2.2 k⟩
  show ∃ e1, e1 < 7 ∧ upd (v 0) i (nI e - 3) k = nI e1 - 3
  unfold upd
  split
  · exact ⟨e, he, rfl⟩
  · exact h.2.2.1 k
theorem bend_der {K : Nat} {st t : Int32} {v w : Nat → Nat → Int32} (h : Der K st v w) : Der K st (va_up v 0 (upd (v 0) K t)) w := by
  refine der_cong h (fun i hi => ?_) (fun i hi => rfl)
  show v 0 i = upd (v 0) K t i
  unfold upd; rw [if_neg (by omega)]
/-- mending until no more ways are left than told: the count and the marks -/
def mdF (v : Nat → Nat → Int32) (st : Int32) (N : Nat) (ways : Int64) : Nat → Nat → (Nat → Bool) → Nat × (Nat → Bool)
  | 0, c, g => (c, g)
  | f + 1, c, g => if ways < wys v st g N then (match mst v st g N with | none => (c, g) | some b => mdF v st N ways f (c + 1) (va_up g b true)) else (c, g)
theorem mdF_stop {v : Nat → Nat → Int32} {st : Int32} {N : Nat} {ways : Int64} {f c : Nat} {mk : Nat → Bool} (h : ¬ ways < wys v st mk N) : mdF v st N ways f c mk = (c, mk) := by
  cases f with
  | zero => rfl
  | succ f => rw [mdF, if_neg h]
theorem mdF_none {v : Nat → Nat → Int32} {st : Int32} {N : Nat} {ways : Int64} {f c : Nat} {mk : Nat → Bool} (h : mst v st mk N = none) : mdF v st N ways f c mk = (c, mk) := by
  cases f with
  | zero => rfl
  | succ f =>
    rw [mdF]
    split
    · rw [h]
    · rfl
theorem mdF_go {v : Nat → Nat → Int32} {st : Int32} {N b : Nat} {ways : Int64} {f c : Nat} {mk : Nat → Bool} (hf : 0 < f) (h : ways < wys v st mk N) (hb : mst v st mk N = some b) : mdF v st N ways f c mk = mdF v st N ways (f - 1) (c + 1) (va_up mk b true) := by
  cases f with
  | zero => omega
  | succ f => rw [mdF, if_pos h, hb]; rfl
theorem fmd_1 {x y : Int32} (h : 0 ≤ x ^^^ y) : x - x / y * y = fmd x y := by unfold fmd; rw [if_neg (fun q => Int32.not_lt.mpr h q.1)]
theorem fmd_2 {x y : Int32} (h : x - x / y * y = 0) : x - x / y * y = fmd x y := by unfold fmd; rw [if_neg (fun q => q.2 h)]
theorem fmd_3 {x y : Int32} (h : ¬ 0 ≤ x ^^^ y) (h2 : ¬ x - x / y * y = 0) : x - x / y * y + y = fmd x y := by unfold fmd; rw [if_pos ⟨Int32.not_le.mp h, h2⟩]
theorem mk_f {mk : Nat → Bool} {j : Nat} (h : ∀ k, k < j → mk k = false) : ∀ k, k < j + 1 → va_up mk j false k = false := by
  intro k hk
  unfold va_up
  split
  · rfl
  · exact h k (by omega)
theorem mdF_0 {v : Nat → Nat → Int32} {st : Int32} {N c : Nat} {ways : Int64} {g : Nat → Bool} (h : N ≤ c) : mdF v st N ways (N - c) c g = (c, g) := by rw [show N - c = 0 by omega]; rfl
theorem optI_some {v : Nat → Nat → Int32} {st : Int32} {N : Nat} {g : Nat → Bool} (h : 0 ≤ optI (mst v st g N)) : ∃ b : Nat, mst v st g N = some b ∧ b < N := by
  cases e : mst v st g N with
  | none => rw [e] at h; exact absurd h (by decide)
  | some b => exact ⟨b, rfl, (mst_amb e).1⟩
theorem optI_none {v : Nat → Nat → Int32} {st : Int32} {N : Nat} {g : Nat → Bool} (hN : N ≤ 16) (h : ¬ 0 ≤ optI (mst v st g N)) : mst v st g N = none := by
  cases e : mst v st g N with
  | none => rfl
  | some b =>
    rw [e] at h
    have := (mst_amb e).1
    exact absurd (nI_pos' (n := b) (by omega)) h
/-! the model -/
def isI (x lo hi : Int32) : Bool := decide (lo ≤ x) && decide (x ≤ hi)
theorem lv9_isI (x : Int32) : lv9 x = !isI x 0 24 := by
  unfold lv9 isI
  rcases Int32.lt_or_le x 0 with h | h
  · simp [h, Int32.not_le.mpr h]
  · rcases Int32.lt_or_le 24 x with h2 | h2
    · simp [h, Int32.not_lt.mpr h, h2, Int32.not_le.mpr h2]
    · simp [h, Int32.not_lt.mpr h, h2, Int32.not_lt.mpr h2]
def legB (N : Nat) (x : Int32) : Bool := isI x 0 (nI N - 1)
theorem legB_t {N i : Nat} (hi : i < N) (hN : N ≤ 16) : legB N (nI i) = true := by
  obtain ⟨M, rfl⟩ : ∃ M, N = M + 1 := ⟨N - 1, by omega⟩
  unfold legB isI
  rw [nI_pred]
  have h1 : (0 : Int32) ≤ nI i := (nI_leI (a := 0) (by omega) (by omega)).mpr (Nat.zero_le _)
  have h2 : nI i ≤ nI M := (nI_leI (by omega) (by omega)).mpr (by omega)
  simp [h1, h2]
theorem legB_f {N : Nat} {x : Int32} (hN : N ≤ 16) (h : x < 0 ∨ nI N ≤ x) : legB N x = false := by
  unfold legB isI
  rcases h with h | h
  · simp [Int32.not_le.mpr h]
  · rcases Nat.eq_zero_or_pos N with e | e
    · subst e
      have h2 : ¬ (0 ≤ x ∧ x ≤ nI 0 - 1) := by
        intro q
        have := Int32.le_trans q.1 q.2
        exact absurd this (by decide)
      cases h3 : (decide (0 ≤ x) && decide (x ≤ nI 0 - 1)) with
      | false => rfl
      | true => simp only [Bool.and_eq_true, decide_eq_true_eq] at h3; exact absurd h3 h2
    · rw [nI_dec e]
      have h2 : ¬ x ≤ nI (N - 1) := fun q => by
        have h3 := Int32.le_trans h q
        have := (nI_leI (by omega) (by omega)).mp h3
        omega
      simp [h2]
theorem isI_t {e : Nat} (he : e < 7) : isI (nI e - 3) (-3) 3 = true := by
  unfold isI
  simp [tn_hi he, Int32.not_lt.mp (tn_lo he)]
theorem isI_k {j : Nat} (h : j < 10) : isI (nI j) 0 9 = true := by
  have h1 : (0 : Int32) ≤ nI j := (nI_leI (a := 0) (by omega) (by omega)).mpr (Nat.zero_le _)
  have h2 : nI j ≤ 9 := (nI_leI (b := 9) (by omega) (by omega)).mpr (by omega)
  unfold isI
  simp [h1, h2]
theorem isI_s {x : Nat} (h : x < 4) : isI (nI (x + 1)) 1 4 = true := by
  have h1 : (1 : Int32) ≤ nI (x + 1) := (nI_leI (a := 1) (by omega) (by omega)).mpr (by omega)
  have h2 : nI (x + 1) ≤ 4 := (nI_leI (b := 4) (by omega) (by omega)).mpr (by omega)
  unfold isI
  simp [h1, h2]
/-- the heading as the model reckons it -/
def hsum (T : Nat → Int32) : Nat → Int32
  | 0 => 0
  | k + 1 => hsum T k + (T k + 8)
theorem hsum_nat {N : Nat} {st : Int32} {v : Nat → Nat → Int32} (h : Ok N st v) : ∀ k : Nat, k ≤ 16 → ∃ a : Nat, a ≤ 11 * k ∧ hsum (v 0) k = nI a ∧ hd (v 0) k = nI (a % 8)
  | 0, _ => ⟨0, by omega, rfl, rfl⟩
  | k + 1, hk => by
    obtain ⟨a, ha, ea, eh⟩ := hsum_nat h k (by omega)
    obtain ⟨e, he, ee⟩ := h.2.2.1 k
    refine ⟨a + (e + 5), by omega, ?_, ?_⟩
    · rw [hsum, ea, ee]
      have fin : ∀ e, e < 7 → nI e - 3 + 8 = nI (e + 5) := by decide
      rw [fin e he, nI_add]
    · rw [hd, eh, ee]
      have fin : ∀ a, a < 8 → ∀ e, e < 7 → fmd (nI a + (nI e - 3)) 8 = nI ((a + (e + 5)) % 8) := by decide +kernel
      rw [fin (a % 8) (by omega) e he]
      congr 1
      omega
theorem hsum_hd {N : Nat} {st : Int32} {v : Nat → Nat → Int32} (h : Ok N st v) {k : Nat} (hk : k ≤ 16) : hsum (v 0) k - hsum (v 0) k / 8 * 8 = hd (v 0) k := by
  obtain ⟨a, ha, ea, eh⟩ := hsum_nat h k hk
  rw [ea, eh]
  exact pk_rem (a := a) (d := 8) (by omega) (by omega) (by omega)
theorem hd_y {N : Nat} {st : Int32} {v : Nat → Nat → Int32} (h : Ok N st v) (k : Nat) : hd (v 0) k + 2 - (hd (v 0) k + 2) / 8 * 8 = nI ((ix (hd (v 0) k) + 2) % 8) := by
  obtain ⟨a, ha, ea⟩ := hd_nat h k
  have e : ix (nI a) = a := nI_clamp (by omega)
  rw [ea, e]
  have fin : ∀ a, a < 8 → nI a + 2 - (nI a + 2) / 8 * 8 = nI ((a + 2) % 8) := by decide +kernel
  exact fin a ha
theorem noT_y {N : Nat} {st : Int32} {v : Nat → Nat → Int32} (h : Ok N st v) (k : Nat) : eaT ((ix (hd (v 0) k) + 2) % 8) = noT (ix (hd (v 0) k)) := by
  have h8 := hd_ix8 h k
  have fin : ∀ a, a < 8 → eaT ((a + 2) % 8) = noT a := by decide
  exact fin _ h8
theorem sing_t {T : Nat → Int32} {by1 a : Int32} {k : Nat} (ha : a = nt T by1 k) (h : lv9 (a + by1 * T k) = true) : a + -by1 * T k = nt T by1 (k + 1) := by
  subst ha
  rw [nt, Int32.mul_comm (T k) by1, ← nb_t h, Int32.sub_eq_add_neg, Int32.neg_mul]
theorem sing_f {T : Nat → Int32} {by1 a : Int32} {k : Nat} (ha : a = nt T by1 k) (h : lv9 (a + by1 * T k) = false) : a + by1 * T k = nt T by1 (k + 1) := by
  subst ha
  rw [nt, Int32.mul_comm (T k) by1, ← nb_f h]
theorem le_s1 {P : Nat → Prop} {j : Nat} (h : ∀ i, i ≤ j → P i) (hj : P (j + 1)) : ∀ i, i ≤ j + 1 → P i := fun i hi => by
  rcases Nat.lt_or_ge j i with q | q
  · rw [show i = j + 1 by omega]; exact hj
  · exact h i q
/-- how many readings, by a step and with the notes as sung by it -/
def mny (v : Nat → Nat → Int32) (by1 : Int32) (k : Nat) : Int32 := (if tw (nt (v 0) by1 k) (v 0 k) by1 = true then 2 else 1) * lc (v 3) (wd v k) 10
/-- the marks, as bits -/
def Mk (N : Nat) (g : Nat → Bool) (md : Int32) : Prop := (∀ k : Nat, k < N → md.toBitVec.getLsbD k = g k) ∧ ∀ k : Nat, N ≤ k → k < 16 → md.toBitVec.getLsbD k = false
theorem bit_get (x : Int32) (k : Nat) (hk : k < 16) : (x >>> (nI k &&& 31)) &&& 1 = b2i (x.toBitVec.getLsbD k) := by
  have hs : ((nI k &&& 31).toBitVec.smod 32).toNat = k := by
    have fin : ∀ k, k < 16 → ((nI k &&& 31).toBitVec.smod 32).toNat = k := by decide +kernel
    exact fin k hk
  have e : ((x >>> (nI k &&& 31)) &&& 1) = nI ((x >>> (nI k &&& 31)).toBitVec.toNat % 2 ^ 1) := pk_and _ 1 (by decide)
  have hb : (x >>> (nI k &&& 31)).toBitVec.getLsbD 0 = x.toBitVec.getLsbD k := by
    rw [Int32.toBitVec_shiftRight]
    rw [BitVec.sshiftRight_eq', ]
    rw [BitVec.getLsbD_sshiftRight]
    rw [hs]
    simp
    omega
  have g : ∀ y : BitVec 32, y.toNat % 2 ^ 1 = (y.getLsbD 0).toNat := by
    intro y
    rw [BitVec.getLsbD, Nat.testBit_zero]
    rcases Nat.mod_two_eq_zero_or_one y.toNat with h | h <;> simp [h]
  rw [e, g, hb]
  cases x.toBitVec.getLsbD k <;> decide
theorem bit_pow {i : Nat} (hi : i < 16) : ((1 : Int32) <<< (nI i &&& 31)).toBitVec = BitVec.twoPow 32 i := by
  have fin : ∀ i, i < 16 → ((1 : Int32) <<< (nI i &&& 31)).toBitVec = BitVec.twoPow 32 i := by decide +kernel
  exact fin i hi
theorem bit_set (md : Int32) {i k : Nat} (hi : i < 16) : (md ||| (1 <<< (nI i &&& 31))).toBitVec.getLsbD k = (md.toBitVec.getLsbD k || decide (i = k)) := by
  rw [Int32.toBitVec_or, BitVec.getLsbD_or, bit_pow hi, BitVec.getLsbD_twoPow]
  simp [show i < 32 by omega]
theorem bit_clr (md : Int32) {i k : Nat} (hi : i < 16) (hk : k < 16) : (md &&& ((1 <<< (nI i &&& 31)) ^^^ (-1))).toBitVec.getLsbD k = (md.toBitVec.getLsbD k && !decide (i = k)) := by
  rw [Int32.toBitVec_and, BitVec.getLsbD_and, Int32.toBitVec_xor, BitVec.getLsbD_xor, bit_pow hi, BitVec.getLsbD_twoPow]
  have fin : ∀ k, k < 16 → (-1 : Int32).toBitVec.getLsbD k = true := by decide +kernel
  rw [fin k hk]
  simp [show i < 32 by omega]
theorem Mk_set {N i : Nat} {g : Nat → Bool} {md : Int32} (h : Mk N g md) (hN : N ≤ 16) (hi : i < N) : Mk N (va_up g i true) (md ||| (1 <<< (nI i &&& 31))) := by
  refine ⟨fun k hk => ?_, fun k hk h16 => ?_⟩
  · rw [bit_set md (by omega), h.1 k hk]
    unfold va_up
    rcases Nat.decEq k i with hn | hy
    · rw [if_neg hn, show decide (i = k) = false from decide_eq_false (fun q => hn q.symm), Bool.or_false]
    · rw [if_pos hy, show decide (i = k) = true from decide_eq_true hy.symm, Bool.or_true]
  · rw [bit_set md (by omega), h.2 k hk h16, show decide (i = k) = false from decide_eq_false (by omega)]
    rfl
theorem Mk_strike {M : Nat} {g : Nat → Bool} {md : Int32} (h : Mk (M + 1) g md) (hM : M < 16) : Mk M g (md &&& ((1 <<< (nI M &&& 31)) ^^^ (-1))) := by
  refine ⟨fun k hk => ?_, fun k hk h16 => ?_⟩
  · rw [bit_clr md hM (by omega), h.1 k (by omega), show decide (M = k) = false from decide_eq_false (by omega)]
    simp
  · rw [bit_clr md hM h16]
    rcases Nat.decEq M k with hn | hy
    · rw [h.2 k (by omega) h16]; rfl
    · rw [show decide (M = k) = true from decide_eq_true hy]; simp
theorem Mk_zero {N : Nat} {g : Nat → Bool} (h : ∀ k, k < N → g k = false) : Mk N g 0 := by
  refine ⟨fun k hk => ?_, fun k hk h16 => ?_⟩
  · rw [h k hk]; simp
  · simp
theorem Mk_add {N : Nat} {g : Nat → Bool} {md : Int32} (h : Mk N g md) (hN : N < 16) : Mk (N + 1) (va_up g N false) md := by
  refine ⟨fun k hk => ?_, fun k hk h16 => h.2 k (by omega) h16⟩
  unfold va_up
  rcases Nat.decEq k N with hn | hy
  · rw [if_neg hn]; exact h.1 k (by omega)
  · rw [if_pos hy, hy]; exact h.2 N (Nat.le_refl N) hN
theorem Mk_get {N k : Nat} {g : Nat → Bool} {md : Int32} (h : Mk N g md) (hN : N ≤ 16) (hk : k < N) : (md >>> (nI k &&& 31)) &&& 1 = b2i (g k) := by
  rw [bit_get md k (by omega), h.1 k hk]
theorem upd_back {v : Nat → Nat → Int32} {j : Nat} {x : Int32} : va_up (va_up v 3 (upd (v 3) j x)) 3 (upd ((va_up v 3 (upd (v 3) j x)) 3) j (v 3 j)) = v := by
  funext n i
  unfold va_up
  split
  · rename_i h
    subst h
    simp only [if_pos, upd]
    split
    · rename_i h2; rw [h2]
    · rfl
  · rfl
theorem rdn_mny {v : Nat → Nat → Int32} {st : Int32} {k : Nat} : mny v st k = rdn v st k := rfl
theorem um_mny {v : Nat → Nat → Int32} {by1 : Int32} {k : Nat} : umP v (v 3) by1 k = decide (1 < mny v by1 k) := rfl
theorem b2i_set_t {P : Nat → Bool} {n : Nat} (h : P n = true) : (1 : Int32) = b2i (exB P (n + 1)) := by rw [exB, h, Bool.or_true]; rfl
theorem b2i_set_o {P : Nat → Bool} {n : Nat} (h : exB P n = true) : (1 : Int32) = b2i (exB P (n + 1)) := by rw [exB, h, Bool.true_or]; rfl
theorem b2i_set_f {P : Nat → Bool} {n : Nat} (h : exB P n = false) (h2 : P n = false) : (0 : Int32) = b2i (exB P (n + 1)) := by rw [exB, h, h2]; rfl
theorem ctB_t' {P : Nat → Bool} {j : Nat} (h : P j = true) : ctB P j + 1 = ctB P (j + 1) := (ctB_t h).symm
theorem ctB_f' {P : Nat → Bool} {j : Nat} (h : P j = false) : ctB P j + 0 = ctB P (j + 1) := by rw [ctB_f h, Int32.add_zero]
theorem lc_t' {W : Nat → Int32} {x a : Int32} {j : Nat} (h : W j = x) (ha : a = lc W x j) : a + 1 = lc W x (j + 1) := by rw [lc_t h, ha]
theorem lc_f' {W : Nat → Int32} {x a : Int32} {j : Nat} (h : ¬ W j = x) (ha : a = lc W x j) : a + 0 = lc W x (j + 1) := by rw [lc_f h, ha, Int32.add_zero]
/-- right's sum, on its way -/
def rrS (v : Nat → Nat → Int32) (st : Int32) (k j : Nat) : Int32 := (if (tw (nt (v 0) st k) (v 0 k) st && decide (0 < v 0 k)) = true then lc (v 3) (wd v k) 10 else 0) + lc (v 3) (wd v k) j
theorem rrS_t {v : Nat → Nat → Int32} {st : Int32} {k j : Nat} (h : v 3 j = v 3 (ix (v 2 k))) : rrS v st k j + 1 = rrS v st k (j + 1) := by
  unfold rrS
  rw [lc_t (W := v 3) (x := wd v k) h, Int32.add_assoc]
theorem rrS_f {v : Nat → Nat → Int32} {st : Int32} {k j : Nat} (h : ¬ v 3 j = v 3 (ix (v 2 k))) : rrS v st k j + 0 = rrS v st k (j + 1) := by
  unfold rrS
  rw [lc_f (W := v 3) (x := wd v k) h, Int32.add_zero]
theorem rrS_a {v : Nat → Nat → Int32} {st : Int32} {k : Nat} (h : tw (nt (v 0) st k) (v 0 k) st = false) : 0 = rrS v st k 0 := by
  unfold rrS; rw [h, if_neg (by simp), lc, Int32.add_zero]
theorem rrS_b {v : Nat → Nat → Int32} {st : Int32} {k : Nat} (h : v 0 k ≤ 0) : 0 = rrS v st k 0 := by
  unfold rrS; rw [if_neg (by simp; exact fun _ => h), lc, Int32.add_zero]
theorem rrS_c {v : Nat → Nat → Int32} {st : Int32} {k : Nat} (h : tw (nt (v 0) st k) (v 0 k) st = true) (h2 : ¬ v 0 k ≤ 0) : lc (v 3) (v 3 (ix (v 2 k))) 10 = rrS v st k 0 := by
  unfold rrS; rw [h, if_pos (by simp; exact Int32.not_le.mp h2), lc, Int32.add_zero]; rfl
theorem wys_t' {v : Nat → Nat → Int32} {st : Int32} {mk : Nat → Bool} {k : Nat} (h : amb v st mk k = true) : (if wys v st mk k * Int32.toInt64 (rdn v st k) < 1000000000 then wys v st mk k * Int32.toInt64 (rdn v st k) else 1000000000) = wys v st mk (k + 1) := by
  rw [wys_t h]
  by_cases h1 : wys v st mk k * Int32.toInt64 (rdn v st k) < 1000000000
  · rw [if_pos h1, if_neg (fun q => absurd (Int64.lt_trans h1 q) (Int64.lt_irrefl))]
  · rw [if_neg h1]
    split
    · rfl
    · rename_i h2
      exact Int64.le_antisymm (Int64.not_lt.mp h1) (Int64.not_lt.mp h2)
/-- the notes as the model has sung them -/
def Sg (N : Nat) (by1 : Int32) (v w : Nat → Nat → Int32) : Prop := ∀ k : Nat, k ≤ N → w 0 k = nt (v 0) by1 k
def Wk (N : Nat) (v w : Nat → Nat → Int32) : Prop := ∀ k : Nat, k ≤ N → w 1 k = px (v 0) (v 1) k ∧ w 2 k = py (v 0) (v 1) k
theorem sg_0 {by1 : Int32} {v w : Nat → Nat → Int32} : ∀ k : Nat, k ≤ 0 → (va_up w 0 (upd (w 0) 0 12)) 0 k = nt (v 0) by1 k := by
  intro k hk
  rw [show k = 0 by omega]
  rfl
theorem sg_up {by1 : Int32} {v w : Nat → Nat → Int32} {j : Nat} (h : ∀ k : Nat, k ≤ j → w 0 k = nt (v 0) by1 k) : ∀ k : Nat, k ≤ j + 1 → (va_up w 0 (upd (w 0) (j + 1) (nt (v 0) by1 (j + 1)))) 0 k = nt (v 0) by1 k := by
  intro k hk
  show upd (w 0) (j + 1) (nt (v 0) by1 (j + 1)) k = _
  unfold upd
  split
  · rename_i e; rw [e]
  · exact h k (by omega)
theorem wk_0 {v w : Nat → Nat → Int32} : ∀ k : Nat, k ≤ 0 → (va_up (va_up w 1 (upd (w 1) 0 0)) 2 (upd ((va_up w 1 (upd (w 1) 0 0)) 2) 0 0)) 1 k = px (v 0) (v 1) k ∧ (va_up (va_up w 1 (upd (w 1) 0 0)) 2 (upd ((va_up w 1 (upd (w 1) 0 0)) 2) 0 0)) 2 k = py (v 0) (v 1) k := by
  intro k hk
  rw [show k = 0 by omega]
  exact ⟨rfl, rfl⟩
theorem wk_up {v w : Nat → Nat → Int32} {j : Nat} (h : ∀ k : Nat, k ≤ j → w 1 k = px (v 0) (v 1) k ∧ w 2 k = py (v 0) (v 1) k) : ∀ k : Nat, k ≤ j + 1 →
    (va_up (va_up w 1 (upd (w 1) (j + 1) (px (v 0) (v 1) (j + 1)))) 2 (upd ((va_up w 1 (upd (w 1) (j + 1) (px (v 0) (v 1) (j + 1)))) 2) (j + 1) (py (v 0) (v 1) (j + 1)))) 1 k = px (v 0) (v 1) k ∧
    (va_up (va_up w 1 (upd (w 1) (j + 1) (px (v 0) (v 1) (j + 1)))) 2 (upd ((va_up w 1 (upd (w 1) (j + 1) (px (v 0) (v 1) (j + 1)))) 2) (j + 1) (py (v 0) (v 1) (j + 1)))) 2 k = py (v 0) (v 1) k := by
  intro k hk
  refine ⟨?_, ?_⟩
  · show upd (w 1) (j + 1) (px (v 0) (v 1) (j + 1)) k = _
    unfold upd
    split
    · rename_i e; rw [e]
    · exact (h k (by omega)).1
  · show upd (w 2) (j + 1) (py (v 0) (v 1) (j + 1)) k = _
    unfold upd
    split
    · rename_i e; rw [e]
    · exact (h k (by omega)).2
theorem wk_x {T L : Nat → Int32} {a : Int32} {j : Nat} (h : a = px T L j) : a + L j * eaT (ix (hd T (j + 1))) = px T L (j + 1) := by subst h; rfl
theorem wk_y {T L : Nat → Int32} {a : Int32} {j : Nat} (h : a = py T L j) : a + L j * noT (ix (hd T (j + 1))) = py T L (j + 1) := by subst h; rfl
theorem fold_c {v : Nat → Nat → Int32} {st a : Int32} {k : Nat} (h : a = nt (v 0) st k) : b2i (lv9 (a + st * v 0 k)) = b2i (fold1 v st k) := by
  subst h; unfold fold1; rw [Int32.mul_comm st (v 0 k)]
theorem tw_0 {a t by1 : Int32} (h : t = 0) : tw a t by1 = false := by unfold tw; simp [h]
theorem tw_1 {a t by1 : Int32} (h : ¬ t = 0) (h2 : lv9 (a + by1 * t) = true) : tw a t by1 = true := by unfold tw; simp [h, h2]
theorem tw_2 {a t by1 : Int32} (h : ¬ t = 0) (h2 : lv9 (a + -by1 * t) = true) : tw a t by1 = true := by unfold tw; simp [h, h2]
theorem tw_3 {a t by1 : Int32} (h2 : lv9 (a + by1 * t) = false) (h3 : lv9 (a + -by1 * t) = false) : tw a t by1 = false := by unfold tw; simp [h2, h3]
theorem mny_t {v : Nat → Nat → Int32} {by1 : Int32} {k : Nat} (h : tw (nt (v 0) by1 k) (v 0 k) by1 = true) : 2 * lc (v 3) (v 3 (ix (v 2 k))) 10 = mny v by1 k := by unfold mny; rw [if_pos h]; rfl
theorem mny_f {v : Nat → Nat → Int32} {by1 : Int32} {k : Nat} (h : tw (nt (v 0) by1 k) (v 0 k) by1 = false) : 1 * lc (v 3) (v 3 (ix (v 2 k))) 10 = mny v by1 k := by unfold mny; rw [h, if_neg (by decide)]; rfl
theorem rrS_rrn {v : Nat → Nat → Int32} {st : Int32} {k : Nat} : rrS v st k (ix (v 2 k)) = rrn v st k := rfl
theorem um_1 {v : Nat → Nat → Int32} {by1 : Int32} {k : Nat} (h : ¬ mny v by1 k ≤ 1) : umP v (v 3) by1 k = true := by rw [um_mny]; exact decide_eq_true (Int32.not_le.mp h)
theorem um_0 {v : Nat → Nat → Int32} {by1 : Int32} {k : Nat} (h : mny v by1 k ≤ 1) : umP v (v 3) by1 k = false := by rw [um_mny]; exact decide_eq_false (Int32.not_lt.mpr h)
theorem amb_o {v : Nat → Nat → Int32} {st : Int32} {mk : Nat → Bool} {k : Nat} (h : mk k = true) : amb v st mk k = false := by unfold amb; simp [h]
theorem amb_1 {v : Nat → Nat → Int32} {st : Int32} {mk : Nat → Bool} {k : Nat} (h : mk k = false) (h2 : ¬ rdn v st k ≤ 1) : amb v st mk k = true := amb_iff.mpr ⟨h, Int32.not_le.mp h2⟩
theorem amb_0 {v : Nat → Nat → Int32} {st : Int32} {mk : Nat → Bool} {k : Nat} (h2 : rdn v st k ≤ 1) : amb v st mk k = false := by
  cases e : amb v st mk k with
  | false => rfl
  | true => exact absurd (amb_iff.mp e).2 (Int32.not_lt.mpr h2)
theorem b2i_n1 {b : Bool} (h : ¬ b2i b = 1) : b = false := by cases b <;> simp_all [b2i]
theorem b2i_y1 {b : Bool} (h : b2i b = 1) : b = true := by cases b <;> simp_all [b2i]
theorem mst_s0 {v : Nat → Nat → Int32} {st : Int32} {g : Nat → Bool} {j : Nat} (h : amb v st g j = false) : mst v st g (j + 1) = mst v st g j := by
  rw [mst]
  cases e : mst v st g j with
  | none => dsimp only; rw [h]; rfl
  | some b => dsimp only; rw [if_neg (fun q => by rw [h] at q; cases q.1)]
theorem optI_m1 {o : Option Nat} (ho : ∀ b, o = some b → b < 16) (h : optI o = -1) : o = none := by
  cases o with
  | none => rfl
  | some b =>
    have hb := ho b rfl
    have fin : ∀ b, b < 16 → ¬ nI b = -1 := by decide +kernel
    exact absurd h (fin b hb)
theorem mst_lt {v : Nat → Nat → Int32} {st : Int32} {g : Nat → Bool} {n : Nat} (hn : n ≤ 16) : ∀ b, mst v st g n = some b → b < 16 := fun b h => by
  have := (mst_amb h).1
  omega
theorem mst_s1 {v : Nat → Nat → Int32} {st : Int32} {g : Nat → Bool} {j : Nat} (hj : j ≤ 16) (h : amb v st g j = true) (hn : optI (mst v st g j) = -1) : mst v st g (j + 1) = some j := by
  rw [mst, optI_m1 (mst_lt hj) hn]
  dsimp only
  rw [if_pos h]
theorem mst_s2 {v : Nat → Nat → Int32} {st : Int32} {g : Nat → Bool} {j b : Nat} (hb : mst v st g j = some b) (h : rdn v st j ≤ rdn v st b) : mst v st g (j + 1) = mst v st g j := by
  rw [mst, hb]
  dsimp only
  rw [if_neg (fun q => Int32.not_lt.mpr h q.2)]
theorem mst_s3 {v : Nat → Nat → Int32} {st : Int32} {g : Nat → Bool} {j b : Nat} (hb : mst v st g j = some b) (ha : amb v st g j = true) (h : ¬ rdn v st j ≤ rdn v st b) : mst v st g (j + 1) = some j := by
  rw [mst, hb]
  dsimp only
  rw [if_pos ⟨ha, Int32.not_le.mp h⟩]
theorem mst_so {v : Nat → Nat → Int32} {st : Int32} {g : Nat → Bool} {j : Nat} (h : ¬ optI (mst v st g j) = -1) : ∃ b : Nat, mst v st g j = some b ∧ b < j := by
  cases e : mst v st g j with
  | none => rw [e] at h; exact absurd rfl h
  | some b => exact ⟨b, rfl, (mst_amb e).1⟩
theorem mst_no {v : Nat → Nat → Int32} {st : Int32} {g : Nat → Bool} : ∀ {n : Nat}, mst v st g n = none → ∀ k, k < n → amb v st g k = false
  | 0, _, k, hk => absurd hk (Nat.not_lt_zero _)
  | n + 1, h, k, hk => by
    rw [mst] at h
    cases e : mst v st g n with
    | some b =>
      rw [e] at h
      dsimp only at h
      split at h <;> cases h
    | none =>
      rw [e] at h
      dsimp only at h
      split at h
      · cases h
      · rename_i hn
        rcases Nat.lt_or_ge k n with q | q
        · exact mst_no e k q
        · rw [show k = n by omega]; exact Bool.eq_false_iff.mpr hn
theorem wys_1 {v : Nat → Nat → Int32} {st : Int32} {g : Nat → Bool} : ∀ {n : Nat}, (∀ k, k < n → amb v st g k = false) → wys v st g n = 1
  | 0, _ => rfl
  | n + 1, h => by rw [wys_f (h n (by omega)), wys_1 (fun k hk => h k (by omega))]
theorem mst_go {v : Nat → Nat → Int32} {st : Int32} {g : Nat → Bool} {N : Nat} {W9 : Int64} (h1 : 1 ≤ W9) (h : W9 < wys v st g N) : ∃ b : Nat, mst v st g N = some b ∧ b < N := by
  cases e : mst v st g N with
  | some b => exact ⟨b, rfl, (mst_amb e).1⟩
  | none =>
    rw [wys_1 (mst_no e)] at h
    exact absurd (Int64.lt_of_lt_of_le h h1) Int64.lt_irrefl
/-- how many of the first n bear no mark -/
def ucn (g : Nat → Bool) : Nat → Nat
  | 0 => 0
  | n + 1 => ucn g n + (if g n = true then 0 else 1)
theorem ucn_le (g : Nat → Bool) : ∀ n : Nat, ucn g n ≤ n
  | 0 => Nat.le_refl _
  | n + 1 => by have := ucn_le g n; rw [ucn]; split <;> omega
theorem ucn_0 {g : Nat → Bool} : ∀ {n : Nat}, ucn g n = 0 → ∀ k, k < n → g k = true
  | 0, _, k, hk => absurd hk (Nat.not_lt_zero _)
  | n + 1, h, k, hk => by
    rw [ucn] at h
    have h2 : g n = true := by
      cases e : g n with
      | true => rfl
      | false => rw [e] at h; simp at h
    rcases Nat.lt_or_ge k n with q | q
    · exact ucn_0 (n := n) (by omega) k q
    · rw [show k = n by omega]; exact h2
theorem ucn_up {g : Nat → Bool} {b : Nat} (hb : g b = false) : ∀ {n : Nat}, (n ≤ b → ucn (va_up g b true) n = ucn g n) ∧ (b < n → ucn (va_up g b true) n + 1 = ucn g n)
  | 0 => ⟨fun _ => rfl, fun h => absurd h (Nat.not_lt_zero _)⟩
  | n + 1 => by
    have ih := ucn_up hb (n := n)
    refine ⟨fun h => ?_, fun h => ?_⟩
    · rw [ucn, ucn, ih.1 (by omega), show va_up g b true n = g n by unfold va_up; rw [if_neg (by omega)]]
    · rw [ucn, ucn]
      rcases Nat.lt_or_ge b n with q | q
      · rw [show va_up g b true n = g n by unfold va_up; rw [if_neg (by omega)]]
        have := ih.2 q
        omega
      · have e : n = b := by omega
        subst e
        rw [ih.1 (Nat.le_refl _), hb, show va_up g n true n = true by unfold va_up; rw [if_pos rfl]]
        simp
theorem md_lt {v : Nat → Nat → Int32} {st : Int32} {g : Nat → Bool} {N c : Nat} {W9 : Int64} (hc : c ≤ N) (hu : ucn g N ≤ N - c) (h1 : 1 ≤ W9) (h : W9 < wys v st g N) : c < N := by
  rcases Nat.lt_or_ge c N with q | q
  · exact q
  · have e : ucn g N = 0 := by omega
    have := ucn_0 e
    rw [wys_1 (fun k hk => amb_o (this k hk))] at h
    exact absurd (Int64.lt_of_lt_of_le h h1) Int64.lt_irrefl
theorem md_ge1 {w1 : Int32} (h : isI w1 1 1000000 = true) : (1 : Int64) ≤ Int32.toInt64 w1 := by
  unfold isI at h
  simp only [Bool.and_eq_true, decide_eq_true_eq] at h
  have h1 := h.1
  rw [Int32.le_iff_toInt_le] at h1
  rw [Int64.le_iff_toInt_le, Int32.toInt_toInt64]
  exact h1
/-- the mean note -/
def mean (v : Nat → Nat → Int32) (st : Int32) (N : Nat) : UInt64 := if N = 0 then 0 else FP.ddiv (FP.i2d (sumI (fun k => nt (v 0) st (k + 1)) N)) (FP.i2d (nI N))
set_option maxRecDepth 100000 in
theorem ddiv_fin : ∀ a, a < 385 → ∀ b, b < 16 → FP.ddiv (FP.i2d (nI a)) (FP.i2d (nI (b + 1))) &&& 0x7fffffffffffffff ≤ 0x7ff0000000000000 := by decide +kernel
theorem sum_nat {N : Nat} {st : Int32} {v : Nat → Nat → Int32} (h : Ok N st v) : ∀ n : Nat, ∃ a : Nat, a ≤ 24 * n ∧ sumI (fun k => nt (v 0) st (k + 1)) n = nI a
  | 0 => ⟨0, Nat.le_refl _, rfl⟩
  | n + 1 => by
    obtain ⟨a, ha, ea⟩ := sum_nat h n
    obtain ⟨s, hs, es⟩ := h.2.1
    obtain ⟨b, hb, eb⟩ := nt_rng h hs (n + 1)
    rw [← es] at eb
    exact ⟨a + b, by omega, by rw [sumI, ea, eb, nI_add]⟩
theorem mean_fin {N : Nat} {st : Int32} {v : Nat → Nat → Int32} (h : Ok N st v) (h0 : 0 < N) : vf_n64 (FP.ddiv (FP.i2d (sumI (fun k => nt (v 0) st (k + 1)) N)) (FP.i2d (nI N))) := by
  obtain ⟨a, ha, ea⟩ := sum_nat h N
  obtain ⟨M, rfl⟩ : ∃ M, N = M + 1 := ⟨N - 1, by omega⟩
  have hN := h.1
  rw [ea]
  exact ddiv_fin a (by omega) M (by omega)
theorem mean_1 {N : Nat} {st : Int32} {v : Nat → Nat → Int32} (h0 : 0 < N) : FP.ddiv (FP.i2d (sumI (fun k => nt (v 0) st (k + 1)) N)) (FP.i2d (nI N)) = mean v st N := by unfold mean; rw [if_neg (by omega)]
theorem mean_0 {N : Nat} {st : Int32} {v : Nat → Nat → Int32} (h0 : N = 0) : 0 = mean v st N := by unfold mean; rw [if_pos h0]

theorem jyL_build : SM yL_build cL_build 5 (some (.object "MapSongsLaw$Sim")) 2 := ⟨⟨ks_yL_build, kn_RL, kd_yL_build⟩, by decide +kernel⟩
theorem jyL_cell : SM yL_cell cL_cell 2 (some .int) 2 := ⟨⟨ks_yL_cell, kn_RL, kd_yL_cell⟩, by decide +kernel⟩
theorem jyL_below : SM yL_below cL_below 2 (some .int) 2 := ⟨⟨ks_yL_below, kn_RL, kd_yL_below⟩, by decide +kernel⟩
theorem jyX1_with : SM yX1_with cX1_with 4 (some (.array (.array .int))) 2 := ⟨⟨ks_yX1_with, kn_RX1, kd_yX1_with⟩, by decide +kernel⟩
theorem jyX1_sing : IM RX1 yX1_sing cX1_sing 4 none 1 := ⟨⟨ki_yX1_sing, kz_yX1_sing, kn_RX1, kd_yX1_sing⟩, by decide +kernel⟩
theorem jyX1_ahead : IM RX1 yX1_ahead cX1_ahead 2 (some .int) 1 := ⟨⟨ki_yX1_ahead, kz_yX1_ahead, kn_RX1, kd_yX1_ahead⟩, by decide +kernel⟩
theorem jyX1_sung : SM yX1_sung cX1_sung 2 (some .int) 2 := ⟨⟨ks_yX1_sung, kn_RX1, kd_yX1_sung⟩, by decide +kernel⟩
theorem jyX0_addLeg : IM RX0 yX0_addLeg cX0_addLeg 5 (some .int) 3 := ⟨⟨ki_yX0_addLeg, kz_yX0_addLeg, kn_RX0, kd_yX0_addLeg⟩, by decide +kernel⟩
theorem jyX0_checkTurn : SM yX0_checkTurn cX0_checkTurn 1 none 1 := ⟨⟨ks_yX0_checkTurn, kn_RX0, kd_yX0_checkTurn⟩, by decide +kernel⟩
theorem jyX0_isLandmark : SM yX0_isLandmark cX0_isLandmark 1 (some .boolean) 1 := ⟨⟨ks_yX0_isLandmark, kn_RX0, kd_yX0_isLandmark⟩, by decide +kernel⟩
theorem jyX0_follow : IM RX0 yX0_follow cX0_follow 4 none 1 := ⟨⟨ki_yX0_follow, kz_yX0_follow, kn_RX0, kd_yX0_follow⟩, by decide +kernel⟩
theorem jyX0_headingAhead : IM RX0 yX0_headingAhead cX0_headingAhead 2 (some .int) 1 := ⟨⟨ki_yX0_headingAhead, kz_yX0_headingAhead, kn_RX0, kd_yX0_headingAhead⟩, by decide +kernel⟩
theorem jyJ9_floorMod_7cf53 : SM yJ9_floorMod_7cf53 cJ9_floorMod_7cf53 3 (some .int) 2 := ⟨⟨ks_yJ9_floorMod_7cf53, kn_RJ9, kd_yJ9_floorMod_7cf53⟩, by decide +kernel⟩
theorem jyX0_xAhead : IM RX0 yX0_xAhead cX0_xAhead 2 (some .int) 1 := ⟨⟨ki_yX0_xAhead, kz_yX0_xAhead, kn_RX0, kd_yX0_xAhead⟩, by decide +kernel⟩
theorem jyX0_yAhead : IM RX0 yX0_yAhead cX0_yAhead 2 (some .int) 1 := ⟨⟨ki_yX0_yAhead, kz_yX0_yAhead, kn_RX0, kd_yX0_yAhead⟩, by decide +kernel⟩
theorem jyX0_noteAhead : IM RX0 yX0_noteAhead cX0_noteAhead 2 (some .int) 1 := ⟨⟨ki_yX0_noteAhead, kz_yX0_noteAhead, kn_RX0, kd_yX0_noteAhead⟩, by decide +kernel⟩
theorem jyX0_noteBehind : SM yX0_noteBehind cX0_noteBehind 3 (some .int) 2 := ⟨⟨ks_yX0_noteBehind, kn_RX0, kd_yX0_noteBehind⟩, by decide +kernel⟩
theorem jyX0_leavesVoice : SM yX0_leavesVoice cX0_leavesVoice 1 (some .boolean) 1 := ⟨⟨ks_yX0_leavesVoice, kn_RX0, kd_yX0_leavesVoice⟩, by decide +kernel⟩
theorem jyX1_less : SM yX1_less cX1_less 3 (some (.array (.array .int))) 1 := ⟨⟨ks_yX1_less, kn_RX1, kd_yX1_less⟩, by decide +kernel⟩
theorem jyX0_strikeLeg : IM RX0 yX0_strikeLeg cX0_strikeLeg 1 (some .int) 0 := ⟨⟨ki_yX0_strikeLeg, kz_yX0_strikeLeg, kn_RX0, kd_yX0_strikeLeg⟩, by decide +kernel⟩
theorem jyX0_bend : IM RX0 yX0_bend cX0_bend 4 (some .int) 2 := ⟨⟨ki_yX0_bend, kz_yX0_bend, kn_RX0, kd_yX0_bend⟩, by decide +kernel⟩
theorem jyX0_checkLeg : IM RX0 yX0_checkLeg cX0_checkLeg 2 none 1 := ⟨⟨ki_yX0_checkLeg, kz_yX0_checkLeg, kn_RX0, kd_yX0_checkLeg⟩, by decide +kernel⟩
theorem jyX0_dropMarks : IM RX0 yX0_dropMarks cX0_dropMarks 2 none 0 := ⟨⟨ki_yX0_dropMarks, kz_yX0_dropMarks, kn_RX0, kd_yX0_dropMarks⟩, by decide +kernel⟩
theorem jyX0_setWord : IM RX0 yX0_setWord cX0_setWord 4 (some .int) 2 := ⟨⟨ki_yX0_setWord, kz_yX0_setWord, kn_RX0, kd_yX0_setWord⟩, by decide +kernel⟩
theorem jyX0_checkLandmark : SM yX0_checkLandmark cX0_checkLandmark 1 none 1 := ⟨⟨ks_yX0_checkLandmark, kn_RX0, kd_yX0_checkLandmark⟩, by decide +kernel⟩
theorem jyX0_isWord : SM yX0_isWord cX0_isWord 1 (some .boolean) 1 := ⟨⟨ks_yX0_isWord, kn_RX0, kd_yX0_isWord⟩, by decide +kernel⟩
theorem jyX0_setStep : IM RX0 yX0_setStep cX0_setStep 3 (some .int) 1 := ⟨⟨ki_yX0_setStep, kz_yX0_setStep, kn_RX0, kd_yX0_setStep⟩, by decide +kernel⟩
theorem jyX1_isOpen : IM RX1 yX1_isOpen cX1_isOpen 2 (some .boolean) 1 := ⟨⟨ki_yX1_isOpen, kz_yX1_isOpen, kn_RX1, kd_yX1_isOpen⟩, by decide +kernel⟩
theorem jyX1_readings : IM RX1 yX1_readings cX1_readings 6 (some (.array .int)) 1 := ⟨⟨ki_yX1_readings, kz_yX1_readings, kn_RX1, kd_yX1_readings⟩, by decide +kernel⟩
theorem jyX0_mend : IM RX0 yX0_mend cX0_mend 2 (some .int) 1 := ⟨⟨ki_yX0_mend, kz_yX0_mend, kn_RX0, kd_yX0_mend⟩, by decide +kernel⟩
theorem jyX0_isAmbiguous : IM RX0 yX0_isAmbiguous cX0_isAmbiguous 2 (some .boolean) 1 := ⟨⟨ki_yX0_isAmbiguous, kz_yX0_isAmbiguous, kn_RX0, kd_yX0_isAmbiguous⟩, by decide +kernel⟩
theorem jyX0_readings : IM RX0 yX0_readings cX0_readings 3 (some .int) 1 := ⟨⟨ki_yX0_readings, kz_yX0_readings, kn_RX0, kd_yX0_readings⟩, by decide +kernel⟩
theorem jyX0_turnsSungAs : SM yX0_turnsSungAs cX0_turnsSungAs 6 (some .int) 4 := ⟨⟨ks_yX0_turnsSungAs, kn_RX0, kd_yX0_turnsSungAs⟩, by decide +kernel⟩
theorem jyX0_landmarksNamed : IM RX0 yX0_landmarksNamed cX0_landmarksNamed 5 (some .int) 2 := ⟨⟨ki_yX0_landmarksNamed, kz_yX0_landmarksNamed, kn_RX0, kd_yX0_landmarksNamed⟩, by decide +kernel⟩
theorem jyX0_rightReading : IM RX0 yX0_rightReading cX0_rightReading 4 (some .int) 1 := ⟨⟨ki_yX0_rightReading, kz_yX0_rightReading, kn_RX0, kd_yX0_rightReading⟩, by decide +kernel⟩
theorem jyX0_digest : IM RX0 yX0_digest cX0_digest 4 (some .long) 0 := ⟨⟨ki_yX0_digest, kz_yX0_digest, kn_RX0, kd_yX0_digest⟩, by decide +kernel⟩
theorem jyX0_legs : IM RX0 yX0_legs cX0_legs 1 (some .int) 0 := ⟨⟨ki_yX0_legs, kz_yX0_legs, kn_RX0, kd_yX0_legs⟩, by decide +kernel⟩
theorem jyX0_digested : SM yX0_digested cX0_digested 4 (some .long) 2 := ⟨⟨ks_yX0_digested, kn_RX0, kd_yX0_digested⟩, by decide +kernel⟩
theorem jyX0_step : IM RX0 yX0_step cX0_step 1 (some .int) 0 := ⟨⟨ki_yX0_step, kz_yX0_step, kn_RX0, kd_yX0_step⟩, by decide +kernel⟩
theorem jyX0_endX : IM RX0 yX0_endX cX0_endX 1 (some .int) 0 := ⟨⟨ki_yX0_endX, kz_yX0_endX, kn_RX0, kd_yX0_endX⟩, by decide +kernel⟩
theorem jyX0_endY : IM RX0 yX0_endY cX0_endY 1 (some .int) 0 := ⟨⟨ki_yX0_endY, kz_yX0_endY, kn_RX0, kd_yX0_endY⟩, by decide +kernel⟩
theorem jyX0_stepsHome : IM RX0 yX0_stepsHome cX0_stepsHome 1 (some .int) 0 := ⟨⟨ki_yX0_stepsHome, kz_yX0_stepsHome, kn_RX0, kd_yX0_stepsHome⟩, by decide +kernel⟩
theorem jyX0_returns : IM RX0 yX0_returns cX0_returns 3 (some .int) 0 := ⟨⟨ki_yX0_returns, kz_yX0_returns, kn_RX0, kd_yX0_returns⟩, by decide +kernel⟩
theorem jyX0_endsWhereItWas : IM RX0 yX0_endsWhereItWas cX0_endsWhereItWas 3 (some .boolean) 1 := ⟨⟨ki_yX0_endsWhereItWas, kz_yX0_endsWhereItWas, kn_RX0, kd_yX0_endsWhereItWas⟩, by decide +kernel⟩
theorem jyX0_beats : IM RX0 yX0_beats cX0_beats 3 (some .int) 0 := ⟨⟨ki_yX0_beats, kz_yX0_beats, kn_RX0, kd_yX0_beats⟩, by decide +kernel⟩
theorem jyX0_folded : IM RX0 yX0_folded cX0_folded 3 (some .int) 0 := ⟨⟨ki_yX0_folded, kz_yX0_folded, kn_RX0, kd_yX0_folded⟩, by decide +kernel⟩
theorem jyX0_isFolded : IM RX0 yX0_isFolded cX0_isFolded 2 (some .boolean) 1 := ⟨⟨ki_yX0_isFolded, kz_yX0_isFolded, kn_RX0, kd_yX0_isFolded⟩, by decide +kernel⟩
theorem jyX0_range : IM RX0 yX0_range cX0_range 4 (some .int) 0 := ⟨⟨ki_yX0_range, kz_yX0_range, kn_RX0, kd_yX0_range⟩, by decide +kernel⟩
theorem jyX0_ambiguous : IM RX0 yX0_ambiguous cX0_ambiguous 3 (some .int) 0 := ⟨⟨ki_yX0_ambiguous, kz_yX0_ambiguous, kn_RX0, kd_yX0_ambiguous⟩, by decide +kernel⟩
theorem jyX0_ways : IM RX0 yX0_ways cX0_ways 4 (some .long) 0 := ⟨⟨ki_yX0_ways, kz_yX0_ways, kn_RX0, kd_yX0_ways⟩, by decide +kernel⟩
theorem jyX0_bestStep : IM RX0 yX0_bestStep cX0_bestStep 5 (some .int) 0 := ⟨⟨ki_yX0_bestStep, kz_yX0_bestStep, kn_RX0, kd_yX0_bestStep⟩, by decide +kernel⟩
theorem jyX0_unmendedWith : IM RX0 yX0_unmendedWith cX0_unmendedWith 9 (some .int) 3 := ⟨⟨ki_yX0_unmendedWith, kz_yX0_unmendedWith, kn_RX0, kd_yX0_unmendedWith⟩, by decide +kernel⟩
theorem jyX0_sharesWordIf : IM RX0 yX0_sharesWordIf cX0_sharesWordIf 6 (some .boolean) 3 := ⟨⟨ki_yX0_sharesWordIf, kz_yX0_sharesWordIf, kn_RX0, kd_yX0_sharesWordIf⟩, by decide +kernel⟩
theorem jyX0_wordIf : IM RX0 yX0_wordIf cX0_wordIf 4 (some .int) 3 := ⟨⟨ki_yX0_wordIf, kz_yX0_wordIf, kn_RX0, kd_yX0_wordIf⟩, by decide +kernel⟩
theorem jyX0_digestOfLeg : IM RX0 yX0_digestOfLeg cX0_digestOfLeg 6 (some .long) 2 := ⟨⟨ki_yX0_digestOfLeg, kz_yX0_digestOfLeg, kn_RX0, kd_yX0_digestOfLeg⟩, by decide +kernel⟩
theorem jyX0_turnOf : IM RX0 yX0_turnOf cX0_turnOf 2 (some .int) 1 := ⟨⟨ki_yX0_turnOf, kz_yX0_turnOf, kn_RX0, kd_yX0_turnOf⟩, by decide +kernel⟩
theorem jyX0_headingOf : IM RX0 yX0_headingOf cX0_headingOf 2 (some .int) 1 := ⟨⟨ki_yX0_headingOf, kz_yX0_headingOf, kn_RX0, kd_yX0_headingOf⟩, by decide +kernel⟩
theorem jyX0_landmarkOf : IM RX0 yX0_landmarkOf cX0_landmarkOf 2 (some .int) 1 := ⟨⟨ki_yX0_landmarkOf, kz_yX0_landmarkOf, kn_RX0, kd_yX0_landmarkOf⟩, by decide +kernel⟩
theorem jyX0_noteOf : IM RX0 yX0_noteOf cX0_noteOf 2 (some .int) 1 := ⟨⟨ki_yX0_noteOf, kz_yX0_noteOf, kn_RX0, kd_yX0_noteOf⟩, by decide +kernel⟩
theorem jyX0_wordIn : IM RX0 yX0_wordIn cX0_wordIn 2 (some .int) 1 := ⟨⟨ki_yX0_wordIn, kz_yX0_wordIn, kn_RX0, kd_yX0_wordIn⟩, by decide +kernel⟩
theorem jyX0_isMended : IM RX0 yX0_isMended cX0_isMended 2 (some .boolean) 1 := ⟨⟨ki_yX0_isMended, kz_yX0_isMended, kn_RX0, kd_yX0_isMended⟩, by decide +kernel⟩
theorem jyX0_wordOf : IM RX0 yX0_wordOf cX0_wordOf 2 (some .int) 1 := ⟨⟨ki_yX0_wordOf, kz_yX0_wordOf, kn_RX0, kd_yX0_wordOf⟩, by decide +kernel⟩
theorem jyX0_bestWord : IM RX0 yX0_bestWord cX0_bestWord 6 (some .int) 1 := ⟨⟨ki_yX0_bestWord, kz_yX0_bestWord, kn_RX0, kd_yX0_bestWord⟩, by decide +kernel⟩
theorem jyX0_sungWith : IM RX0 yX0_sungWith cX0_sungWith 4 (some .int) 1 := ⟨⟨ki_yX0_sungWith, kz_yX0_sungWith, kn_RX0, kd_yX0_sungWith⟩, by decide +kernel⟩
theorem jyX0_checkWord : SM yX0_checkWord cX0_checkWord 1 none 1 := ⟨⟨ks_yX0_checkWord, kn_RX0, kd_yX0_checkWord⟩, by decide +kernel⟩
theorem jyX0_firstAmbiguous : IM RX0 yX0_firstAmbiguous cX0_firstAmbiguous 2 (some .int) 0 := ⟨⟨ki_yX0_firstAmbiguous, kz_yX0_firstAmbiguous, kn_RX0, kd_yX0_firstAmbiguous⟩, by decide +kernel⟩
theorem jyX0_ambiguousWith : IM RX0 yX0_ambiguousWith cX0_ambiguousWith 3 (some .int) 2 := ⟨⟨ki_yX0_ambiguousWith, kz_yX0_ambiguousWith, kn_RX0, kd_yX0_ambiguousWith⟩, by decide +kernel⟩
theorem jyX1_openBy : IM RX1 yX1_openBy cX1_openBy 3 (some .int) 1 := ⟨⟨ki_yX1_openBy, kz_yX1_openBy, kn_RX1, kd_yX1_openBy⟩, by decide +kernel⟩
theorem jyX1_copy : IM RX1 yX1_copy cX1_copy 6 (some (.object "MapSongsLaw$Sim")) 0 := ⟨⟨ki_yX1_copy, kz_yX1_copy, kn_RX1, kd_yX1_copy⟩, by decide +kernel⟩
theorem jyX1_open : IM RX1 yX1_open cX1_open 3 (some .int) 0 := ⟨⟨ki_yX1_open, kz_yX1_open, kn_RX1, kd_yX1_open⟩, by decide +kernel⟩
theorem jyX0_mendTo : IM RX0 yX0_mendTo cX0_mendTo 4 (some .int) 1 := ⟨⟨ki_yX0_mendTo, kz_yX0_mendTo, kn_RX0, kd_yX0_mendTo⟩, by decide +kernel⟩
theorem jyX0_mostAmbiguous : IM RX0 yX0_mostAmbiguous cX0_mostAmbiguous 5 (some .int) 0 := ⟨⟨ki_yX0_mostAmbiguous, kz_yX0_mostAmbiguous, kn_RX0, kd_yX0_mostAmbiguous⟩, by decide +kernel⟩
theorem jyX1_isSame : IM RX1 yX1_isSame cX1_isSame 19 (some .boolean) 1 := ⟨⟨ki_yX1_isSame, kz_yX1_isSame, kn_RX1, kd_yX1_isSame⟩, by decide +kernel⟩
theorem jyX1_ways : IM RX1 yX1_ways cX1_ways 4 (some .long) 0 := ⟨⟨ki_yX1_ways, kz_yX1_ways, kn_RX1, kd_yX1_ways⟩, by decide +kernel⟩
theorem jyX0_meanNote : IM RX0 yX0_meanNote cX0_meanNote 3 (some .double) 0 := ⟨⟨ki_yX0_meanNote, kz_yX0_meanNote, kn_RX0, kd_yX0_meanNote⟩, by decide +kernel⟩
