/-! THE START -/
theorem noTr {l : Launch} (h : l.flags = flags0) : l.stackTraces = false := by
  unfold Launch.stackTraces
  rw [h]
  decide +kernel
theorem exW_in : ∀ w ∈ exW, w ∈ lw_tbl := by decide +kernel
theorem exW_on : ∀ w ∈ exW, w.onTables = true := by decide +kernel
theorem exS_in : ∀ k ∈ exI, Cond.stringRef RX0 k (exT k) ∈ lw_tbl := by decide +kernel
section P35
variable {s : State} {args : Array Value} {H : Heap}
theorem a9n {a : Nat} (h : a < s.heap.size) : ¬ A9 s a := Nat.not_le.mpr h
theorem th_of (hts : ∀ w ∈ lw_tbl, w.before args s = true) (hgv : (Jvm.Cond.and given_1 narrow_1).before args s = true) : TH (A9 s) s s.heap := by
  have hs := flat_of_before _ hgv
  refine ⟨⟨vx_Zqof (hts _ (by decide +kernel)) (hts _ (by decide +kernel)) (hs _ (by decide +kernel)) (fun a h => a9n h), vx_Zqof (hts _ (by decide +kernel)) (hts _ (by decide +kernel)) (hs _ (by decide +kernel)) (fun a h => a9n h)⟩, fun w hw => va_tabs (exW_on w hw) rfl (hts w (exW_in w hw)), fun k hk => ?_⟩
  have key : ∀ k : Nat, k ∈ exI → (Cond.exactly (Term.string RX0 k) "java/lang/String").before args s = true → ∃ a, vk_R RX0 k (exT k) a s := by
    intro k hk h
    obtain ⟨a, -, -, -, ha, -⟩ := Cond.exactly_spec h
    exact ⟨a, vk_R.of (A := args) (hts _ (exS_in k hk)) ha⟩
  have hk2 := hk
  simp only [exI, List.mem_cons, List.not_mem_nil, or_false] at hk
  rcases hk with h | h | h | h | h | h | h | h | h | h <;> subst h <;> exact key _ hk2 (hs _ (by decide +kernel))
theorem nc_of (hgv : (Jvm.Cond.and given_1 narrow_1).before args s = true) : NC s s.heap := by
  have hs := flat_of_before _ hgv
  exact ⟨va_Nc.of (hs _ (by decide +kernel)), va_Nc.of (hs _ (by decide +kernel)), va_Nc.of (hs _ (by decide +kernel))⟩
theorem tab_of {C n : String} {f : Nat → Int32} (hl : (Cond.laysStatic C n "[I").before args s = true) (hini : (Cond.initialized C).before args s = true) (ha : (Cond.arrayOf (Term.static C n "[I") .int).before args s = true) (h8 : (Cond.eq (Term.length (Term.static C n "[I")) (Term.int 8)).before args s = true)
    (he : ∀ j : Nat, j < 8 → (Cond.eq (Term.elem (Term.static C n "[I") (Term.int (Int32.ofNat j))) (Term.int (f j))).before args s = true) : ∃ t : Nat, va_Z C n "[I" (.ref t) (A9 s) s s.heap ∧ va_T .int t 8 (fun j => .int (f j)) (A9 s) s s.heap := by
  obtain ⟨t, h1, h2⟩ := va_Tof (tm := Term.static C n "[I") (ty := .int) (N := 8) (f := fun j => .int (f j)) (A := A9 s) (by decide) ha (va_eqt h8) (fun j hj => va_eqt (he j hj)) (fun a h => a9n h)
  exact ⟨t, va_Zof hl hini h1 (fun a h => a9n h), h2⟩
theorem st_of (hts : ∀ w ∈ lw_tbl, w.before args s = true) (hgv : (Jvm.Cond.and given_1 narrow_1).before args s = true) : (∃ t1 t2, ST t1 t2 (A9 s) s s.heap) ∧ ∃ t3, SM1 t3 (A9 s) s s.heap := by
  have hs := flat_of_before _ hgv
  obtain ⟨t1, h1, h2⟩ := tab_of (C := "MapSongs") (n := "STEP_EAST") (f := eaT) (hts _ (by decide +kernel)) (hts _ (by decide +kernel)) (hs _ (by decide +kernel)) (hs _ (by decide +kernel)) (fun j hj => by
    match j, hj with
    | 0, _ => exact hs _ (by decide +kernel)
    | 1, _ => exact hs _ (by decide +kernel)
    | 2, _ => exact hs _ (by decide +kernel)
    | 3, _ => exact hs _ (by decide +kernel)
    | 4, _ => exact hs _ (by decide +kernel)
    | 5, _ => exact hs _ (by decide +kernel)
    | 6, _ => exact hs _ (by decide +kernel)
    | 7, _ => exact hs _ (by decide +kernel)
    | k + 8, h => exact absurd h (by omega))
  obtain ⟨t2, h3, h4⟩ := tab_of (C := "MapSongs") (n := "STEP_NORTH") (f := noT) (hts _ (by decide +kernel)) (hts _ (by decide +kernel)) (hs _ (by decide +kernel)) (hs _ (by decide +kernel)) (fun j hj => by
    match j, hj with
    | 0, _ => exact hs _ (by decide +kernel)
    | 1, _ => exact hs _ (by decide +kernel)
    | 2, _ => exact hs _ (by decide +kernel)
    | 3, _ => exact hs _ (by decide +kernel)
    | 4, _ => exact hs _ (by decide +kernel)
    | 5, _ => exact hs _ (by decide +kernel)
    | 6, _ => exact hs _ (by decide +kernel)
    | 7, _ => exact hs _ (by decide +kernel)
    | k + 8, h => exact absurd h (by omega))
  obtain ⟨t3, h5, h6⟩ := tab_of (C := "MapSongsModel") (n := "EAST") (f := eaT) (hts _ (by decide +kernel)) (hts _ (by decide +kernel)) (hs _ (by decide +kernel)) (hs _ (by decide +kernel)) (fun j hj => by
    match j, hj with
    | 0, _ => exact hs _ (by decide +kernel)
    | 1, _ => exact hs _ (by decide +kernel)
    | 2, _ => exact hs _ (by decide +kernel)
    | 3, _ => exact hs _ (by decide +kernel)
    | 4, _ => exact hs _ (by decide +kernel)
    | 5, _ => exact hs _ (by decide +kernel)
    | 6, _ => exact hs _ (by decide +kernel)
    | 7, _ => exact hs _ (by decide +kernel)
    | k + 8, h => exact absurd h (by omega))
  exact ⟨⟨t1, t2, h1, h2, h3, h4⟩, t3, h5, h6⟩
theorem arr_of {ty : FieldType} (hp : (match ty with | .int => True | .boolean => True | _ => False)) (h : (Cond.arrayClass ty).before args s = true) : ∃ cA : ClassId, ArrOfT s cA ty ∧ va_RA s cA ty := by
  obtain ⟨cA, kA, comp, h1, h2, h3⟩ := Cond.arrayClass_spec h
  refine ⟨cA, fun n z => ⟨fun k h => (by cases h), kA, h2, comp, h3⟩, ?_⟩
  cases ty <;> first | exact h1 | exact absurd hp (fun h => h)
theorem k_of (hts : ∀ w ∈ wA, w.before args s = true) : ∃ (D : va_G) (cyI cyZ : ClassId), va_K D vwCl [(cyI, .int), (cyZ, .boolean)] s := by
  obtain ⟨c0, iS0, hK0⟩ := u_known (C := RX0) (T := TX0) (N := 11) (n := 11) hts wx0 (hts _ kb_RX0)
  obtain ⟨c1, iS1, hK1⟩ := u_known (C := RX1) (T := TX1) (N := 11) (n := 11) hts wx1 (hts _ kb_RX1)
  obtain ⟨cyI, i1, i2⟩ := arr_of (ty := .int) trivial (hts _ ka_int)
  obtain ⟨cyZ, z1, z2⟩ := arr_of (ty := .boolean) trivial (hts _ ka_boolean)
  refine ⟨(fun k => if k = 0 then c0 else c1, fun k => if k = 0 then iS0 else iS1), cyI, cyZ, ?_, ?_⟩
  · intro k q hq
    match k, hq with
    | 0, hq => cases hq; exact hK0
    | 1, hq => cases hq; exact hK1
    | k + 2, hq => simp [vwCl] at hq
  · intro k q hq
    match k, hq with
    | 0, hq => cases hq; exact ⟨i1, i2⟩
    | 1, hq => cases hq; exact ⟨z1, z2⟩
    | k + 2, hq => simp at hq
/-- the song that both sides hold at the start -/
def v00 : Nat → Nat → Int32 := fun i k => if i = 3 then nI k else 0
theorem cell_congr {cA : ClassId} {n : Nat} {f g : Nat → Int32} (h : ∀ k, k < n → f k = g k) : vp_cell cA (n, .inl f) = vp_cell cA (n, .inl g) := by
  rw [vp_cell_i, vp_cell_i]
  unfold arrV
  congr 1
  apply Array.ext
  · simp
  · intro i h1 h2
    simp only [Array.size_ofFn] at h1
    simp [h i h1]
theorem ok00 : Ok 0 2 v00 := ⟨Nat.zero_le _, ⟨1, by decide, by decide⟩, fun k => ⟨3, by decide, by show (0 : Int32) = nI 3 - 3; decide⟩, fun k => ⟨0, by decide, by show (0 : Int32) = nI 0; decide⟩⟩
end P35

