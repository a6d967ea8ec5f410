/-! THE START -/
theorem noTr {l : Launch} (h : l.flags = flags0) : l.stackTraces = false := by
  unfold Launch.stackTraces
  rw [h]
  decide +kernel
theorem exW_in : ∀ w ∈ exW, w ∈ lw_tbl := by decide +kernel
theorem exW_on : ∀ w ∈ exW, w.onTables = true := by decide +kernel
theorem exS_in : ∀ k ∈ exI, Cond.stringRef RX0 k (exT k) ∈ lw_tbl := by decide +kernel
section P35
variable {s : State} {args : Array Value} {H : Heap}
theorem a9n {a : Nat} (h : a < s.heap.size) : ¬ A9 s a := Nat.not_le.mpr h
theorem th_of (hts : ∀ w ∈ lw_tbl, w.before args s = true) (hgv : (Jvm.Cond.and given_1 narrow_1).before args s = true) : TH (A9 s) s s.heap := by
  have hs := flat_of_before _ hgv
  refine ⟨⟨vx_Zqof (hts _ (by decide +kernel)) (hts _ (by decide +kernel)) (hs _ (by decide +kernel)) (fun a h => a9n h), vx_Zqof (hts _ (by decide +kernel)) (hts _ (by decide +kernel)) (hs _ (by decide +kernel)) (fun a h => a9n h)⟩, fun w hw => va_tabs (exW_on w hw) rfl (hts w (exW_in w hw)), fun k hk => ?_⟩
  have key : ∀ k : Nat, k ∈ exI → (Cond.exactly (Term.string RX0 k) "java/lang/String").before args s = true → ∃ a, vk_R RX0 k (exT k) a s := by
    intro k hk h
    obtain ⟨a, -, -, -, ha, -⟩ := Cond.exactly_spec h
    exact ⟨a, vk_R.of (A := args) (hts _ (exS_in k hk)) ha⟩
  have hk2 := hk
  simp only [exI, List.mem_cons, List.not_mem_nil, or_false] at hk
  rcases hk with h | h | h | h | h | h | h | h | h | h <;> subst h <;> exact key _ hk2 (hs _ (by decide +kernel))
theorem tab_of {C n : String} {f : Nat → Int32} (hl : (Cond.laysStatic C n "[I").before args s = true) (hini : (Cond.initialized C).before args s = true) (ha : (Cond.arrayOf (Term.static C n "[I") .int).before args s = true) (h8 : (Cond.eq (Term.length (Term.static C n "[I")) (Term.int 8)).before args s = true)
    (he : ∀ j : Nat, j < 8 → (Cond.eq (Term.elem (Term.static C n "[I") (Term.int (Int32.ofNat j))) (Term.int (f j))).before args s = true) : ∃ t : Nat, va_Z C n "[I" (.ref t) (A9 s) s s.heap ∧ va_T .int t 8 (fun j => .int (f j)) (A9 s) s s.heap := by
  obtain ⟨t, h1, h2⟩ := va_Tof (tm := Term.static C n "[I") (ty := .int) (N := 8) (f := fun j => .int (f j)) (A := A9 s) (by decide) ha (va_eqt h8) (fun j hj => va_eqt (he j hj)) (fun a h => a9n h)
  exact ⟨t, va_Zof hl hini h1 (fun a h => a9n h), h2⟩
theorem st_of (hts : ∀ w ∈ lw_tbl, w.before args s = true) (hgv : (Jvm.Cond.and given_1 narrow_1).before args s = true) : ∃ t1 t2, ST t1 t2 (A9 s) s s.heap := by
  have hs := flat_of_before _ hgv
  obtain ⟨t1, h1, h2⟩ := tab_of (C := "MapSongs") (n := "STEP_EAST") (f := eaT) (hts _ (by decide +kernel)) (hts _ (by decide +kernel)) (hs _ (by decide +kernel)) (hs _ (by decide +kernel)) (fun j hj => by
    match j, hj with
    | 0, _ => exact hs _ (by decide +kernel)
    | 1, _ => exact hs _ (by decide +kernel)
    | 2, _ => exact hs _ (by decide +kernel)
    | 3, _ => exact hs _ (by decide +kernel)
    | 4, _ => exact hs _ (by decide +kernel)
    | 5, _ => exact hs _ (by decide +kernel)
    | 6, _ => exact hs _ (by decide +kernel)
    | 7, _ => exact hs _ (by decide +kernel)
    | k + 8, h => exact absurd h (by omega))
  obtain ⟨t2, h3, h4⟩ := tab_of (C := "MapSongs") (n := "STEP_NORTH") (f := noT) (hts _ (by decide +kernel)) (hts _ (by decide +kernel)) (hs _ (by decide +kernel)) (hs _ (by decide +kernel)) (fun j hj => by
    match j, hj with
    | 0, _ => exact hs _ (by decide +kernel)
    | 1, _ => exact hs _ (by decide +kernel)
    | 2, _ => exact hs _ (by decide +kernel)
    | 3, _ => exact hs _ (by decide +kernel)
    | 4, _ => exact hs _ (by decide +kernel)
    | 5, _ => exact hs _ (by decide +kernel)
    | 6, _ => exact hs _ (by decide +kernel)
    | 7, _ => exact hs _ (by decide +kernel)
    | k + 8, h => exact absurd h (by omega))
  exact ⟨t1, t2, h1, h2, h3, h4⟩
theorem arr_of {ty : FieldType} (hp : (match ty with | .int => True | .boolean => True | _ => False)) (h : (Cond.arrayClass ty).before args s = true) : ∃ cA : ClassId, ArrOfT s cA ty ∧ va_RA s cA ty := by
  obtain ⟨cA, kA, comp, h1, h2, h3⟩ := Cond.arrayClass_spec h
  refine ⟨cA, fun n z => ⟨fun k h => (by cases h), kA, h2, comp, h3⟩, ?_⟩
  cases ty <;> first | exact h1 | exact absurd hp (fun h => h)

theorem k_of2 (hts : ∀ w ∈ wA, w.before args s = true) (hts0 : ∀ w ∈ lw_tbl, w.before args s = true) : ∃ (D : va_G) (cyI cyZ cyA : ClassId), va_K D vwCl [(cyI, .int), (cyZ, .boolean)] s ∧ KS D cyI cyA s := by
  obtain ⟨c0, iS0, hK0⟩ := u_known (C := RX0) (T := TX0) (N := 11) (n := 11) hts wx0 (hts _ kb_RX0)
  obtain ⟨c1, iS1, hK1⟩ := u_known (C := RX1) (T := TX1) (N := 3) (n := 3) hts wx1 (hts _ kb_RX1)
  obtain ⟨cyI, i1, i2⟩ := arr_of (ty := .int) trivial (hts _ ka_int)
  obtain ⟨cyZ, z1, z2⟩ := arr_of (ty := .boolean) trivial (hts _ ka_boolean)
  have hov : (Cond.arrayOver (.array .int)).before args s = true := hts0 _ (by decide +kernel)
  obtain ⟨comp, cyA, kA, h1, h2, h3, h4, h5⟩ := arrayOverA_spec hov
  have a1 : ArrOfT s cyA (.array .int) := fun n z => ⟨fun k h => (by cases h), kA, h3, comp, h4⟩
  have a2 : va_RA s cyA (.array .int) := h5
  have hc : ∀ (c : Nat) (q : vw_C), vwCl[c]? = some q → u_Kn s q.1 q.2.1 q.2.2 ((fun k => if k = 0 then c0 else c1 : Nat → ClassId) c) ((fun k => if k = 0 then iS0 else iS1 : Nat → Nat → Nat) c) := by
    intro k q hq
    match k, hq with
    | 0, hq => cases hq; exact hK0
    | 1, hq => cases hq; exact hK1
    | k + 2, hq => simp [vwCl] at hq
  refine ⟨(fun k => if k = 0 then c0 else c1, fun k => if k = 0 then iS0 else iS1), cyI, cyZ, cyA, ⟨hc, ?_⟩, ⟨hc, ?_⟩, hov⟩
  · intro k q hq
    match k, hq with
    | 0, hq => cases hq; exact ⟨i1, i2⟩
    | 1, hq => cases hq; exact ⟨z1, z2⟩
    | k + 2, hq => simp at hq
  · intro k q hq
    match k, hq with
    | 0, hq => cases hq; exact ⟨i1, i2⟩
    | 1, hq => cases hq; exact ⟨a1, a2⟩
    | k + 2, hq => simp at hq
theorem nk_of (hts : ∀ w ∈ lw_tbl, w.before args s = true) : NK s := va_Nw.of rfl (hts _ (by decide +kernel))
end P35
section P36
variable {s : State} {H : Heap} {D : va_G} {cyI cyZ : ClassId} {q : Nat → Nat} {n st : Int32} {v w : Nat → Nat → Int32} {mk : Nat → Bool}
theorem C0.to00 (h : C0 D cyI cyZ q n st v mk w s H) (h0 : v 0 = fun _ => 0) (h1 : v 1 = fun _ => 0) (h2 : v 2 = fun _ => 0) (h3 : ∀ k, k < 10 → v 3 k = nI k) : C0 D cyI cyZ q n st v00 mk w s H := by
  have e0 : v00 0 = v 0 := by rw [h0]; funext k; simp [v00]
  have e1 : v00 1 = v 1 := by rw [h1]; funext k; simp [v00]
  have e2 : v00 2 = v 2 := by rw [h2]; funext k; simp [v00]
  have e3 : vp_cell cyI (10, .inl (v00 3)) = vp_cell cyI (10, .inl (v 3)) := cell_congr (fun k hk => by rw [h3 k hk]; simp [v00])
  refine ⟨fun k r hr => ?_, h.2⟩
  match k, hr with
  | 0, hr => cases hr; exact h.1 0 _ rfl
  | 1, hr => cases hr; rw [e0]; exact h.1 1 _ rfl
  | 2, hr => cases hr; rw [e1]; exact h.1 2 _ rfl
  | 3, hr => cases hr; rw [e2]; exact h.1 3 _ rfl
  | 4, hr => cases hr; exact h.1 4 _ rfl
  | 5, hr =>
    cases hr
    have h9 : H[q 5]? = some (vp_cell cyI (10, .inl (v 3))) := h.1 5 _ rfl
    show H[q 5]? = some (vp_cell cyI (10, .inl (v00 3)))
    rw [e3]
    exact h9
  | 6, hr => cases hr; exact h.1 6 _ rfl
  | 7, hr => cases hr; exact h.1 7 _ rfl
  | 8, hr => cases hr; exact h.1 8 _ rfl
  | 9, hr => cases hr; exact h.1 9 _ rfl
  | k + 10, hr => simp [cwC] at hr
end P36
set_option maxHeartbeats 4000000 in
set_option maxRecDepth 100000 in
/-- from the entry to the end -/
theorem whole_start {p : Program} {e : Env} {s : State} {m : MethodId} {below : List Frame} {meth : Method} {c : Code} (l : Launch) (hflags : l.flags = flags0) {b L : Nat} {xs : Nat → Int32} (hL : L ≤ 260) (hC : lw_At p s m meth c b L xs) : W p l e room_1 s m #[Value.ref b] below meth c s.heap [] 0 0 (lw_Z below #[Value.ref b] s) (entryFrame m ([Value.ref b] : List Value).toArray 27) := by
  obtain ⟨hx, hb, hr, hml, hown, hts, hXs, hbl, hlocks, hgv⟩ := hC
  have htsA := wA_ts hts
  have hb : c.code = cL_law := hb
  have hown : s.vm.findClass RL = some m.cls := hown
  have hF : CallFix p m c cL_law 27 s #[Value.ref b] wA RL := ⟨hx, hb, hml, hown, htsA⟩
  obtain ⟨D, cyI, cyZ, cyA, hK, hKS⟩ := k_of2 htsA hts
  obtain ⟨t1, t2, hST⟩ := st_of hts hgv
  have hTH := th_of hts hgv
  have hNK := nk_of hts
  have hsT := noTr hflags
  have hA : ∀ q : Nat, s.heap.size ≤ q → A9 s q := fun _ h => h
  have hS : va_S (A9 s) s.heap s.heap [] := va_S.rf
  have hl := lv_entry ([.ref b]) (n := 27) (Nat.le_of_ble_eq_true rfl)
  rw [lg_entry_eq]
  generalize (lg_sl ([.ref b]) ++ List.replicate (27 - (lg_sl ([.ref b])).length) Slot.unset).toArray = ls at hl ⊢
  have hl : lv_has ls 27 [(0, .ref b)] := hl
  have hP0 : va_P D vwCl [] s.heap := fun k q h => by simp at h
  have hD0 : va_D (A9 s) [] := ⟨fun i j p q h => by simp at h, fun k q h => by simp at h⟩
  refine va_new (ci := 0) (fs := [.null, .null, .null, .null, .null, .int 0, .int 0, .null, .null, .null, .null]) (C := RX0) (T := TX0) (N := 11) hx hb htsA wx0 tyX0 tyX0_ok hown (htsA _ kc_RL_30) (htsA _ kb_RX0) (htsA _ kn_RX0) hK hP0 hD0 hS hA rfl (fun j hj => by
    match j, hj with
    | 0, _ => rfl
    | 1, _ => rfl
    | 2, _ => rfl
    | 3, _ => rfl
    | 4, _ => rfl
    | 5, _ => rfl
    | 6, _ => rfl
    | 7, _ => rfl
    | 8, _ => rfl
    | 9, _ => rfl
    | 10, _ => rfl
    | k + 11, h => exact absurd h (by omega)) (Nat.le_of_ble_eq_true rfl) (Nat.le_of_ble_eq_true rfl) dL_law_0 (fun h0 H hP hD hS => ?_)
  have hP : va_P D vwCl [(h0, .inr (0, [.null, .null, .null, .null, .null, .int 0, .int 0, .null, .null, .null, .null]))] H := hP
  have hD : va_D (A9 s) [(h0, .inr (0, [.null, .null, .null, .null, .null, .int 0, .int 0, .null, .null, .null, .null]))] := hD
  have hA0 : ∀ a, va_A [(h0, .inr (0, [.null, .null, .null, .null, .null, .int 0, .int 0, .null, .null, .null, .null]))] H.size a → A9 s a := va_free hD hS hA [0] rfl
  have hmv0 : Mv (fun U H1 => va_P D vwCl [(h0, .inr (0, [.null, .null, .null, .null, .null, .int 0, .int 0, .null, .null, .null, .null]))] H1 ∧ va_K D vwCl [(cyI, .int), (cyZ, .boolean)] U ∧ H1.size = H.size) := fun _ _ _ a h => ⟨h.1, va_K.moved a h.2.1, h.2.2⟩
  refine lv_dup hx hb dL_law_3 rfl ?_
  refine va_callv (va_runI (As := []) (rest := [.ref h0]) hF (mX0_init (l := l) (D := D) (cyI := cyI) (cyZ := cyZ) h0 H.size) (cwI 0 htsA (gm kd_yX0_init) rfl rfl rfl (htsA _ kn_RX0) (htsA _ kl_RL_83) (htsA _ ki_yX0_init) rfl (by decide +kernel) ⟨Nat.le_of_ble_eq_true rfl, Nat.le_of_ble_eq_true rfl⟩) ⟨mvBlind hmv0, fun U hU hW => mvPre hmv0 ⟨hP, hK, rfl⟩ hU hW⟩ rfl rfl hl.1 rfl (lv_room (Nat.le_of_ble_eq_true rfl)) dL_law_4 ⟨Nat.le_of_ble_eq_true rfl, Nat.le_of_ble_eq_true rfl⟩) hS (fun q _ h => hA0 q h) hA0 (fun u t H1 locs ht hvm hw hB hz1 hk1 hS => ?_)
  obtain ⟨q, v⟩ := u
  obtain ⟨hq0, hqA0, hv0, hv1, hv2, hv3⟩ := hw
  have hX : C0 D cyI cyZ q 0 2 v (fun _ => false) (fun _ _ => 0) s H1 := by subst ht; exact C0.mv t s t.heap hvm.symm hB
  have hX := hX.to00 hv0 hv1 hv2 hv3
  have hqA : ∀ a, own 10 q a → A9 s a := fun a ha => hA0 a (hqA0 a ha)
  have hq0 : q 0 = h0 := hq0
  rw [← hq0]
  clear hP hD hA0 hmv0 hqA0 hk1 hB hz1
  refine lv_astore_n (lv' := [(1, .ref (q 0)), (0, .ref b)]) hx hb dL_law_7 rfl hl (by decide) rfl (fun ls hl => ?_)
  refine lv_aload_n hx hb dL_law_8 rfl (lv_at hl 0 rfl) ?_
  refine lv_aload_n hx hb dL_law_9 rfl (lv_at hl 1 rfl) ?_
  refine wSrW (mc := 90) (ms := 700) (As := [.ref (q 0), .ref b]) (rest := []) hF (mL_build (D := D) (cyI := cyI) (cyZ := cyZ) (cyA := cyA) (q := q) (B := s.heap.size) (t1 := t1) (t2 := t2) (sb := b) (L := L) (xs := xs) hsT) XB.wm (fun _ _ => YB.mv) ⟨⟨⟨_, hX⟩, hKS⟩, ⟨hqA, hS.1, hbl, Nat.lt_of_lt_of_le hbl hS.1, hL⟩, ST.kept hST hS.2.1, TH.kept hTH hS.2.1, va_X.kept hXs (hS.2.1 b hbl (Nat.not_le.mpr hbl)), hNK⟩ jyL_build kl_RL_84 ⟨rfl, rfl⟩ ⟨Nat.le_of_ble_eq_true rfl, Nat.le_of_ble_eq_true rfl⟩ rfl hl.1 rfl (Nat.le_of_ble_eq_true rfl) ⟨Nat.le_of_ble_eq_true rfl, Nat.le_of_ble_eq_true rfl⟩ hS (fun _ _ h => h) (fun _ h => h) dL_law_10 (fun wa sm H locs _ hW hz hk hS => ?_)
  refine lv_astore_n (lv' := [(2, .ref sm), (1, .ref (q 0)), (0, .ref b)]) hx hb dL_law_13 rfl hl (by decide) rfl (fun ls hl => ?_)
  refine lv_aload_n hx hb dL_law_14 rfl (lv_at hl 0 rfl) ?_
  refine lv_ifnonnull (tgt := 20) hx hb dL_law_15 (by decide) ?_
  refine lv_iconst (v := (nI 0)) hx hb dL_law_20 (by decide) ?_
  refine lv_istore_n (lv' := [(3, .int (nI 0)), (2, .ref sm), (1, .ref (q 0)), (0, .ref b)]) hx hb dL_law_21 rfl hl (by decide) rfl (fun ls hl => ?_)
  refine W.widen (k := 100) (n := 900) (Nat.le_of_ble_eq_true rfl) (Nat.le_of_ble_eq_true rfl) ?_
  exact law_loop (D := D) (cyI := cyI) (cyZ := cyZ) (cyA := cyA) (q := q) (wa := wa) hF hsT hST hTH hXs hbl hL hr hlocks hW hS (lv_sub hl [3, 2, 1, 0] rfl)

-- ===== YOUR PART ENDS =====
set_option maxHeartbeats 4000000 in
theorem lw_walk (l : Launch) (hflags : l.flags = flags0) (b : Addr) (xs : List Int32) : MetFree l x (headSpec (Jvm.Cond.code x code maxLocals ret :: tables_1) room_1) (lw_P b xs) (fun _ _ _ _ _ => True) lw_Q := by
  refine MetFree.of_bodyS (code := code) (maxLocals := maxLocals) (ret := ret) (by decide) ?_ ?_
  · intro args s m h hn
    obtain ⟨meth, c, h1, h2, h3, h4, h5, h6, -, -⟩ := Cond.code_spec hn (atoms_spec (ws := Jvm.Cond.code x code maxLocals ret :: tables_1) h _ List.mem_cons_self)
    exact ⟨meth, c, h1, h2, h3, h4, h5, h6⟩
  · intro p e s m args below meth c s₁ B hml0 hP _
    obtain ⟨rfl, hx, hbd, hgv⟩ := hP
    obtain ⟨scr, harrAt, hlist, hof, hsmall⟩ := hx
    obtain ⟨hcb, hkn, -, -⟩ := State.arrayAt?_spec harrAt
    have hown : s.vm.findClass R_law = some m.cls := findClass_of_methodNamed B.named
    have hts0 : ∀ c ∈ (Jvm.Cond.code x code maxLocals ret :: tables_1), c.before #[Value.ref b] s = true := atoms_spec (ws := Jvm.Cond.code x code maxLocals ret :: tables_1) B.pre
    have hts : ∀ w ∈ lw_tbl, w.before #[Value.ref b] s = true := k2_hts_sels lw_privs (fun w hw => hts0 w (List.mem_cons_of_mem _ hw)) lw_privs_ok
    have hml : c.maxLocals = 27 := B.maxLocals_eq (hts0 _ List.mem_cons_self)
    have X₀ : Stand p l e room_1 s m #[Value.ref b] below meth c s₁ [] 0 0 := Stand.of_body B
    have hh0 : s₁.heap = s.heap := by rw [B.state]; rfl
    have hsz : scr.slots.size = xs.length := by rw [← Array.length_toList, hlist, List.length_map]
    have hval : ∀ j : Nat, j < xs.length → scr.slots[j]? = some (.int (xs.getD j 0)) := fun j hj => by
      rw [← Array.getElem?_toList, hlist]
      simp [hj]
    have hbl : b < s.heap.size := (Array.getElem?_eq_some_iff.mp hcb).1
    have hX : va_X b xs.length (fun j => xs.getD j 0) s s.heap := ⟨scr, hcb, hof, hkn, hsz, hval⟩
    have K : W p l e room_1 s m #[Value.ref b] below meth c s₁.heap [] 0 0 (lw_Z below #[Value.ref b] s) (entryFrame m ([Value.ref b] : List Value).toArray 27) := by
      rw [hh0]
      exact whole_start l hflags hbd ⟨B.exec, B.bytes, B.returns, hml, hown, hts, hX, hbl, B.notSynchronized, hgv⟩
    obtain ⟨t, a1, o, b1, b2, b3⟩ := K s₁ rfl X₀
    exact ⟨t, o, a1, b1, b2, b3⟩
theorem lw_pre_spec {args : Array Value} {s : State} (h : (Jvm.Cond.and given_1 narrow_1).before args s = true) (hr : rest_1_c.before args s = true) : ∃ (b : Addr) (xs : List Int32), lw_P b xs args s := by
  have hs := flat_of_before _ h
  have hq := flat_of_before _ hr
  have hc : (Cond.count 1).before args s = true := hs _ (by decide +kernel)
  have harr : (Cond.arrayOf (.arg 0) .int).before args s = true := hs _ (by decide +kernel)
  have hle : (Cond.le (.length (.arg 0)) (.int 260)).before args s = true := hs _ (by decide +kernel)
  have hlen : (Cond.isInt (.length (.arg 0))).before args s = true := hq _ (by decide +kernel)
  have hall : (Cond.all (.arg 0) (.isInt (.elem (.arg 0) (.index 0)))).before args s = true := hq _ (by decide +kernel)
  obtain ⟨b, xs, hb, hx⟩ := State.ints_of_pre rfl harr hlen hall
  have hsm : xs.length < 2 ^ 31 := hx.choose_spec.2.2.2
  have hev : (Term.length (.arg 0)).eval args s none [] s = some (.int xs.length.toInt32) := hx.length_eval hb
  have hv := Cond.le_ints hev (show (Term.int 260).eval args s none [] s = some (.int 260) from rfl)
  have hd : xs.length.toInt32 ≤ 260 := by
    simpa [Cond.before, Cond.holds, hv] using hle
  have hN : xs.length ≤ 260 := (Int32.ofNat_le_ofNat hsm (by decide)).mp (show Int32.ofNat xs.length ≤ Int32.ofNat 260 from hd)
  exact ⟨b, xs, Cond.one_arg hc (show args[0]? = some (.ref b) from hb), hx, hN, h⟩
theorem lw_comes (l : Launch) (hflags : l.flags = flags0) : Comes l x (Jvm.Cond.code x code maxLocals ret :: tables_1) room_1 (fun tb e args s => Calls_1 tb e args s ∧ rest_1 tb e args s ∧ Pre_1 tb e args s)
    (fun _ _ args s o t => lw_Q args s o t) := by
  intro p e ha hc hk s m args below hf hfit hheap happ hpre
  obtain ⟨b, xs, hP⟩ := lw_pre_spec hpre.2.2 hpre.2.1
  obtain ⟨k, o, h1, h2, h3, hQ⟩ := lw_walk l hflags b xs p e ha hc hk s m args below hf ((Spec.applies_iff_loose hf).mp happ).1 hP trivial
  exact ⟨k, o, h1, h2, h3, hQ⟩
theorem lw_frame {s t : State} {o : Outcome} {args : Array Value} (h : State.butDraws s t lw_cs (fun t1 => Framed s o t1 [] 600130 7301080)) :
    State.butDraws s t [Jvm.Choice.named "NaN.bits"] (fun t1 => Framed s o t1 (fieldLocs frame_1_writes args s ++ arrayLocs frame_1_arrays args s ++ staticLocs frame_1_statics s) 600130 7301080) := h
theorem lw_limb (L : Cond) (hL : ∀ (args : Array Value) (s t : State), L.after args s (.returned (some (.int 1))) t = true) :
    ArmFor flags0 classFile x code maxLocals ret World_1 tables_1 room_1 Calls_1 rest_1 Pre_1
      (fun tb e a s o t => postC L tb e a s o t ∧ State.butDraws s t [Jvm.Choice.named "NaN.bits"] (fun t1 => Framed s o t1 (fieldLocs frame_1_writes a s ++ arrayLocs frame_1_arrays a s ++ staticLocs frame_1_statics s) 600130 7301080)) := by
  intro l hflags _ _ p e ha hc hk s m args below hf hfit hheap happ hpre
  obtain ⟨k, o, h1, h2, h3, rfl, hF⟩ := lw_comes l hflags p e ha hc hk s m args below hf hfit hheap happ hpre
  exact ⟨k, _, h1, h2, h3, hL args s _, lw_frame hF⟩
theorem i_vc : Claimed_1_1 ∧ Claimed_1_2 := ⟨lw_limb limb_1_1 (fun args s t => by simp [limb_1_1, Cond.after, Cond.holds, Cond.value]), lw_limb limb_1_2 (fun args s t => Cond.after_iff.mpr (by
  first | (rw [show limb_1_2 = Cond.eq .result (.int 1) from rfl, Cond.eq_ints (x := 1) (y := 1) rfl rfl]; simp; done) | (simp [limb_1_2, Cond.value, Term.eval]; done)))⟩

