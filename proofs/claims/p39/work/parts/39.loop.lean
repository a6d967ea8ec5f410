/-! THE CLAIM OUT OF ONE WALK OF THE LAW'S BODY. Your part is whole_start (and what it stands on); all else here is the same for every law, but numbers. -/
def R_law : String := "MapSongsLaw"
def lw_P (b : Addr) (xs : List Int32) (args : Array Value) (s : State) : Prop := args = #[.ref b] ∧ s.IntsAt b xs ∧ xs.length ≤ 260 ∧ (Jvm.Cond.and given_1 narrow_1).before args s = true
/-- what a walk over the start with the record d0 says of its end, said of the start itself -/
theorem lw_closed {s t : State} {o : Outcome} {d0 : Drawn} {L : List Loc} {k n : Nat} (hd0 : s.drawn.sameBut d0 lw_cs) (hv : ∃ v, o = .returned v) (hW : (s.setDrawn d0).WarmedH t.vm) (hs : (s.setDrawn d0).sameButNew ({ t with vm := s.vm } : State) L k n) : State.butDraws s t lw_cs (fun t1 => Framed s o t1 L k n) := by
  have h2 : t.drawn = d0 := congrArg State.drawn hs.1
  refine ⟨⟨hv, hW, State.sameButNew.setDrawn hs s.drawn⟩, ?_, by decide⟩
  rw [h2]
  exact hd0
def lw_Q (_ : Array Value) (s : State) (o : Outcome) (t : State) : Prop := o = .returned (some (.int 1)) ∧ State.butDraws s t lw_cs (fun t1 => Framed s o t1 [] 600130 7301080)
def lw_Z (below : List Frame) (a : Array Value) (s : State) : State → Prop := fun t => ∃ o, t.status = .running ∧ Ended t below o ∧ lw_Q a s o t
/-- the law's own end, with 1 on the stack, nothing written that was there before, its room as the claim has it; d0: the record of draws at this point (at the entry s.drawn: begin with 'refine W.base ?_' and 'have hd0 := Drawn.sameBut.refl s.drawn lw_cs') -/
theorem lw_ret {p : Program} {l : Launch} {e : Env} {s : State} {m : MethodId} {below : List Frame} {meth : Method} {c : Code} {b : Nat} {d0 : Drawn} (hd0 : s.drawn.sameBut d0 lw_cs) (hx : p.tables.exec = Jvm.exec) (hb : c.code = code) (hr : meth.sig.returnType = ret) (hlocks : meth.locks = false) {pc : Nat} {H : Heap} {ls : Array Slot} (hdg : decode code pc = .ok (.ireturn, 1)) : W p l e room_1 (s.setDrawn d0) m #[Value.ref b] below meth c H [] 600130 7301080 (lw_Z below #[Value.ref b] s) (F0 m pc ls [.int 1]) := by
  intro T hT X
  obtain ⟨fs, hret, hrun, hended, hW, hframe⟩ := X.leave (v := some (.int 1)) (hlocks := hlocks) (fun h => by rw [hr] at h; cases h)
  have hmeth' : T.vm.method? m = some meth := X.method'
  refine ⟨T.setFrames fs, ?_, .returned (some (.int 1)), hrun, hended, rfl, lw_closed hd0 ⟨_, rfl⟩ hW hframe⟩
  jvm_step X.here [X.here.top, hx, hb, hdg, hmeth', hr, ret, narrow_b1]
  (try refine ⟨rfl, ?_⟩); (try refine ⟨rfl, ?_⟩)
  first | (intro acts; rw [hret _ acts rfl rfl rfl]) | rw [hret _ _ rfl rfl rfl]
  exact Steps.refl _
/-- what holds at the law's entry: the machine, the code, the tables' words (any of lw_tbl by 'hts w (by decide +kernel)'), the script of L ints xs at the cell b, what the Statement gives of the start (any of its parts by flat_of_before) -/
def lw_At (p : Program) (s : State) (m : MethodId) (meth : Method) (c : Code) (b L : Nat) (xs : Nat → Int32) : Prop :=
  p.tables.exec = Jvm.exec ∧ c.code = code ∧ meth.sig.returnType = ret ∧ c.maxLocals = 27 ∧ s.vm.findClass R_law = some m.cls ∧ (∀ w ∈ lw_tbl, w.before #[Value.ref b] s = true) ∧ va_X b L xs s s.heap ∧ b < s.heap.size ∧ meth.locks = false ∧ (Jvm.Cond.and given_1 narrow_1).before #[Value.ref b] s = true

section P39
variable {p : Program} {l : Launch} {ev : Env} {s : State} {m : MethodId} {below : List Frame} {meth : Method} {c : Code} {cells slots : Nat} {Q : State → Prop}
variable {D : va_G} {cyI cyZ cyA : ClassId} {q : Nat → Nat} {sm wa lg N t1 t2 sb L : Nat} {a : Nat → Nat} {st t9 y0 : Int32} {xs : Nat → Int32} {v w : Nat → Nat → Int32} {mk : Nat → Bool} {H : Heap} {locs : List Loc} {ls : Array Slot}
theorem LW.rc {B : Nat} (h : LW D cyI cyZ cyA q sm wa B s H) : Rc RX1 sm s H := by
  obtain ⟨N, st, v, m9, w, lg, a, ⟨hC, hX⟩, -⟩ := h
  exact hX.rc
set_option maxHeartbeats 32000000 in
set_option maxRecDepth 100000 in
theorem law_loop (hF : CallFix p m c cL_law 27 s #[Value.ref sb] wA RL) (hsT : l.stackTraces = false) (hZ0 : ST t1 t2 (fun z => s.heap.size ≤ z) s s.heap) (hTH : TH (fun z => s.heap.size ≤ z) s s.heap) (hXs : va_X sb L xs s s.heap) (hsbl : sb < s.heap.size) (hL : L ≤ 260) (hr : meth.sig.returnType = ret) (hlocks : meth.locks = false) (hW : LW D cyI cyZ cyA q sm wa s.heap.size s H) (hS : va_S (fun z => s.heap.size ≤ z) s.heap H locs) (hl : lv_has ls 27 [(0, .ref sb), (1, .ref (q 0)), (2, .ref sm), (3, .int (nI 0))]) : W p l ev room_1 s m #[Value.ref sb] below meth c H locs 100 900 (lw_Z below #[Value.ref sb] s) (F0 m 22 ls []) := by
  obtain ⟨hx, hb, hml, hown, hts⟩ := id hF
  have hB : s.heap.size ≤ s.heap.size := Nat.le_refl _
  have hsb := hsbl
  refine W.widen (k := 100 + 80 * 0) (n := 900 + 700 * 0) (by omega) (by omega) ?_
  refine lpC (σ := Nat) (τ := Unit) (fun t u8 ls H locs => (t ≤ 7) ∧ (LW D cyI cyZ cyA q sm wa s.heap.size s H) ∧ va_S (fun z => s.heap.size ≤ z) s.heap H locs ∧ lv_has ls 27 [(0, .ref sb), (1, .ref (q 0)), (2, .ref sm), (3, .int (nI t))]) (fun t u8 => 7 - t) (fun t => 100 + 80 * t) (fun t => 900 + 700 * t) (fun t u8 ls H locs hI ih1 => ?_) (0) () ⟨Nat.zero_le _, hW, hS, lv_sub hl [0, 1, 2, 3] rfl⟩
  obtain ⟨ht1, hW, hS, hl⟩ := hI
  refine lv_iload_n hx hb dL_law_22 rfl (lv_at hl 3 rfl) ?_
  refine lv_bipush (v := 7) hx hb dL_law_23 (by decide) ?_
  refine lv_icmp_ge (tgt := 1040) hx hb dL_law_25 (by decide) (fun c25 => ?_) (fun c25 => ?_)
  · have c25n : 7 ≤ t := (nI_leI (a := 7) (b := t) (by omega) (by omega)).mp c25
    refine lv_aload_n hx hb dL_law_1040 rfl (lv_at hl 2 rfl) ?_
    refine lv_aload_n hx hb dL_law_1041 rfl (lv_at hl 1 rfl) ?_
    refine wVi (mc := 130) (ms := 320) (As := [.ref (q 0)]) (rest := []) hF (mX1_isSame (D := D) (cyI := cyI) (cyZ := cyZ) (cyA := cyA) (q := q) (B := s.heap.size)) LW.mv (fun _ => Mv.const) hW hW.rc jyX1_isSame kl_RL_190 ⟨rfl, rfl⟩ ⟨Nat.le_of_ble_eq_true rfl, Nat.le_of_ble_eq_true rfl⟩ rfl hl.1 rfl (Nat.le_of_ble_eq_true rfl) ⟨by show _ + 130 ≤ 600130; omega, by show _ + 320 ≤ 7301080; omega⟩ hS (fun _ _ h => h.elim) (fun _ h => h.elim) dL_law_1042 (fun r9 u9 H locs hp9 hB9 hz hk hS => ?_)
    subst hp9
    refine va_forget hS.2.2 ?_
    refine W.widen (k := 600130) (n := 7301080) (by omega) (by omega) ?_
    exact lw_ret (d0 := s.drawn) (Drawn.sameBut.refl s.drawn lw_cs) hx hb hr hlocks dL_law_1045
  · have c25n : ¬ 7 ≤ t := fun h9 => c25 ((nI_leI (a := 7) (b := t) (by omega) (by omega)).mpr h9)
    refine lv_aload_n hx hb dL_law_28 rfl (lv_at hl 0 rfl) ?_
    refine lv_iload_n hx hb dL_law_29 rfl (lv_at hl 3 rfl) ?_
    refine lv_iconst (v := 1) hx hb dL_law_30 (by decide) ?_
    refine lv_iadd hx hb dL_law_31 ?_
    refine topI (show ((nI t) + 1) = nI (t + 1) from nI_1 t) ?_
    have hSr : XSr sb L xs s H := ⟨va_X.kept hXs (hS.2.1 sb hsbl (Nat.not_le.mpr hsb)), Nat.lt_of_lt_of_le hsbl hS.1⟩
    refine cSi (As := [.ref sb, .int (nI (t + 1))]) (rest := []) hF (mL_cell (t + 1) (by omega) hL) XSr.mv hSr jyL_cell kl_RL_75 ⟨rfl, rfl⟩ ⟨Nat.le_of_ble_eq_true rfl, Nat.le_of_ble_eq_true rfl⟩ rfl hl.1 rfl (Nat.le_of_ble_eq_true rfl) ⟨(by show _ ≤ 600130; omega), (by show _ ≤ 7301080; omega)⟩ dL_law_32 (fun r9 hr9 => ?_)
    refine lv_iconst (v := 2) hx hb dL_law_35 (by decide) ?_
    refine lv_ishr hx hb dL_law_36 ?_
    refine lv_bipush (v := 53) hx hb dL_law_37 (by decide) ?_
    refine lv_iload_n hx hb dL_law_39 rfl (lv_at hl 3 rfl) ?_
    refine lv_imul hx hb dL_law_40 ?_
    refine lv_iadd hx hb dL_law_41 ?_
    obtain ⟨y0, hy0⟩ : ∃ z : Int32, z = ((r9 >>> (2 &&& 31)) + (53 * (nI t))) := ⟨_, rfl⟩
    refine topI hy0.symm ?_
    refine lv_istore (lv' := [(4, .int y0), (0, .ref sb), (1, .ref (q 0)), (2, .ref sm), (3, .int (nI t))]) hx hb dL_law_42 hl (by decide) rfl (fun ls hl => ?_)
    refine lv_iconst (v := 0) hx hb dL_law_44 (by decide) ?_
    refine lv_istore (lv' := [(5, .int 0), (4, .int y0), (0, .ref sb), (1, .ref (q 0)), (2, .ref sm), (3, .int (nI t))]) hx hb dL_law_45 hl (by decide) rfl (fun ls hl => ?_)
    refine W.widen (k := 100 + 80 * t + 3 * 0) (n := 900 + 700 * t + 24 * 0) (by omega) (by omega) ?_
    refine lpC (σ := Nat) (τ := Unit) (fun k u8 ls H locs => (k ≤ 3) ∧ (LW D cyI cyZ cyA q sm wa s.heap.size s H) ∧ va_S (fun z => s.heap.size ≤ z) s.heap H locs ∧ lv_has ls 27 [(0, .ref sb), (1, .ref (q 0)), (2, .ref sm), (3, .int (nI t)), (4, .int y0), (5, .int (nI k))]) (fun k u8 => 3 - k) (fun k => 100 + 80 * t + 3 * k) (fun k => 900 + 700 * t + 24 * k) (fun k u8 ls H locs hI ih2 => ?_) (0) () ⟨Nat.zero_le _, hW, hS, lv_sub hl [2, 3, 4, 5, 1, 0] rfl⟩
    obtain ⟨hk1, hW, hS, hl⟩ := hI
    refine lv_iload hx hb dL_law_47 (lv_at hl 5 rfl) ?_
    refine lv_iconst (v := 3) hx hb dL_law_49 (by decide) ?_
    refine lv_icmp_ge (tgt := 82) hx hb dL_law_50 (by decide) (fun c50 => ?_) (fun c50 => ?_)
    · have c50n : 3 ≤ k := (nI_leI (a := 3) (b := k) (by omega) (by omega)).mp c50
      obtain ⟨N, st, v, mk, w, lg, a, ⟨hC, hX⟩, ⟨hinv, hde⟩, hap1, hap2, hdis⟩ := hW
      refine lv_aload_n hx hb dL_law_82 rfl (lv_at hl 1 rfl) ?_
      refine cVl (As := []) (rest := []) hF (mX0_digest hinv.1 hde) C0.mv hC (C0.rc hC) jyX0_digest kl_RL_88 ⟨rfl, rfl⟩ ⟨Nat.le_of_ble_eq_true rfl, Nat.le_of_ble_eq_true rfl⟩ rfl hl.1 rfl (Nat.le_of_ble_eq_true rfl) ⟨(by show _ ≤ 600130; omega), (by show _ ≤ 7301080; omega)⟩ dL_law_83 (fun r9 hr9 => ?_)
      subst hr9
      refine lv_lstore (lv' := [(5, .long (dgst v st mk N)), (0, .ref sb), (1, .ref (q 0)), (2, .ref sm), (3, .int (nI t)), (4, .int y0)]) hx hb dL_law_86 hl (by decide) rfl (fun ls hl => ?_)
      refine lv_aload_n hx hb dL_law_88 rfl (lv_at hl 2 rfl) ?_
      refine cVi (As := []) (rest := []) hF (mX0_legs ) C0.mv hC (C0.rc hC) jyX0_legs kl_RL_92 ⟨rfl, rfl⟩ ⟨Nat.le_of_ble_eq_true rfl, Nat.le_of_ble_eq_true rfl⟩ rfl hl.1 rfl (Nat.le_of_ble_eq_true rfl) ⟨(by show _ ≤ 600130; omega), (by show _ ≤ 7301080; omega)⟩ dL_law_89 (fun r9 hr9 => ?_)
      subst hr9
      refine lv_istore (lv' := [(7, .int (nI N)), (5, .long (dgst v st mk N)), (0, .ref sb), (1, .ref (q 0)), (2, .ref sm), (3, .int (nI t)), (4, .int y0)]) hx hb dL_law_92 hl (by decide) rfl (fun ls hl => ?_)
      refine lv_aload_n hx hb dL_law_94 rfl (lv_at hl 3 rfl) ?_
      refine cVi (As := []) (rest := []) hF (mX0_step ) C0.mv hC (C0.rc hC) jyX0_step kl_RL_94 ⟨rfl, rfl⟩ ⟨Nat.le_of_ble_eq_true rfl, Nat.le_of_ble_eq_true rfl⟩ rfl hl.1 rfl (Nat.le_of_ble_eq_true rfl) ⟨(by show _ ≤ 600130; omega), (by show _ ≤ 7301080; omega)⟩ dL_law_95 (fun r9 hr9 => ?_)
      rw [hr9]
      refine lv_istore (lv' := [(8, .int st), (7, .int (nI N)), (5, .long (dgst v st mk N)), (0, .ref sb), (1, .ref (q 0)), (2, .ref sm), (3, .int (nI t)), (4, .int y0)]) hx hb dL_law_98 hl (by decide) rfl (fun ls hl => ?_)
      refine lv_bipush (v := 12) hx hb dL_law_100 (by decide) ?_
      refine lv_istore (lv' := [(9, .int 12), (8, .int st), (7, .int (nI N)), (5, .long (dgst v st mk N)), (0, .ref sb), (1, .ref (q 0)), (2, .ref sm), (3, .int (nI t)), (4, .int y0)]) hx hb dL_law_102 hl (by decide) rfl (fun ls hl => ?_)
      refine lv_iconst (v := 0) hx hb dL_law_104 (by decide) ?_
      refine lv_istore (lv' := [(10, .int 0), (9, .int 12), (8, .int st), (7, .int (nI N)), (5, .long (dgst v st mk N)), (0, .ref sb), (1, .ref (q 0)), (2, .ref sm), (3, .int (nI t)), (4, .int y0)]) hx hb dL_law_105 hl (by decide) rfl (fun ls hl => ?_)
      refine lv_iconst (v := 0) hx hb dL_law_107 (by decide) ?_
      refine lv_istore (lv' := [(11, .int 0), (10, .int 0), (9, .int 12), (8, .int st), (7, .int (nI N)), (5, .long (dgst v st mk N)), (0, .ref sb), (1, .ref (q 0)), (2, .ref sm), (3, .int (nI t)), (4, .int y0)]) hx hb dL_law_108 hl (by decide) rfl (fun ls hl => ?_)
      refine lv_iconst (v := 0) hx hb dL_law_110 (by decide) ?_
      refine lv_istore (lv' := [(12, .int 0), (11, .int 0), (10, .int 0), (9, .int 12), (8, .int st), (7, .int (nI N)), (5, .long (dgst v st mk N)), (0, .ref sb), (1, .ref (q 0)), (2, .ref sm), (3, .int (nI t)), (4, .int y0)]) hx hb dL_law_111 hl (by decide) rfl (fun ls hl => ?_)
      refine lv_iconst (v := 0) hx hb dL_law_113 (by decide) ?_
      refine lv_istore (lv' := [(13, .int 0), (12, .int 0), (11, .int 0), (10, .int 0), (9, .int 12), (8, .int st), (7, .int (nI N)), (5, .long (dgst v st mk N)), (0, .ref sb), (1, .ref (q 0)), (2, .ref sm), (3, .int (nI t)), (4, .int y0)]) hx hb dL_law_114 hl (by decide) rfl (fun ls hl => ?_)
      refine lv_iconst (v := 0) hx hb dL_law_116 (by decide) ?_
      refine lv_istore (lv' := [(14, .int 0), (13, .int 0), (12, .int 0), (11, .int 0), (10, .int 0), (9, .int 12), (8, .int st), (7, .int (nI N)), (5, .long (dgst v st mk N)), (0, .ref sb), (1, .ref (q 0)), (2, .ref sm), (3, .int (nI t)), (4, .int y0)]) hx hb dL_law_117 hl (by decide) rfl (fun ls hl => ?_)
      refine lv_iconst (v := (-1)) hx hb dL_law_119 (by decide) ?_
      refine lv_istore (lv' := [(15, .int (-1)), (14, .int 0), (13, .int 0), (12, .int 0), (11, .int 0), (10, .int 0), (9, .int 12), (8, .int st), (7, .int (nI N)), (5, .long (dgst v st mk N)), (0, .ref sb), (1, .ref (q 0)), (2, .ref sm), (3, .int (nI t)), (4, .int y0)]) hx hb dL_law_120 hl (by decide) rfl (fun ls hl => ?_)
      refine lv_lconst (v := 1) hx hb dL_law_122 (by decide) ?_
      refine lv_lstore (lv' := [(16, .long 1), (15, .int (-1)), (14, .int 0), (13, .int 0), (12, .int 0), (11, .int 0), (10, .int 0), (9, .int 12), (8, .int st), (7, .int (nI N)), (5, .long (dgst v st mk N)), (0, .ref sb), (1, .ref (q 0)), (2, .ref sm), (3, .int (nI t)), (4, .int y0)]) hx hb dL_law_123 hl (by decide) rfl (fun ls hl => ?_)
      refine lv_iconst (v := 0) hx hb dL_law_125 (by decide) ?_
      refine lv_istore (lv' := [(18, .int 0), (16, .long 1), (15, .int (-1)), (14, .int 0), (13, .int 0), (12, .int 0), (11, .int 0), (10, .int 0), (9, .int 12), (8, .int st), (7, .int (nI N)), (5, .long (dgst v st mk N)), (0, .ref sb), (1, .ref (q 0)), (2, .ref sm), (3, .int (nI t)), (4, .int y0)]) hx hb dL_law_126 hl (by decide) rfl (fun ls hl => ?_)
      refine law_legs hF ⟨by omega, by omega⟩ hC hX hinv hde (fun ls hl => ?_) (lv_sub hl [12, 13, 14, 15, 16, 11, 10, 9, 8, 7, 6, 5, 4, 3, 2, 1, 0] rfl)
      refine law_mid hF ⟨by omega, by omega⟩ hC hX hinv hde hS (fun H locs ls hC hX hS hl => ?_) hl
      refine law_mark hF ⟨by omega, by omega⟩ hC hX hinv hde hS hap1 hap2 hdis hZ0 (fun H locs ls hW hS hl => ?_) hl
      have hl : lv_has ls 27 [(0, .ref sb), (1, .ref (q 0)), (2, .ref sm), (3, .int (nI t))] := hl
      refine lv_iinc (v := (nI (t + 1))) (lv' := [(3, .int (nI (t + 1))), (0, .ref sb), (1, .ref (q 0)), (2, .ref sm)]) hx hb dL_law_1034 hl (k := 3) rfl (nI_1 _) (by decide) rfl (fun ls hl => ?_)
      refine lv_goto (tgt := 22) hx hb dL_law_1037 (by decide) ?_
      refine W.widen (k := 100 + 80 * (t + 1)) (n := 900 + 700 * (t + 1)) (by omega) (by omega) ?_
      exact ih1 (t + 1) () ls H locs (by omega) ⟨by omega, hW, hS, by exact lv_sub hl [1, 2, 3, 0] rfl⟩
    · have c50n : ¬ 3 ≤ k := fun h9 => c50 ((nI_leI (a := 3) (b := k) (by omega) (by omega)).mpr h9)
      refine lv_aload_n hx hb dL_law_53 rfl (lv_at hl 1 rfl) ?_
      refine lv_aload_n hx hb dL_law_54 rfl (lv_at hl 2 rfl) ?_
      refine lv_iload hx hb dL_law_55 (lv_at hl 4 rfl) ?_
      refine lv_iconst (v := 3) hx hb dL_law_57 (by decide) ?_
      refine lv_iload hx hb dL_law_58 (lv_at hl 5 rfl) ?_
      refine lv_imul hx hb dL_law_60 ?_
      refine lv_ishr hx hb dL_law_61 ?_
      refine lv_bipush (v := 29) hx hb dL_law_62 (by decide) ?_
      refine lv_iload hx hb dL_law_64 (lv_at hl 5 rfl) ?_
      refine lv_imul hx hb dL_law_66 ?_
      refine lv_iadd hx hb dL_law_67 ?_
      refine wSWi (mc := 3) (ms := 24) (As := [.ref (q 0), .ref sm, .int ((y0 >>> ((3 * (nI k)) &&& 31)) + (29 * (nI k)))]) (rest := []) hF (mL_act (D := D) (cyI := cyI) (cyZ := cyZ) (cyA := cyA) (q := q) (B := s.heap.size) (t1 := t1) (t2 := t2) hsT ((y0 >>> ((3 * (nI k)) &&& 31)) + (29 * (nI k)))) XA.wm (fun _ => LW.mv) ⟨hW, ST.kept hZ0 hS.2.1, TH.kept hTH hS.2.1, Nat.le_trans hB hS.1⟩ jyL_act kl_RL_79 ⟨rfl, rfl⟩ ⟨Nat.le_of_ble_eq_true rfl, Nat.le_of_ble_eq_true rfl⟩ rfl hl.1 rfl (Nat.le_of_ble_eq_true rfl) ⟨by show _ + 3 ≤ 600130; omega, by show _ + 24 ≤ 7301080; omega⟩ hS (fun _ _ h => h) (fun _ h => h) dL_law_68 (fun r9 u9 H locs hp9 hW hz hk hS => ?_)
      subst hp9
      refine lv_if_ne (tgt := 76) hx hb dL_law_71 (by decide) (fun c71 => ?_) (fun c71 => ?_)
      · refine lv_iinc (v := (nI (k + 1))) (lv' := [(5, .int (nI (k + 1))), (0, .ref sb), (1, .ref (q 0)), (2, .ref sm), (3, .int (nI t)), (4, .int y0)]) hx hb dL_law_76 hl (k := 5) rfl (nI_1 _) (by decide) rfl (fun ls hl => ?_)
        refine lv_goto (tgt := 47) hx hb dL_law_79 (by decide) ?_
        refine W.widen (k := 100 + 80 * t + 3 * (k + 1)) (n := 900 + 700 * t + 24 * (k + 1)) (by omega) (by omega) ?_
        exact ih2 (k + 1) () ls H locs (by omega) ⟨by omega, hW, hS, by exact lv_sub hl [1, 2, 3, 4, 5, 0] rfl⟩
      · exact absurd c71 (by decide)
end P39
