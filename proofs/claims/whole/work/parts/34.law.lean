/-! THE CLAIM OUT OF ONE WALK OF THE LAW'S BODY. Your part is whole_start (and what it stands on); all else here is the same for every law, but numbers. -/
def R_law : String := "MapSongsLaw"
def lw_P (b : Addr) (xs : List Int32) (args : Array Value) (s : State) : Prop := args = #[.ref b] ∧ s.IntsAt b xs ∧ xs.length ≤ 2048 ∧ (Jvm.Cond.and given_1 narrow_1).before args s = true
/-- what a walk over the start with the record d0 says of its end, said of the start itself -/
theorem lw_closed {s t : State} {o : Outcome} {d0 : Drawn} {L : List Loc} {k n : Nat} (hd0 : s.drawn.sameBut d0 lw_cs) (hv : ∃ v, o = .returned v) (hW : (s.setDrawn d0).WarmedH t.vm) (hs : (s.setDrawn d0).sameButNew ({ t with vm := s.vm } : State) L k n) : State.butDraws s t lw_cs (fun t1 => Framed s o t1 L k n) := by
  have h2 : t.drawn = d0 := congrArg State.drawn hs.1
  refine ⟨⟨hv, hW, State.sameButNew.setDrawn hs s.drawn⟩, ?_, by decide⟩
  rw [h2]
  exact hd0
def lw_Q (_ : Array Value) (s : State) (o : Outcome) (t : State) : Prop := o = .returned (some (.int 1)) ∧ State.butDraws s t lw_cs (fun t1 => Framed s o t1 [] 601024 7293034)
def lw_Z (below : List Frame) (a : Array Value) (s : State) : State → Prop := fun t => ∃ o, t.status = .running ∧ Ended t below o ∧ lw_Q a s o t
/-- the law's own end, with 1 on the stack, nothing written that was there before, its room as the claim has it; d0: the record of draws at this point (at the entry s.drawn: begin with 'refine W.base ?_' and 'have hd0 := Drawn.sameBut.refl s.drawn lw_cs') -/
theorem lw_ret {p : Program} {l : Launch} {e : Env} {s : State} {m : MethodId} {below : List Frame} {meth : Method} {c : Code} {b : Nat} {d0 : Drawn} (hd0 : s.drawn.sameBut d0 lw_cs) (hx : p.tables.exec = Jvm.exec) (hb : c.code = code) (hr : meth.sig.returnType = ret) (hlocks : meth.locks = false) {pc : Nat} {H : Heap} {ls : Array Slot} (hdg : decode code pc = .ok (.ireturn, 1)) : W p l e room_1 (s.setDrawn d0) m #[Value.ref b] below meth c H [] 601024 7293034 (lw_Z below #[Value.ref b] s) (F0 m pc ls [.int 1]) := by
  intro T hT X
  obtain ⟨fs, hret, hrun, hended, hW, hframe⟩ := X.leave (v := some (.int 1)) (hlocks := hlocks) (fun h => by rw [hr] at h; cases h)
  have hmeth' : T.vm.method? m = some meth := X.method'
  refine ⟨T.setFrames fs, ?_, .returned (some (.int 1)), hrun, hended, rfl, lw_closed hd0 ⟨_, rfl⟩ hW hframe⟩
  jvm_step X.here [X.here.top, hx, hb, hdg, hmeth', hr, ret, narrow_b1]
  (try refine ⟨rfl, ?_⟩); (try refine ⟨rfl, ?_⟩)
  first | (intro acts; rw [hret _ acts rfl rfl rfl]) | rw [hret _ _ rfl rfl rfl]
  exact Steps.refl _
/-- what holds at the law's entry: the machine, the code, the tables' words (any of lw_tbl by 'hts w (by decide +kernel)'), the script of L ints xs at the cell b, what the Statement gives of the start (any of its parts by flat_of_before) -/
def lw_At (p : Program) (s : State) (m : MethodId) (meth : Method) (c : Code) (b L : Nat) (xs : Nat → Int32) : Prop :=
  p.tables.exec = Jvm.exec ∧ c.code = code ∧ meth.sig.returnType = ret ∧ c.maxLocals = 9 ∧ s.vm.findClass R_law = some m.cls ∧ (∀ w ∈ lw_tbl, w.before #[Value.ref b] s = true) ∧ va_X b L xs s s.heap ∧ b < s.heap.size ∧ meth.locks = false ∧ (Jvm.Cond.and given_1 narrow_1).before #[Value.ref b] s = true

section P34
variable {p : Program} {l : Launch} {ev : Env} {s : State} {m : MethodId} {args : Array Value} {below : List Frame} {meth : Method} {c : Code} {cells slots : Nat} {Q : State → Prop}
variable {D : va_G} {cyI cyZ cyL : ClassId} {q q2 : Nat → Nat} {o t1 t2 t3 sb L jj : Nat} {xs : Nat → Int32} {N : Nat} {st th md : Int32} {v w w2 : Nat → Nat → Int32} {mk : Nat → Bool} {f : Nat → Int64} {H : Heap} {locs : List Loc} {ls : Array Slot}
/-- the rounds -/
theorem law_loop {below : List Frame} (hF : CallFix p m c cL_law 9 s #[Value.ref sb] wA RL) (hfx : FX l s q q2 o t1 t2 t3 sb L xs) (hr : meth.sig.returnType = ret) (hlocks : meth.locks = false) (hI : RI D cyI cyZ cyL q q2 o N st v mk w th md w2 f s H) (hS : va_S (A9 s) s.heap H locs) (hl : lv_has ls 9 (LC sb q q2 o 0)) :
    W p l ev room_1 s m #[Value.ref sb] below meth c H locs (40 + 20 * 0) (600 + 150 * 0) (lw_Z below #[Value.ref sb] s) (F0 m 23 ls []) := by
  obtain ⟨hx, hb, hml, hown, hts⟩ := id hF
  obtain ⟨hXs, hbl, hL⟩ := id hfx.2.2.1
  refine lpC (σ := Nat) (τ := Nat × Int32 × (Nat → Nat → Int32) × (Nat → Bool) × (Nat → Nat → Int32) × Int32 × Int32 × (Nat → Nat → Int32) × (Nat → Int64))
    (fun jj y ls H locs => 4 * jj ≤ L ∧ RI D cyI cyZ cyL q q2 o y.1 y.2.1 y.2.2.1 y.2.2.2.1 y.2.2.2.2.1 y.2.2.2.2.2.1 y.2.2.2.2.2.2.1 y.2.2.2.2.2.2.2.1 y.2.2.2.2.2.2.2.2 s H ∧ va_S (A9 s) s.heap H locs ∧ lv_has ls 9 (LC sb q q2 o jj)) (fun jj _ => 600 - jj) (fun jj => 40 + 20 * jj) (fun jj => 600 + 150 * jj)
    (fun jj y ls H locs hI9 ih => ?_) 0 (N, st, v, mk, w, th, md, w2, f) ⟨by omega, hI, hS, hl⟩
  obtain ⟨N, st, v, mk, w, th, md, w2, f⟩ := y
  obtain ⟨hjL, hI, hS, hl⟩ := hI9
  refine lv_iload hx hb dL_law_23 (lv_at hl 4 rfl) ?_
  refine lv_aload_n hx hb dL_law_25 rfl (lv_at hl 0 rfl) ?_
  refine va_slen hx hb hXs hbl (Nat.not_le.mpr hbl) hS dL_law_26 ?_
  refine lv_iconst (v := 4) hx hb dL_law_27 (by decide) ?_
  refine lv_isub hx hb dL_law_28 ?_
  refine lv_icmp_gt (tgt := 1672) hx hb dL_law_29 (by decide) (fun c29 => ?_) (fun c29 => ?_)
  · refine lv_iconst (v := 1) hx hb dL_law_1672 (by decide) ?_
    refine va_forget hS.2.2 ?_
    refine W.widen (k := 601024) (n := 7293034) (by omega) (by omega) ?_
    exact lw_ret (d0 := s.drawn) (Drawn.sameBut.refl s.drawn lw_cs) hx hb hr hlocks dL_law_1673
  · have hj := lenC hL hjL c29
    refine r_all hF hfx ⟨by omega, by omega⟩ hj hI hS hl ?_
    intro N st v mk w th md w2 f H locs ls hI hS hl
    refine lv_iinc (v := (nI (4 * (jj + 1)))) (lv' := [(4, .int (nI (4 * (jj + 1)))), (0, .ref sb), (1, .ref (q 0)), (2, .ref (q2 0)), (3, .ref o)]) hx hb dL_law_1666 hl (k := 4) rfl (nIadd (4 * jj) 4) (by decide) rfl (fun ls hl => ?_)
    refine lv_goto (tgt := 23) hx hb dL_law_1669 (by decide) ?_
    refine W.widen (k := 40 + 20 * (jj + 1)) (n := 600 + 150 * (jj + 1)) (by omega) (by omega) ?_
    exact ih (jj + 1) (N, st, v, mk, w, th, md, w2, f) ls H locs (by omega) ⟨by omega, hI, hS, lv_sub hl [1, 2, 3, 4, 0] rfl⟩
end P34
