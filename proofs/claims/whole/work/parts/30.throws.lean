/-! THROWS: what a throw needs of the state, the start of a method that throws, calls of such ones -/
abbrev exNs : List String := ["java/lang/RuntimeException", "java/lang/Exception"]
/-- a picture that the machine's own changes leave, the Strings' entries among them -/
def Wm (X : State → Heap → Prop) : Prop := ∀ (u U : State) (H : Heap), (U.vm = u.vm ∨ u.WarmedH U.vm) → X u H → X U H
theorem Mv.wm {X : State → Heap → Prop} (h : Mv X) : Wm X := fun u U H a hX => h u U H (a.elim (fun e => by rw [e]; exact Vm.Alike.refl _) (fun e => e.alike)) hX
theorem Wm.and {X Y : State → Heap → Prop} (h1 : Wm X) (h2 : Wm Y) : Wm (fun U H => X U H ∧ Y U H) := fun u U H a h => ⟨h1 u U H a h.1, h2 u U H a h.2⟩
theorem wmBlind {X : State → Heap → Prop} {av : List Value} (h : Wm X) : FrameBlind (va_Pc av (fun U => X U U.heap)) := by
  intro a U g mk q
  exact ⟨q.1, h U (U.calling g mk a) U.heap (Or.inl rfl) q.2⟩
theorem wmPre {X : State → Heap → Prop} {s U : State} {H : Heap} {av : List Value} (h : Wm X) (hX : X s H) (hU : U.heap = H) (hW : s.WarmedH U.vm) : va_Pc av (fun U => X U U.heap) av.toArray U := by
  refine ⟨rfl, ?_⟩
  show X U U.heap
  rw [hU]
  exact h s U H (Or.inr hW) hX
/-- the words of a throw that are no good ones -/
def exW : List Cond := [.castable "java/lang/IllegalArgumentException" "java/lang/IllegalArgumentException", .castable "java/lang/IllegalStateException" "java/lang/IllegalStateException", .castable "java/lang/IndexOutOfBoundsException" "java/lang/IndexOutOfBoundsException",
  .declares (Bundle.initS "java/lang/RuntimeException"), .declares (Bundle.initS "java/lang/Exception"), .declares (Bundle.initS Bundle.tN)]
/-- the texts -/
def exT : Nat → String
  | 213 => "there is no such leg" | 57 => "a landmark is 0 to 9" | 208 => "a turn is -3 to 3" | 48 => "a length is 1 to 9" | 64 => "a way has at most 16 legs"
  | 70 => "there is no leg" | 84 => "a word is 0 to 9" | 86 => "a step is 1 to 4" | 142 => "the verse is not ambiguous" | _ => "to mend to are 1 to 1000000 ways"
def exI : List Nat := [213, 57, 208, 48, 64, 70, 84, 86, 142, 148]
/-- what a throw needs: the two statics, the words, the texts -/
def TH (A : Nat → Prop) (U : State) (H : Heap) : Prop :=
  (vx_Zq Bundle.tN "UNASSIGNED_STACK" Bundle.steD A U H ∧ vx_Zq Bundle.tN "SUPPRESSED_SENTINEL" Bundle.listD A U H) ∧ (∀ w ∈ exW, w.before #[] U = true) ∧ ∀ k ∈ exI, ∃ a, vk_R RX0 k (exT k) a U
theorem TH.wm {A : Nat → Prop} : Wm (TH A) := by
  intro u U H h hX
  obtain ⟨⟨h1, h2⟩, h3, h4⟩ := hX
  have hA : u.vm.Alike U.vm := h.elim (fun e => by rw [e]; exact Vm.Alike.refl _) (fun e => e.alike)
  refine ⟨⟨h1.moved hA, h2.moved hA⟩, fun w hw => ?_, fun k hk => ?_⟩
  · have h9 := h3 w hw
    have hW9 : ∀ x : Cond, x.onTables = true → x.before #[] (u.setVm U.vm) = true → x.before #[] U = true := fun x hx hb => va_tabs hx (rfl : (u.setVm U.vm).vm = U.vm) hb
    simp only [exW, List.mem_cons, List.not_mem_nil, or_false] at hw
    rcases hw with e | e | e | e | e | e <;> subst e
    · exact hW9 _ rfl (by rw [Cond.castable_setVm hA]; exact h9)
    · exact hW9 _ rfl (by rw [Cond.castable_setVm hA]; exact h9)
    · exact hW9 _ rfl (by rw [Cond.castable_setVm hA]; exact h9)
    · exact hW9 _ rfl (by rw [Cond.declares_setVm hA]; exact h9)
    · exact hW9 _ rfl (by rw [Cond.declares_setVm hA]; exact h9)
    · exact hW9 _ rfl (by rw [Cond.declares_setVm hA]; exact h9)
  · obtain ⟨a, ha⟩ := h4 k hk
    exact ⟨a, h.elim (fun e => vk_R.same e ha) (fun e => vk_R.warm e ha)⟩
theorem TH.kept {A : Nat → Prop} {U : State} {H H1 : Heap} (h : TH A U H) (hq : ∀ a : Nat, a < H.size → ¬ A a → H1[a]? = H[a]?) : TH A U H1 := ⟨⟨h.1.1.kept hq, h.1.2.kept hq⟩, h.2⟩
theorem TH.narrow {A B : Nat → Prop} {U : State} {H : Heap} (h : TH A U H) (hAB : ∀ q, B q → A q) : TH B U H := ⟨⟨h.1.1.narrow hAB, h.1.2.narrow hAB⟩, h.2⟩
theorem exG0 : ∀ w ∈ (vx_atS RX0 50 "java/lang/IllegalArgumentException" exNs).filter goodWord, w ∈ lw_tbl := by decide +kernel
theorem exG1 : ∀ w ∈ (vx_atS RX0 66 "java/lang/IllegalStateException" exNs).filter goodWord, w ∈ lw_tbl := by decide +kernel
theorem exG2 : ∀ w ∈ (vx_atS RX0 212 "java/lang/IndexOutOfBoundsException" exNs).filter goodWord, w ∈ lw_tbl := by decide +kernel
theorem exB0 : ∀ w ∈ (vx_atS RX0 50 "java/lang/IllegalArgumentException" exNs).filter (fun w => !goodWord w), w ∈ exW := by decide +kernel
theorem exB1 : ∀ w ∈ (vx_atS RX0 66 "java/lang/IllegalStateException" exNs).filter (fun w => !goodWord w), w ∈ exW := by decide +kernel
theorem exB2 : ∀ w ∈ (vx_atS RX0 212 "java/lang/IndexOutOfBoundsException" exNs).filter (fun w => !goodWord w), w ∈ exW := by decide +kernel
theorem exO0 : ∀ w ∈ Cond.classLink RX0 46 "java/lang/IllegalArgumentException" :: Cond.initialized "java/lang/IllegalArgumentException" :: vx_atS RX0 50 "java/lang/IllegalArgumentException" exNs, vx_ot w = true := by decide +kernel
theorem exO1 : ∀ w ∈ Cond.classLink RX0 62 "java/lang/IllegalStateException" :: Cond.initialized "java/lang/IllegalStateException" :: vx_atS RX0 66 "java/lang/IllegalStateException" exNs, vx_ot w = true := by decide +kernel
theorem exO2 : ∀ w ∈ Cond.classLink RX0 210 "java/lang/IndexOutOfBoundsException" :: Cond.initialized "java/lang/IndexOutOfBoundsException" :: vx_atS RX0 212 "java/lang/IndexOutOfBoundsException" exNs, vx_ot w = true := by decide +kernel
theorem exHat {args : Array Value} {s : State} {L : List Cond} (hts : ∀ w ∈ wA, w.before args s = true) (hg : ∀ w ∈ L.filter goodWord, w ∈ lw_tbl) (hb : ∀ w ∈ L.filter (fun w => !goodWord w), w ∈ exW) (hw : ∀ w ∈ exW, w.before #[] s = true) : ∀ w ∈ L, w.before args s = true :=
  vx_hat (fun w h => hts w (List.mem_filter.mpr ⟨hg w h, (List.mem_filter.mp h).2⟩)) hb (fun w h => by
    have h9 := hw w h
    simp only [exW, List.mem_cons, List.not_mem_nil, or_false] at h
    rcases h with e | e | e | e | e | e <;> subst e <;> exact va_tabs rfl rfl h9)
/-- what a method that always throws owes: E, and the picture X1 behind; nothing old is written -/
abbrev XQ : Array Value → State → Outcome → State → Prop := fun a => va_Qv (fun _ : Unit => False) (fun _ _ => True) (fun _ => False) a
abbrev XC (E : String) (X1 : State → Heap → Prop) : String → State → State → Prop := vx_X (fun _ : Unit => True) (fun E9 _ t => E9 = E ∧ X1 t t.heap) (fun _ => False)
abbrev XM (l : Launch) (y : MethodName) (cc : ByteArray) (n : Nat) (r : Option FieldType) (rm : Room) (av : List Value) (X : State → Heap → Prop) (E : String) (X1 : State → Heap → Prop) : Prop :=
  vx_Met l y (wm y cc n r) rm (va_Pc av (fun U => X U U.heap)) XQ (XC E X1) 1 6 (fun _ => False)
theorem mtx {l : Launch} {y : MethodName} {cc : ByteArray} {maxL : Nat} {ret : Option FieldType} {rm : Room} {av : List Value} {X : State → Heap → Prop} {E : String} {X1 : State → Heap → Prop}
    (hy : plainName y.cls = true) (hsz : (lg_sl av).length ≤ maxL)
    (body : ∀ (p : Program) (e : Env) (s : State) (m : MethodId) (below : List Frame) (meth : Method) (c : Code) (ls : Array Slot), CallFix p m c cc maxL s av.toArray wA y.cls → meth.locks = false → (∀ x ∈ c.exceptionTable.toList, False) → X s s.heap → lv_has ls maxL (lv_args 0 av) →
      W p l e rm s m av.toArray below meth c s.heap [] 0 0 (vx_MQ below XQ (XC E X1) av.toArray s 1 6 (fun _ => False)) (F0 m 0 ls [])) : XM l y cc maxL ret rm av X E X1 := by
  refine vx_ofW (cc := cc) (maxL := maxL) (ret := ret) hy rfl ?_
  intro p e s m args below meth c s₁ B hml ht hv
  obtain ⟨rfl, hp⟩ := hv
  have hts := atoms_spec (ws := wm y cc maxL ret) B.pre
  have hl := lv_entry av hsz
  rw [lg_entry_eq]
  exact body p e s m below meth c _ ⟨B.exec, B.bytes, hml, findClass_of_methodNamed B.named, fun w h => hts w (List.mem_cons_of_mem _ h)⟩ B.notSynchronized ht hp hl
section THR
variable {p : Program} {l : Launch} {e : Env} {R : Room} {s : State} {m : MethodId} {args : Array Value} {below : List Frame} {meth : Method} {c : Code} {H : Heap} {locs : List Loc} {cells slots : Nat} {Q : State → Prop}
variable {cc : ByteArray} {nL pc idx k maxL : Nat} {ls : Array Slot} {own C E : String} {y : MethodName} {bytes : ByteArray} {ret : Option FieldType} {rm : Room} {b : Addr} {As rest st0 : List Value} {X X1 : State → Heap → Prop} {A0 : Nat → Prop} {H0 : Heap} {av : List Value}
abbrev KX (p : Program) (l : Launch) (e : Env) (R : Room) (s : State) (m : MethodId) (args : Array Value) (below : List Frame) (meth : Method) (c : Code) (H : Heap) (cells slots : Nat) (Q : State → Prop) (pc : Nat) (ls : Array Slot) (rest : List Value) (A0 : Nat → Prop) (H0 : Heap) (E : String) (X1 : State → Heap → Prop) : Prop :=
  ∀ (ce : Cell) (q9 : Addr) (H1 : Heap) (locs1 : List Loc), X1 s H1 → H.size ≤ H1.size → (∀ q : Nat, q < H.size → H1[q]? = H[q]?) → va_S A0 H0 H1 locs1 → H1[q9]? = some ce → ce.vm = .none → s.vm.findClass E = some ce.cls → vx_W p l e R s m args below meth c H1 locs1 (cells + 1) (slots + 6) Q (F0 m pc ls rest) q9
theorem xV (hF : CallFix p m c cc nL s args wA own) (hM : XM l y bytes maxL ret rm (.ref b :: As) X E X1) (hmv : Wm X) (hmv1 : Mv X1) (hX : X s H) (hrc : Rc C b s H) (hi : IM C y bytes maxL ret k) (hlk : Cond.methodLink own idx y ∈ wA)
    (h0 : rm.cells = 1 ∧ rm.slots = 6) (hR : rm.frames + 1 ≤ R.frames ∧ 8 + (maxL + 11) + rm.locals ≤ R.locals) (hk : As.length = k) (hsz : ls.size = nL) (hst : st0 = As.reverse ++ .ref b :: rest) (hW : (rest.map fun v => v.category).sum ≤ 8) (hcs : cells + 1 ≤ R.cells ∧ slots + 6 ≤ R.slots) (hS : va_S A0 H0 H locs) (hdg : decode cc pc = .ok (.invokevirtual idx, 3))
    (kx : KX p l e R s m args below meth c H cells slots Q pc ls rest A0 H0 E X1) : W p l e R s m args below meth c H locs cells slots Q (F0 m pc ls st0) :=
  vx_callv (vx_runV hF hM (cwV k hF.2.2.2.2 (gV hlk hi.1) rfl h0.1 h0.2 hi.2 hR) ⟨wmBlind hmv, hrc, fun U hU hW => wmPre hmv hX hU hW⟩ rfl hk hsz hst (lv_room hW) hdg hcs) hS (fun _ _ h => h.elim) (fun _ h => h.elim) (fun _ _ h => h.elim)
    (fun E9 ce q9 _ t H1 locs1 ht hvm _ hB hz hk1 hS1 hce hcv hcl => by
      obtain ⟨rfl, hB⟩ := hB
      subst ht
      exact kx ce q9 t.heap locs1 (hmv1 t s t.heap hvm.symm hB) hz (fun q hq => hk1 q hq (fun h => h)) hS1 hce hcv hcl)
    (fun _ _ _ _ _ _ h => h.elim)
theorem xS (hF : CallFix p m c cc nL s args wA own) (hM : XM l y bytes maxL ret rm As X E X1) (hmv : Wm X) (hmv1 : Mv X1) (hX : X s H) (hi : SM y bytes maxL ret k) (hlk : Cond.methodLink own idx y ∈ wA)
    (h0 : rm.cells = 1 ∧ rm.slots = 6) (hR : rm.frames + 1 ≤ R.frames ∧ 8 + (maxL + 11) + rm.locals ≤ R.locals) (hk : As.length = k) (hsz : ls.size = nL) (hst : st0 = As.reverse ++ rest) (hW : (rest.map fun v => v.category).sum ≤ 8) (hcs : cells + 1 ≤ R.cells ∧ slots + 6 ≤ R.slots) (hS : va_S A0 H0 H locs) (hdg : decode cc pc = .ok (.invokestatic idx, 3))
    (kx : KX p l e R s m args below meth c H cells slots Q pc ls rest A0 H0 E X1) : W p l e R s m args below meth c H locs cells slots Q (F0 m pc ls st0) :=
  vx_callv (vx_runS hF hM (va_cwS k hF.2.2.2.2 (gS hlk hi.1) rfl h0.1 h0.2 hi.2 hR) ⟨wmBlind hmv, fun U hU hW => wmPre hmv hX hU hW⟩ rfl hk hsz hst (lv_room hW) hdg hcs) hS (fun _ _ h => h.elim) (fun _ h => h.elim) (fun _ _ h => h.elim)
    (fun E9 ce q9 _ t H1 locs1 ht hvm _ hB hz hk1 hS1 hce hcv hcl => by
      obtain ⟨rfl, hB⟩ := hB
      subst ht
      exact kx ce q9 t.heap locs1 (hmv1 t s t.heap hvm.symm hB) hz (fun q hq => hk1 q hq (fun h => h)) hS1 hce hcv hcl)
    (fun _ _ _ _ _ _ h => h.elim)
/-- it goes on to the caller -/
theorem xOut (ht : ∀ x ∈ c.exceptionTable.toList, False) (hlocks : meth.locks = false) (hmv1 : Mv X1) (hf : cells ≤ 0 ∧ slots ≤ 0) : KX p l e R s m args below meth c H cells slots (vx_MQ below XQ (XC E X1) args s 1 6 (fun _ => False)) pc ls rest (fun _ => False) s.heap E X1 := by
  intro ce q9 H1 locs1 hX hz hk hS hce hcv hcl
  exact vx_out (fun x hx => (ht x hx).elim) hlocks hce hcv hcl (fun t ht9 hA => ⟨(), trivial, ⟨rfl, by rw [ht9]; exact hmv1 s t H1 hA hX⟩, hS.F ht9⟩) hS.2.2 (by omega) (by omega)
/-- a throw of its own -/
theorem xThrow (hF : CallFix p m c cc nL s args wA RX0) (hl : l.stackTraces = false) (hTH : TH (fun _ => False) s s.heap) (ht : ∀ x ∈ c.exceptionTable.toList, False) (hlocks : meth.locks = false) (hmv1 : Mv X1) (hX : X1 s H) (hX1 : ∀ H1 : Heap, H.size ≤ H1.size → (∀ q : Nat, q < H.size → H1[q]? = H[q]?) → X1 s H1) (hS : va_S (fun _ => False) s.heap H locs) (hsz : ls.size = nL)
    {ik is ic : Nat} (hcls : Bundle.fit E = true) (hk : Cond.classLink RX0 ik E ∈ wA) (hini : Cond.initialized E ∈ wA) (hg : ∀ w ∈ (vx_atS RX0 ic E exNs).filter goodWord, w ∈ lw_tbl) (hb9 : ∀ w ∈ (vx_atS RX0 ic E exNs).filter (fun w => !goodWord w), w ∈ exW)
    (ho : ∀ w ∈ Cond.classLink RX0 ik E :: Cond.initialized E :: vx_atS RX0 ic E exNs, vx_ot w = true) (his : is ∈ exI)
    (d0 : decode cc pc = .ok (.new ik, 3)) (d3 : decode cc (pc + 3) = .ok (.dup, 1)) (d4 : decode cc (pc + 4) = .ok (.ldc is, 2)) (d6 : decode cc (pc + 6) = .ok (.invokespecial ic, 3)) (d9 : decode cc (pc + 9) = .ok (.athrow, 1))
    (hR : 5 < R.frames ∧ (rest.map fun v => v.category).sum + 82 ≤ R.locals ∧ cells + 1 ≤ R.cells ∧ slots + 6 ≤ R.slots) (hf : cells ≤ 0 ∧ slots ≤ 0) :
    W p l e R s m args below meth c H locs cells slots (vx_MQ below XQ (XC E X1) args s 1 6 (fun _ => False)) (F0 m pc ls rest) := by
  obtain ⟨hx, hb, hml, hown, hts⟩ := hF
  obtain ⟨sa, hstr⟩ := hTH.2.2 is his
  exact vx_throwS hx hb hl hown hcls (by decide +kernel) (hts _ hk) (hts _ hini) hstr (exHat hts hg hb9 hTH.2.1) ho hTH.1.1 hTH.1.2 hS (hsz.trans hml.symm) d0 d3 d4 d6 d9 (fun x h9 => (ht x h9).elim) hR.1 hR.2.1 hR.2.2.1 hR.2.2.2 hlocks
    (fun t hA hz hk1 => ⟨(), trivial, ⟨rfl, hmv1 s t t.heap hA (hX1 t.heap hz hk1)⟩, ⟨Nat.le_trans hS.1 hz, fun q h1 h2 => by rw [hk1 q (Nat.lt_of_lt_of_le h1 hS.1)]; exact hS.2.1 q h1 h2⟩⟩) hS.2.2 (by omega) (by omega)
end THR

section P30
variable {l : Launch} {D : va_G} {cyI cyZ : ClassId} {q : Nat → Nat} {N K : Nat} {n st th md : Int32} {v w : Nat → Nat → Int32} {mk : Nat → Bool}
set_option maxHeartbeats 4000000 in
set_option maxRecDepth 100000 in
theorem tX0_checkTurn (hsT : l.stackTraces = false) (a : Int32) (hb9 : a < -3 ∨ 3 < a) : XM l yX0_checkTurn cX0_checkTurn 1 none ({ frames := 6, cells := 1, slots := 6, locals := 82 } : Room) [.int a] (TH (fun _ => False)) "java/lang/IllegalArgumentException" (fun _ _ => True) := by
  refine mtx (by decide) (Nat.le_of_ble_eq_true rfl) ?_
  intro p ev s m below meth c ls hF hlocks ht hX hl
  have hF : CallFix p m c cX0_checkTurn 1 s _ wA RX0 := hF
  obtain ⟨hx, hb, hml, hown, hts⟩ := id hF
  have hTH : TH (fun _ => False) s s.heap := hX
  have hl : lv_has ls 1 [(0, .int a)] := hl
  have hS : va_S (fun _ => False) s.heap s.heap [] := va_S.rf
  refine lv_iload_n hx hb dX0_checkTurn_0 rfl (lv_at hl 0 rfl) ?_
  refine lv_bipush (v := (-3)) hx hb dX0_checkTurn_1 (by decide) ?_
  refine lv_icmp_lt (tgt := 11) hx hb dX0_checkTurn_3 (by decide) (fun c3 => ?_) (fun c3 => ?_)
  · exact xThrow hF hsT hTH ht hlocks Mv.const trivial (fun _ _ _ => trivial) hS hl.1 (ik := 46) (is := 208) (ic := 50) (by decide +kernel) kc_RX0_46 kn_IllegalArgumentException exG0 exB0 exO0 (by decide) dX0_checkTurn_11 dX0_checkTurn_14 dX0_checkTurn_15 dX0_checkTurn_17 dX0_checkTurn_20 ⟨Nat.le_of_ble_eq_true rfl, Nat.le_of_ble_eq_true rfl, Nat.le_of_ble_eq_true rfl, Nat.le_of_ble_eq_true rfl⟩ ⟨Nat.le_refl _, Nat.le_refl _⟩
  · refine lv_iload_n hx hb dX0_checkTurn_6 rfl (lv_at hl 0 rfl) ?_
    refine lv_iconst (v := 3) hx hb dX0_checkTurn_7 (by decide) ?_
    refine lv_icmp_le (tgt := 21) hx hb dX0_checkTurn_8 (by decide) (fun c8 => ?_) (fun c8 => ?_)
    · exact (hb9.elim (fun h => absurd h c3) (fun h => absurd c8 (Int32.not_le.mpr h)))
    · exact xThrow hF hsT hTH ht hlocks Mv.const trivial (fun _ _ _ => trivial) hS hl.1 (ik := 46) (is := 208) (ic := 50) (by decide +kernel) kc_RX0_46 kn_IllegalArgumentException exG0 exB0 exO0 (by decide) dX0_checkTurn_11 dX0_checkTurn_14 dX0_checkTurn_15 dX0_checkTurn_17 dX0_checkTurn_20 ⟨Nat.le_of_ble_eq_true rfl, Nat.le_of_ble_eq_true rfl, Nat.le_of_ble_eq_true rfl, Nat.le_of_ble_eq_true rfl⟩ ⟨Nat.le_refl _, Nat.le_refl _⟩
set_option maxHeartbeats 4000000 in
set_option maxRecDepth 100000 in
theorem tX0_checkLandmark (hsT : l.stackTraces = false) (a : Int32) (hb9 : in10 a = false) : XM l yX0_checkLandmark cX0_checkLandmark 1 none ({ frames := 6, cells := 1, slots := 6, locals := 82 } : Room) [.int a] (TH (fun _ => False)) "java/lang/IndexOutOfBoundsException" (fun _ _ => True) := by
  refine mtx (by decide) (Nat.le_of_ble_eq_true rfl) ?_
  intro p ev s m below meth c ls hF hlocks ht hX hl
  have hF : CallFix p m c cX0_checkLandmark 1 s _ wA RX0 := hF
  obtain ⟨hx, hb, hml, hown, hts⟩ := id hF
  have hTH : TH (fun _ => False) s s.heap := hX
  have hl : lv_has ls 1 [(0, .int a)] := hl
  have hS : va_S (fun _ => False) s.heap s.heap [] := va_S.rf
  refine lv_iload_n hx hb dX0_checkLandmark_0 rfl (lv_at hl 0 rfl) ?_
  refine cSi (As := [.int a]) (rest := []) hF (mX0_isLandmark a) Mv.const trivial jyX0_isLandmark kl_RX0_53 ⟨rfl, rfl⟩ ⟨Nat.le_of_ble_eq_true rfl, Nat.le_of_ble_eq_true rfl⟩ rfl hl.1 rfl (Nat.le_of_ble_eq_true rfl) ⟨Nat.zero_le _, Nat.zero_le _⟩ dX0_checkLandmark_1 (fun r hr9 => ?_)
  subst hr9
  refine lv_if_ne (tgt := 17) hx hb dX0_checkLandmark_4 (by decide) (fun c4 => ?_) (fun c4 => ?_)
  · have c4b := b2i_t c4
    exact absurd hb9 (by rw [c4b]; decide)
  · have c4b := b2i_f c4
    exact xThrow hF hsT hTH ht hlocks Mv.const trivial (fun _ _ _ => trivial) hS hl.1 (ik := 210) (is := 57) (ic := 212) (by decide +kernel) kc_RX0_210 kn_IndexOutOfBoundsException exG2 exB2 exO2 (by decide) dX0_checkLandmark_7 dX0_checkLandmark_10 dX0_checkLandmark_11 dX0_checkLandmark_13 dX0_checkLandmark_16 ⟨Nat.le_of_ble_eq_true rfl, Nat.le_of_ble_eq_true rfl, Nat.le_of_ble_eq_true rfl, Nat.le_of_ble_eq_true rfl⟩ ⟨Nat.le_refl _, Nat.le_refl _⟩
set_option maxHeartbeats 4000000 in
set_option maxRecDepth 100000 in
theorem tX0_checkWord (hsT : l.stackTraces = false) (a : Int32) (hb9 : in10 a = false) : XM l yX0_checkWord cX0_checkWord 1 none ({ frames := 6, cells := 1, slots := 6, locals := 82 } : Room) [.int a] (TH (fun _ => False)) "java/lang/IndexOutOfBoundsException" (fun _ _ => True) := by
  refine mtx (by decide) (Nat.le_of_ble_eq_true rfl) ?_
  intro p ev s m below meth c ls hF hlocks ht hX hl
  have hF : CallFix p m c cX0_checkWord 1 s _ wA RX0 := hF
  obtain ⟨hx, hb, hml, hown, hts⟩ := id hF
  have hTH : TH (fun _ => False) s s.heap := hX
  have hl : lv_has ls 1 [(0, .int a)] := hl
  have hS : va_S (fun _ => False) s.heap s.heap [] := va_S.rf
  refine lv_iload_n hx hb dX0_checkWord_0 rfl (lv_at hl 0 rfl) ?_
  refine cSi (As := [.int a]) (rest := []) hF (mX0_isWord a) Mv.const trivial jyX0_isWord kl_RX0_81 ⟨rfl, rfl⟩ ⟨Nat.le_of_ble_eq_true rfl, Nat.le_of_ble_eq_true rfl⟩ rfl hl.1 rfl (Nat.le_of_ble_eq_true rfl) ⟨Nat.zero_le _, Nat.zero_le _⟩ dX0_checkWord_1 (fun r hr9 => ?_)
  subst hr9
  refine lv_if_ne (tgt := 17) hx hb dX0_checkWord_4 (by decide) (fun c4 => ?_) (fun c4 => ?_)
  · have c4b := b2i_t c4
    exact absurd hb9 (by rw [c4b]; decide)
  · have c4b := b2i_f c4
    exact xThrow hF hsT hTH ht hlocks Mv.const trivial (fun _ _ _ => trivial) hS hl.1 (ik := 210) (is := 84) (ic := 212) (by decide +kernel) kc_RX0_210 kn_IndexOutOfBoundsException exG2 exB2 exO2 (by decide) dX0_checkWord_7 dX0_checkWord_10 dX0_checkWord_11 dX0_checkWord_13 dX0_checkWord_16 ⟨Nat.le_of_ble_eq_true rfl, Nat.le_of_ble_eq_true rfl, Nat.le_of_ble_eq_true rfl, Nat.le_of_ble_eq_true rfl⟩ ⟨Nat.le_refl _, Nat.le_refl _⟩
set_option maxHeartbeats 4000000 in
set_option maxRecDepth 100000 in
theorem tX0_checkLeg (hsT : l.stackTraces = false) (a : Int32) (hb9 : a < 0 ∨ nI N ≤ a) : XM l yX0_checkLeg cX0_checkLeg 2 none ({ frames := 6, cells := 1, slots := 6, locals := 82 } : Room) [.ref (q 0), .int a] (fun U H => C0 D cyI cyZ q (nI N) st v mk w U H ∧ TH (fun _ => False) U H) "java/lang/IndexOutOfBoundsException" (fun _ _ => True) := by
  refine mtx (by decide) (Nat.le_of_ble_eq_true rfl) ?_
  intro p ev s m below meth c ls hF hlocks ht hX hl
  have hF : CallFix p m c cX0_checkLeg 2 s _ wA RX0 := hF
  obtain ⟨hx, hb, hml, hown, hts⟩ := id hF
  have hTH : TH (fun _ => False) s s.heap := hX.2
  have hX : C0 D cyI cyZ q (nI N) st v mk w s s.heap := hX.1
  have hl : lv_has ls 2 [(0, .ref (q 0)), (1, .int a)] := hl
  have hS : va_S (fun _ => False) s.heap s.heap [] := va_S.rf
  refine lv_iload_n hx hb dX0_checkLeg_0 rfl (lv_at hl 1 rfl) ?_
  refine lv_if_lt (tgt := 12) hx hb dX0_checkLeg_1 (by decide) (fun c1 => ?_) (fun c1 => ?_)
  · exact xThrow hF hsT hTH ht hlocks Mv.const trivial (fun _ _ _ => trivial) hS hl.1 (ik := 210) (is := 213) (ic := 212) (by decide +kernel) kc_RX0_210 kn_IndexOutOfBoundsException exG2 exB2 exO2 (by decide) dX0_checkLeg_12 dX0_checkLeg_15 dX0_checkLeg_16 dX0_checkLeg_18 dX0_checkLeg_21 ⟨Nat.le_of_ble_eq_true rfl, Nat.le_of_ble_eq_true rfl, Nat.le_of_ble_eq_true rfl, Nat.le_of_ble_eq_true rfl⟩ ⟨Nat.le_refl _, Nat.le_refl _⟩
  · refine lv_iload_n hx hb dX0_checkLeg_4 rfl (lv_at hl 1 rfl) ?_
    refine lv_aload_n hx hb dX0_checkLeg_5 rfl (lv_at hl 0 rfl) ?_
    refine C0.get hF hX 5 (by decide) rfl rfl kf_RX0_59 dX0_checkLeg_6 ?_
    refine lv_icmp_lt (tgt := 22) hx hb dX0_checkLeg_9 (by decide) (fun c9 => ?_) (fun c9 => ?_)
    · exact (hb9.elim (fun h => absurd h c1) (fun h => absurd c9 (Int32.not_lt.mpr h)))
    · exact xThrow hF hsT hTH ht hlocks Mv.const trivial (fun _ _ _ => trivial) hS hl.1 (ik := 210) (is := 213) (ic := 212) (by decide +kernel) kc_RX0_210 kn_IndexOutOfBoundsException exG2 exB2 exO2 (by decide) dX0_checkLeg_12 dX0_checkLeg_15 dX0_checkLeg_16 dX0_checkLeg_18 dX0_checkLeg_21 ⟨Nat.le_of_ble_eq_true rfl, Nat.le_of_ble_eq_true rfl, Nat.le_of_ble_eq_true rfl, Nat.le_of_ble_eq_true rfl⟩ ⟨Nat.le_refl _, Nat.le_refl _⟩
set_option maxHeartbeats 4000000 in
set_option maxRecDepth 100000 in
theorem tX0_addLeg1 (hsT : l.stackTraces = false) (a : Int32) (hb9 : a < -3 ∨ 3 < a) (ln b : Int32) : XM l yX0_addLeg cX0_addLeg 5 (some .int) ({ frames := 7, cells := 1, slots := 6, locals := 102 } : Room) [.ref (q 0), .int a, .int ln, .int b] (fun U H => C0 D cyI cyZ q (nI N) st v mk w U H ∧ TH (fun _ => False) U H) "java/lang/IllegalArgumentException" (fun _ _ => True) := by
  refine mtx (by decide) (Nat.le_of_ble_eq_true rfl) ?_
  intro p ev s m below meth c ls hF hlocks ht hX hl
  have hF : CallFix p m c cX0_addLeg 5 s _ wA RX0 := hF
  obtain ⟨hx, hb, hml, hown, hts⟩ := id hF
  have hTH : TH (fun _ => False) s s.heap := hX.2
  have hX : C0 D cyI cyZ q (nI N) st v mk w s s.heap := hX.1
  have hl : lv_has ls 5 [(0, .ref (q 0)), (1, .int a), (2, .int ln), (3, .int b)] := hl
  have hS : va_S (fun _ => False) s.heap s.heap [] := va_S.rf
  refine lv_iload_n hx hb dX0_addLeg_0 rfl (lv_at hl 1 rfl) ?_
  exact xS (As := [.int a]) (rest := []) hF (tX0_checkTurn hsT a hb9) TH.wm Mv.const hTH jyX0_checkTurn kl_RX0_42 ⟨rfl, rfl⟩ ⟨Nat.le_of_ble_eq_true rfl, Nat.le_of_ble_eq_true rfl⟩ rfl hl.1 rfl (Nat.le_of_ble_eq_true rfl) ⟨Nat.le_of_ble_eq_true rfl, Nat.le_of_ble_eq_true rfl⟩ hS dX0_addLeg_1 (xOut ht hlocks Mv.const ⟨Nat.le_refl _, Nat.le_refl _⟩)
set_option maxHeartbeats 4000000 in
set_option maxRecDepth 100000 in
theorem tX0_addLeg2 (hsT : l.stackTraces = false) (e : Nat) (he : e < 7) (ln b : Int32) (hb9 : ln < 1 ∨ 9 < ln) : XM l yX0_addLeg cX0_addLeg 5 (some .int) ({ frames := 6, cells := 1, slots := 6, locals := 82 } : Room) [.ref (q 0), .int (nI e - 3), .int ln, .int b] (fun U H => C0 D cyI cyZ q (nI N) st v mk w U H ∧ TH (fun _ => False) U H) "java/lang/IllegalArgumentException" (fun _ _ => True) := by
  refine mtx (by decide) (Nat.le_of_ble_eq_true rfl) ?_
  intro p ev s m below meth c ls hF hlocks ht hX hl
  have hF : CallFix p m c cX0_addLeg 5 s _ wA RX0 := hF
  obtain ⟨hx, hb, hml, hown, hts⟩ := id hF
  have hTH : TH (fun _ => False) s s.heap := hX.2
  have hX : C0 D cyI cyZ q (nI N) st v mk w s s.heap := hX.1
  have hl : lv_has ls 5 [(0, .ref (q 0)), (1, .int (nI e - 3)), (2, .int ln), (3, .int b)] := hl
  have hS : va_S (fun _ => False) s.heap s.heap [] := va_S.rf
  refine lv_iload_n hx hb dX0_addLeg_0 rfl (lv_at hl 1 rfl) ?_
  refine cSv (As := [.int (nI e - 3)]) (rest := []) hF (mX0_checkTurn e he) Mv.const trivial jyX0_checkTurn kl_RX0_42 ⟨rfl, rfl⟩ ⟨Nat.le_of_ble_eq_true rfl, Nat.le_of_ble_eq_true rfl⟩ rfl hl.1 rfl (Nat.le_of_ble_eq_true rfl) ⟨Nat.zero_le _, Nat.zero_le _⟩ dX0_addLeg_1 ?_
  refine lv_iload_n hx hb dX0_addLeg_4 rfl (lv_at hl 2 rfl) ?_
  refine lv_iconst (v := 1) hx hb dX0_addLeg_5 (by decide) ?_
  refine lv_icmp_lt (tgt := 15) hx hb dX0_addLeg_6 (by decide) (fun c6 => ?_) (fun c6 => ?_)
  · exact xThrow hF hsT hTH ht hlocks Mv.const trivial (fun _ _ _ => trivial) hS hl.1 (ik := 46) (is := 48) (ic := 50) (by decide +kernel) kc_RX0_46 kn_IllegalArgumentException exG0 exB0 exO0 (by decide) dX0_addLeg_15 dX0_addLeg_18 dX0_addLeg_19 dX0_addLeg_21 dX0_addLeg_24 ⟨Nat.le_of_ble_eq_true rfl, Nat.le_of_ble_eq_true rfl, Nat.le_of_ble_eq_true rfl, Nat.le_of_ble_eq_true rfl⟩ ⟨Nat.le_refl _, Nat.le_refl _⟩
  · refine lv_iload_n hx hb dX0_addLeg_9 rfl (lv_at hl 2 rfl) ?_
    refine lv_bipush (v := 9) hx hb dX0_addLeg_10 (by decide) ?_
    refine lv_icmp_le (tgt := 25) hx hb dX0_addLeg_12 (by decide) (fun c12 => ?_) (fun c12 => ?_)
    · exact (hb9.elim (fun h => absurd h c6) (fun h => absurd c12 (Int32.not_le.mpr h)))
    · exact xThrow hF hsT hTH ht hlocks Mv.const trivial (fun _ _ _ => trivial) hS hl.1 (ik := 46) (is := 48) (ic := 50) (by decide +kernel) kc_RX0_46 kn_IllegalArgumentException exG0 exB0 exO0 (by decide) dX0_addLeg_15 dX0_addLeg_18 dX0_addLeg_19 dX0_addLeg_21 dX0_addLeg_24 ⟨Nat.le_of_ble_eq_true rfl, Nat.le_of_ble_eq_true rfl, Nat.le_of_ble_eq_true rfl, Nat.le_of_ble_eq_true rfl⟩ ⟨Nat.le_refl _, Nat.le_refl _⟩
set_option maxHeartbeats 4000000 in
set_option maxRecDepth 100000 in
theorem tX0_addLeg3 (hsT : l.stackTraces = false) (e : Nat) (he : e < 7) (ln b : Int32) (hl1 : ¬ ln < 1) (hl9 : ln ≤ 9) (hb9 : in10 b = false) : XM l yX0_addLeg cX0_addLeg 5 (some .int) ({ frames := 6, cells := 1, slots := 6, locals := 82 } : Room) [.ref (q 0), .int (nI e - 3), .int ln, .int b] (fun U H => C0 D cyI cyZ q (nI N) st v mk w U H ∧ TH (fun _ => False) U H) "java/lang/IllegalArgumentException" (fun _ _ => True) := by
  refine mtx (by decide) (Nat.le_of_ble_eq_true rfl) ?_
  intro p ev s m below meth c ls hF hlocks ht hX hl
  have hF : CallFix p m c cX0_addLeg 5 s _ wA RX0 := hF
  obtain ⟨hx, hb, hml, hown, hts⟩ := id hF
  have hTH : TH (fun _ => False) s s.heap := hX.2
  have hX : C0 D cyI cyZ q (nI N) st v mk w s s.heap := hX.1
  have hl : lv_has ls 5 [(0, .ref (q 0)), (1, .int (nI e - 3)), (2, .int ln), (3, .int b)] := hl
  have hS : va_S (fun _ => False) s.heap s.heap [] := va_S.rf
  refine lv_iload_n hx hb dX0_addLeg_0 rfl (lv_at hl 1 rfl) ?_
  refine cSv (As := [.int (nI e - 3)]) (rest := []) hF (mX0_checkTurn e he) Mv.const trivial jyX0_checkTurn kl_RX0_42 ⟨rfl, rfl⟩ ⟨Nat.le_of_ble_eq_true rfl, Nat.le_of_ble_eq_true rfl⟩ rfl hl.1 rfl (Nat.le_of_ble_eq_true rfl) ⟨Nat.zero_le _, Nat.zero_le _⟩ dX0_addLeg_1 ?_
  refine lv_iload_n hx hb dX0_addLeg_4 rfl (lv_at hl 2 rfl) ?_
  refine lv_iconst (v := 1) hx hb dX0_addLeg_5 (by decide) ?_
  refine lv_icmp_lt (tgt := 15) hx hb dX0_addLeg_6 (by decide) (fun c6 => ?_) (fun c6 => ?_)
  · exact absurd c6 hl1
  · refine lv_iload_n hx hb dX0_addLeg_9 rfl (lv_at hl 2 rfl) ?_
    refine lv_bipush (v := 9) hx hb dX0_addLeg_10 (by decide) ?_
    refine lv_icmp_le (tgt := 25) hx hb dX0_addLeg_12 (by decide) (fun c12 => ?_) (fun c12 => ?_)
    · refine lv_iload_n hx hb dX0_addLeg_25 rfl (lv_at hl 3 rfl) ?_
      refine cSi (As := [.int b]) (rest := []) hF (mX0_isLandmark b) Mv.const trivial jyX0_isLandmark kl_RX0_53 ⟨rfl, rfl⟩ ⟨Nat.le_of_ble_eq_true rfl, Nat.le_of_ble_eq_true rfl⟩ rfl hl.1 rfl (Nat.le_of_ble_eq_true rfl) ⟨Nat.zero_le _, Nat.zero_le _⟩ dX0_addLeg_26 (fun r hr9 => ?_)
      subst hr9
      refine lv_if_ne (tgt := 42) hx hb dX0_addLeg_29 (by decide) (fun c29 => ?_) (fun c29 => ?_)
      · have c29b := b2i_t c29
        exact absurd hb9 (by rw [c29b]; decide)
      · have c29b := b2i_f c29
        exact xThrow hF hsT hTH ht hlocks Mv.const trivial (fun _ _ _ => trivial) hS hl.1 (ik := 46) (is := 57) (ic := 50) (by decide +kernel) kc_RX0_46 kn_IllegalArgumentException exG0 exB0 exO0 (by decide) dX0_addLeg_32 dX0_addLeg_35 dX0_addLeg_36 dX0_addLeg_38 dX0_addLeg_41 ⟨Nat.le_of_ble_eq_true rfl, Nat.le_of_ble_eq_true rfl, Nat.le_of_ble_eq_true rfl, Nat.le_of_ble_eq_true rfl⟩ ⟨Nat.le_refl _, Nat.le_refl _⟩
    · exact absurd hl9 c12
set_option maxHeartbeats 4000000 in
set_option maxRecDepth 100000 in
theorem tX0_addLeg4 (hsT : l.stackTraces = false) (e : Nat) (he : e < 7) (ln : Int32) (j : Nat) (hl1 : ¬ ln < 1) (hl9 : ln ≤ 9) (hj10 : j < 10) : XM l yX0_addLeg cX0_addLeg 5 (some .int) ({ frames := 6, cells := 1, slots := 6, locals := 82 } : Room) [.ref (q 0), .int (nI e - 3), .int ln, .int (nI j)] (fun U H => C0 D cyI cyZ q (nI 16) st v mk w U H ∧ TH (fun _ => False) U H) "java/lang/IllegalStateException" (fun _ _ => True) := by
  refine mtx (by decide) (Nat.le_of_ble_eq_true rfl) ?_
  intro p ev s m below meth c ls hF hlocks ht hX hl
  have hF : CallFix p m c cX0_addLeg 5 s _ wA RX0 := hF
  obtain ⟨hx, hb, hml, hown, hts⟩ := id hF
  have hTH : TH (fun _ => False) s s.heap := hX.2
  have hX : C0 D cyI cyZ q (nI 16) st v mk w s s.heap := hX.1
  have hl : lv_has ls 5 [(0, .ref (q 0)), (1, .int (nI e - 3)), (2, .int ln), (3, .int (nI j))] := hl
  have hS : va_S (fun _ => False) s.heap s.heap [] := va_S.rf
  refine lv_iload_n hx hb dX0_addLeg_0 rfl (lv_at hl 1 rfl) ?_
  refine cSv (As := [.int (nI e - 3)]) (rest := []) hF (mX0_checkTurn e he) Mv.const trivial jyX0_checkTurn kl_RX0_42 ⟨rfl, rfl⟩ ⟨Nat.le_of_ble_eq_true rfl, Nat.le_of_ble_eq_true rfl⟩ rfl hl.1 rfl (Nat.le_of_ble_eq_true rfl) ⟨Nat.zero_le _, Nat.zero_le _⟩ dX0_addLeg_1 ?_
  refine lv_iload_n hx hb dX0_addLeg_4 rfl (lv_at hl 2 rfl) ?_
  refine lv_iconst (v := 1) hx hb dX0_addLeg_5 (by decide) ?_
  refine lv_icmp_lt (tgt := 15) hx hb dX0_addLeg_6 (by decide) (fun c6 => ?_) (fun c6 => ?_)
  · exact absurd c6 hl1
  · refine lv_iload_n hx hb dX0_addLeg_9 rfl (lv_at hl 2 rfl) ?_
    refine lv_bipush (v := 9) hx hb dX0_addLeg_10 (by decide) ?_
    refine lv_icmp_le (tgt := 25) hx hb dX0_addLeg_12 (by decide) (fun c12 => ?_) (fun c12 => ?_)
    · refine lv_iload_n hx hb dX0_addLeg_25 rfl (lv_at hl 3 rfl) ?_
      refine cSi (As := [.int (nI j)]) (rest := []) hF (mX0_isLandmark (nI j)) Mv.const trivial jyX0_isLandmark kl_RX0_53 ⟨rfl, rfl⟩ ⟨Nat.le_of_ble_eq_true rfl, Nat.le_of_ble_eq_true rfl⟩ rfl hl.1 rfl (Nat.le_of_ble_eq_true rfl) ⟨Nat.zero_le _, Nat.zero_le _⟩ dX0_addLeg_26 (fun r hr9 => ?_)
      subst hr9
      refine lv_if_ne (tgt := 42) hx hb dX0_addLeg_29 (by decide) (fun c29 => ?_) (fun c29 => ?_)
      · have c29b := b2i_t c29
        refine lv_aload_n hx hb dX0_addLeg_42 rfl (lv_at hl 0 rfl) ?_
        refine C0.get hF hX 5 (by decide) rfl rfl kf_RX0_59 dX0_addLeg_43 ?_
        refine lv_bipush (v := 16) hx hb dX0_addLeg_46 (by decide) ?_
        refine lv_icmp_lt (tgt := 61) hx hb dX0_addLeg_48 (by decide) (fun c48 => ?_) (fun c48 => ?_)
        · exact absurd c48 (by decide)
        · exact xThrow hF hsT hTH ht hlocks Mv.const trivial (fun _ _ _ => trivial) hS hl.1 (ik := 62) (is := 64) (ic := 66) (by decide +kernel) kc_RX0_62 kn_IllegalStateException exG1 exB1 exO1 (by decide) dX0_addLeg_51 dX0_addLeg_54 dX0_addLeg_55 dX0_addLeg_57 dX0_addLeg_60 ⟨Nat.le_of_ble_eq_true rfl, Nat.le_of_ble_eq_true rfl, Nat.le_of_ble_eq_true rfl, Nat.le_of_ble_eq_true rfl⟩ ⟨Nat.le_refl _, Nat.le_refl _⟩
      · have c29b := b2i_f c29
        exact absurd (in10_nI hj10) (by rw [c29b]; decide)
    · exact absurd hl9 c12
set_option maxHeartbeats 4000000 in
set_option maxRecDepth 100000 in
theorem tX0_strikeLeg (hsT : l.stackTraces = false)  : XM l yX0_strikeLeg cX0_strikeLeg 1 (some .int) ({ frames := 6, cells := 1, slots := 6, locals := 82 } : Room) [.ref (q 0)] (fun U H => C0 D cyI cyZ q (nI 0) st v mk w U H ∧ TH (fun _ => False) U H) "java/lang/IllegalStateException" (fun _ _ => True) := by
  refine mtx (by decide) (Nat.le_of_ble_eq_true rfl) ?_
  intro p ev s m below meth c ls hF hlocks ht hX hl
  have hF : CallFix p m c cX0_strikeLeg 1 s _ wA RX0 := hF
  obtain ⟨hx, hb, hml, hown, hts⟩ := id hF
  have hTH : TH (fun _ => False) s s.heap := hX.2
  have hX : C0 D cyI cyZ q (nI 0) st v mk w s s.heap := hX.1
  have hl : lv_has ls 1 [(0, .ref (q 0))] := hl
  have hS : va_S (fun _ => False) s.heap s.heap [] := va_S.rf
  refine lv_aload_n hx hb dX0_strikeLeg_0 rfl (lv_at hl 0 rfl) ?_
  refine C0.get hF hX 5 (by decide) rfl rfl kf_RX0_59 dX0_strikeLeg_1 ?_
  refine lv_if_gt (tgt := 17) hx hb dX0_strikeLeg_4 (by decide) (fun c4 => ?_) (fun c4 => ?_)
  · exact absurd c4 (by decide)
  · exact xThrow hF hsT hTH ht hlocks Mv.const trivial (fun _ _ _ => trivial) hS hl.1 (ik := 62) (is := 70) (ic := 66) (by decide +kernel) kc_RX0_62 kn_IllegalStateException exG1 exB1 exO1 (by decide) dX0_strikeLeg_7 dX0_strikeLeg_10 dX0_strikeLeg_11 dX0_strikeLeg_13 dX0_strikeLeg_16 ⟨Nat.le_of_ble_eq_true rfl, Nat.le_of_ble_eq_true rfl, Nat.le_of_ble_eq_true rfl, Nat.le_of_ble_eq_true rfl⟩ ⟨Nat.le_refl _, Nat.le_refl _⟩
set_option maxHeartbeats 4000000 in
set_option maxRecDepth 100000 in
theorem tX0_bend1 (hsT : l.stackTraces = false) (a : Int32) (hb9 : a < 0 ∨ nI N ≤ a) (b : Int32) : XM l yX0_bend cX0_bend 4 (some .int) ({ frames := 7, cells := 1, slots := 6, locals := 103 } : Room) [.ref (q 0), .int a, .int b] (fun U H => C0 D cyI cyZ q (nI N) st v mk w U H ∧ TH (fun _ => False) U H) "java/lang/IndexOutOfBoundsException" (fun _ _ => True) := by
  refine mtx (by decide) (Nat.le_of_ble_eq_true rfl) ?_
  intro p ev s m below meth c ls hF hlocks ht hX hl
  have hF : CallFix p m c cX0_bend 4 s _ wA RX0 := hF
  obtain ⟨hx, hb, hml, hown, hts⟩ := id hF
  have hTH : TH (fun _ => False) s s.heap := hX.2
  have hX : C0 D cyI cyZ q (nI N) st v mk w s s.heap := hX.1
  have hl : lv_has ls 4 [(0, .ref (q 0)), (1, .int a), (2, .int b)] := hl
  have hS : va_S (fun _ => False) s.heap s.heap [] := va_S.rf
  refine lv_aload_n hx hb dX0_bend_0 rfl (lv_at hl 0 rfl) ?_
  refine lv_iload_n hx hb dX0_bend_1 rfl (lv_at hl 1 rfl) ?_
  exact xV (As := [.int a]) (rest := []) hF (tX0_checkLeg hsT a hb9) (Wm.and C0.mv.wm TH.wm) Mv.const ⟨hX, hTH⟩ hX.rc jyX0_checkLeg kl_RX0_72 ⟨rfl, rfl⟩ ⟨Nat.le_of_ble_eq_true rfl, Nat.le_of_ble_eq_true rfl⟩ rfl hl.1 rfl (Nat.le_of_ble_eq_true rfl) ⟨Nat.le_of_ble_eq_true rfl, Nat.le_of_ble_eq_true rfl⟩ hS dX0_bend_2 (xOut ht hlocks Mv.const ⟨Nat.le_refl _, Nat.le_refl _⟩)
set_option maxHeartbeats 4000000 in
set_option maxRecDepth 100000 in
theorem tX0_bend2 (hsT : l.stackTraces = false) (i : Nat) (hi : i < N) (hN : N ≤ 16) (a : Int32) (hb9 : a < -3 ∨ 3 < a) : XM l yX0_bend cX0_bend 4 (some .int) ({ frames := 7, cells := 1, slots := 6, locals := 102 } : Room) [.ref (q 0), .int (nI i), .int a] (fun U H => C0 D cyI cyZ q (nI N) st v mk w U H ∧ TH (fun _ => False) U H) "java/lang/IllegalArgumentException" (fun _ _ => True) := by
  refine mtx (by decide) (Nat.le_of_ble_eq_true rfl) ?_
  intro p ev s m below meth c ls hF hlocks ht hX hl
  have hF : CallFix p m c cX0_bend 4 s _ wA RX0 := hF
  obtain ⟨hx, hb, hml, hown, hts⟩ := id hF
  have hTH : TH (fun _ => False) s s.heap := hX.2
  have hX : C0 D cyI cyZ q (nI N) st v mk w s s.heap := hX.1
  have hl : lv_has ls 4 [(0, .ref (q 0)), (1, .int (nI i)), (2, .int a)] := hl
  have hS : va_S (fun _ => False) s.heap s.heap [] := va_S.rf
  refine lv_aload_n hx hb dX0_bend_0 rfl (lv_at hl 0 rfl) ?_
  refine lv_iload_n hx hb dX0_bend_1 rfl (lv_at hl 1 rfl) ?_
  refine cVv (As := [.int (nI i)]) (rest := []) hF (mX0_checkLeg i (by omega) (by omega)) C0.mv hX (C0.rc hX) jyX0_checkLeg kl_RX0_72 ⟨rfl, rfl⟩ ⟨Nat.le_of_ble_eq_true rfl, Nat.le_of_ble_eq_true rfl⟩ rfl hl.1 rfl (Nat.le_of_ble_eq_true rfl) ⟨Nat.zero_le _, Nat.zero_le _⟩ dX0_bend_2 ?_
  refine lv_iload_n hx hb dX0_bend_5 rfl (lv_at hl 2 rfl) ?_
  exact xS (As := [.int a]) (rest := []) hF (tX0_checkTurn hsT a hb9) TH.wm Mv.const hTH jyX0_checkTurn kl_RX0_42 ⟨rfl, rfl⟩ ⟨Nat.le_of_ble_eq_true rfl, Nat.le_of_ble_eq_true rfl⟩ rfl hl.1 rfl (Nat.le_of_ble_eq_true rfl) ⟨Nat.le_of_ble_eq_true rfl, Nat.le_of_ble_eq_true rfl⟩ hS dX0_bend_6 (xOut ht hlocks Mv.const ⟨Nat.le_refl _, Nat.le_refl _⟩)
set_option maxHeartbeats 4000000 in
set_option maxRecDepth 100000 in
theorem tX0_setWord1 (hsT : l.stackTraces = false) (a b : Int32) (hb9 : in10 a = false) : XM l yX0_setWord cX0_setWord 4 (some .int) ({ frames := 7, cells := 1, slots := 6, locals := 102 } : Room) [.ref (q 0), .int a, .int b] (fun U H => C0 D cyI cyZ q (nI N) st v mk w U H ∧ TH (fun _ => False) U H) "java/lang/IndexOutOfBoundsException" (fun _ _ => True) := by
  refine mtx (by decide) (Nat.le_of_ble_eq_true rfl) ?_
  intro p ev s m below meth c ls hF hlocks ht hX hl
  have hF : CallFix p m c cX0_setWord 4 s _ wA RX0 := hF
  obtain ⟨hx, hb, hml, hown, hts⟩ := id hF
  have hTH : TH (fun _ => False) s s.heap := hX.2
  have hX : C0 D cyI cyZ q (nI N) st v mk w s s.heap := hX.1
  have hl : lv_has ls 4 [(0, .ref (q 0)), (1, .int a), (2, .int b)] := hl
  have hS : va_S (fun _ => False) s.heap s.heap [] := va_S.rf
  refine lv_iload_n hx hb dX0_setWord_0 rfl (lv_at hl 1 rfl) ?_
  exact xS (As := [.int a]) (rest := []) hF (tX0_checkLandmark hsT a hb9) TH.wm Mv.const hTH jyX0_checkLandmark kl_RX0_78 ⟨rfl, rfl⟩ ⟨Nat.le_of_ble_eq_true rfl, Nat.le_of_ble_eq_true rfl⟩ rfl hl.1 rfl (Nat.le_of_ble_eq_true rfl) ⟨Nat.le_of_ble_eq_true rfl, Nat.le_of_ble_eq_true rfl⟩ hS dX0_setWord_1 (xOut ht hlocks Mv.const ⟨Nat.le_refl _, Nat.le_refl _⟩)
set_option maxHeartbeats 4000000 in
set_option maxRecDepth 100000 in
theorem tX0_setWord2 (hsT : l.stackTraces = false) (j : Nat) (hj10 : j < 10) (b : Int32) (hb9 : in10 b = false) : XM l yX0_setWord cX0_setWord 4 (some .int) ({ frames := 6, cells := 1, slots := 6, locals := 82 } : Room) [.ref (q 0), .int (nI j), .int b] (fun U H => C0 D cyI cyZ q (nI N) st v mk w U H ∧ TH (fun _ => False) U H) "java/lang/IllegalArgumentException" (fun _ _ => True) := by
  refine mtx (by decide) (Nat.le_of_ble_eq_true rfl) ?_
  intro p ev s m below meth c ls hF hlocks ht hX hl
  have hF : CallFix p m c cX0_setWord 4 s _ wA RX0 := hF
  obtain ⟨hx, hb, hml, hown, hts⟩ := id hF
  have hTH : TH (fun _ => False) s s.heap := hX.2
  have hX : C0 D cyI cyZ q (nI N) st v mk w s s.heap := hX.1
  have hl : lv_has ls 4 [(0, .ref (q 0)), (1, .int (nI j)), (2, .int b)] := hl
  have hS : va_S (fun _ => False) s.heap s.heap [] := va_S.rf
  refine lv_iload_n hx hb dX0_setWord_0 rfl (lv_at hl 1 rfl) ?_
  refine cSv (As := [.int (nI j)]) (rest := []) hF (mX0_checkLandmark j (by omega)) Mv.const trivial jyX0_checkLandmark kl_RX0_78 ⟨rfl, rfl⟩ ⟨Nat.le_of_ble_eq_true rfl, Nat.le_of_ble_eq_true rfl⟩ rfl hl.1 rfl (Nat.le_of_ble_eq_true rfl) ⟨Nat.zero_le _, Nat.zero_le _⟩ dX0_setWord_1 ?_
  refine lv_iload_n hx hb dX0_setWord_4 rfl (lv_at hl 2 rfl) ?_
  refine cSi (As := [.int b]) (rest := []) hF (mX0_isWord b) Mv.const trivial jyX0_isWord kl_RX0_81 ⟨rfl, rfl⟩ ⟨Nat.le_of_ble_eq_true rfl, Nat.le_of_ble_eq_true rfl⟩ rfl hl.1 rfl (Nat.le_of_ble_eq_true rfl) ⟨Nat.zero_le _, Nat.zero_le _⟩ dX0_setWord_5 (fun r hr9 => ?_)
  subst hr9
  refine lv_if_ne (tgt := 21) hx hb dX0_setWord_8 (by decide) (fun c8 => ?_) (fun c8 => ?_)
  · have c8b := b2i_t c8
    exact absurd hb9 (by rw [c8b]; decide)
  · have c8b := b2i_f c8
    exact xThrow hF hsT hTH ht hlocks Mv.const trivial (fun _ _ _ => trivial) hS hl.1 (ik := 46) (is := 84) (ic := 50) (by decide +kernel) kc_RX0_46 kn_IllegalArgumentException exG0 exB0 exO0 (by decide) dX0_setWord_11 dX0_setWord_14 dX0_setWord_15 dX0_setWord_17 dX0_setWord_20 ⟨Nat.le_of_ble_eq_true rfl, Nat.le_of_ble_eq_true rfl, Nat.le_of_ble_eq_true rfl, Nat.le_of_ble_eq_true rfl⟩ ⟨Nat.le_refl _, Nat.le_refl _⟩
set_option maxHeartbeats 4000000 in
set_option maxRecDepth 100000 in
theorem tX0_setStep (hsT : l.stackTraces = false) (a : Int32) (hb9 : a < 1 ∨ 4 < a) : XM l yX0_setStep cX0_setStep 3 (some .int) ({ frames := 6, cells := 1, slots := 6, locals := 82 } : Room) [.ref (q 0), .int a] (fun U H => C0 D cyI cyZ q (nI N) st v mk w U H ∧ TH (fun _ => False) U H) "java/lang/IllegalArgumentException" (fun _ _ => True) := by
  refine mtx (by decide) (Nat.le_of_ble_eq_true rfl) ?_
  intro p ev s m below meth c ls hF hlocks ht hX hl
  have hF : CallFix p m c cX0_setStep 3 s _ wA RX0 := hF
  obtain ⟨hx, hb, hml, hown, hts⟩ := id hF
  have hTH : TH (fun _ => False) s s.heap := hX.2
  have hX : C0 D cyI cyZ q (nI N) st v mk w s s.heap := hX.1
  have hl : lv_has ls 3 [(0, .ref (q 0)), (1, .int a)] := hl
  have hS : va_S (fun _ => False) s.heap s.heap [] := va_S.rf
  refine lv_iload_n hx hb dX0_setStep_0 rfl (lv_at hl 1 rfl) ?_
  refine lv_iconst (v := 1) hx hb dX0_setStep_1 (by decide) ?_
  refine lv_icmp_lt (tgt := 10) hx hb dX0_setStep_2 (by decide) (fun c2 => ?_) (fun c2 => ?_)
  · exact xThrow hF hsT hTH ht hlocks Mv.const trivial (fun _ _ _ => trivial) hS hl.1 (ik := 46) (is := 86) (ic := 50) (by decide +kernel) kc_RX0_46 kn_IllegalArgumentException exG0 exB0 exO0 (by decide) dX0_setStep_10 dX0_setStep_13 dX0_setStep_14 dX0_setStep_16 dX0_setStep_19 ⟨Nat.le_of_ble_eq_true rfl, Nat.le_of_ble_eq_true rfl, Nat.le_of_ble_eq_true rfl, Nat.le_of_ble_eq_true rfl⟩ ⟨Nat.le_refl _, Nat.le_refl _⟩
  · refine lv_iload_n hx hb dX0_setStep_5 rfl (lv_at hl 1 rfl) ?_
    refine lv_iconst (v := 4) hx hb dX0_setStep_6 (by decide) ?_
    refine lv_icmp_le (tgt := 20) hx hb dX0_setStep_7 (by decide) (fun c7 => ?_) (fun c7 => ?_)
    · exact (hb9.elim (fun h => absurd h c2) (fun h => absurd c7 (Int32.not_le.mpr h)))
    · exact xThrow hF hsT hTH ht hlocks Mv.const trivial (fun _ _ _ => trivial) hS hl.1 (ik := 46) (is := 86) (ic := 50) (by decide +kernel) kc_RX0_46 kn_IllegalArgumentException exG0 exB0 exO0 (by decide) dX0_setStep_10 dX0_setStep_13 dX0_setStep_14 dX0_setStep_16 dX0_setStep_19 ⟨Nat.le_of_ble_eq_true rfl, Nat.le_of_ble_eq_true rfl, Nat.le_of_ble_eq_true rfl, Nat.le_of_ble_eq_true rfl⟩ ⟨Nat.le_refl _, Nat.le_refl _⟩
set_option maxHeartbeats 4000000 in
set_option maxRecDepth 100000 in
theorem tX0_turnOf (hsT : l.stackTraces = false) (a : Int32) (hb9 : a < 0 ∨ nI N ≤ a) : XM l yX0_turnOf cX0_turnOf 2 (some .int) ({ frames := 7, cells := 1, slots := 6, locals := 103 } : Room) [.ref (q 0), .int a] (fun U H => C0 D cyI cyZ q (nI N) st v mk w U H ∧ TH (fun _ => False) U H) "java/lang/IndexOutOfBoundsException" (fun _ _ => True) := by
  refine mtx (by decide) (Nat.le_of_ble_eq_true rfl) ?_
  intro p ev s m below meth c ls hF hlocks ht hX hl
  have hF : CallFix p m c cX0_turnOf 2 s _ wA RX0 := hF
  obtain ⟨hx, hb, hml, hown, hts⟩ := id hF
  have hTH : TH (fun _ => False) s s.heap := hX.2
  have hX : C0 D cyI cyZ q (nI N) st v mk w s s.heap := hX.1
  have hl : lv_has ls 2 [(0, .ref (q 0)), (1, .int a)] := hl
  have hS : va_S (fun _ => False) s.heap s.heap [] := va_S.rf
  refine lv_aload_n hx hb dX0_turnOf_0 rfl (lv_at hl 0 rfl) ?_
  refine lv_iload_n hx hb dX0_turnOf_1 rfl (lv_at hl 1 rfl) ?_
  exact xV (As := [.int a]) (rest := []) hF (tX0_checkLeg hsT a hb9) (Wm.and C0.mv.wm TH.wm) Mv.const ⟨hX, hTH⟩ hX.rc jyX0_checkLeg kl_RX0_72 ⟨rfl, rfl⟩ ⟨Nat.le_of_ble_eq_true rfl, Nat.le_of_ble_eq_true rfl⟩ rfl hl.1 rfl (Nat.le_of_ble_eq_true rfl) ⟨Nat.le_of_ble_eq_true rfl, Nat.le_of_ble_eq_true rfl⟩ hS dX0_turnOf_2 (xOut ht hlocks Mv.const ⟨Nat.le_refl _, Nat.le_refl _⟩)
set_option maxHeartbeats 4000000 in
set_option maxRecDepth 100000 in
theorem tX0_headingOf (hsT : l.stackTraces = false) (a : Int32) (hb9 : a < 0 ∨ nI N ≤ a) : XM l yX0_headingOf cX0_headingOf 2 (some .int) ({ frames := 7, cells := 1, slots := 6, locals := 103 } : Room) [.ref (q 0), .int a] (fun U H => C0 D cyI cyZ q (nI N) st v mk w U H ∧ TH (fun _ => False) U H) "java/lang/IndexOutOfBoundsException" (fun _ _ => True) := by
  refine mtx (by decide) (Nat.le_of_ble_eq_true rfl) ?_
  intro p ev s m below meth c ls hF hlocks ht hX hl
  have hF : CallFix p m c cX0_headingOf 2 s _ wA RX0 := hF
  obtain ⟨hx, hb, hml, hown, hts⟩ := id hF
  have hTH : TH (fun _ => False) s s.heap := hX.2
  have hX : C0 D cyI cyZ q (nI N) st v mk w s s.heap := hX.1
  have hl : lv_has ls 2 [(0, .ref (q 0)), (1, .int a)] := hl
  have hS : va_S (fun _ => False) s.heap s.heap [] := va_S.rf
  refine lv_aload_n hx hb dX0_headingOf_0 rfl (lv_at hl 0 rfl) ?_
  refine lv_iload_n hx hb dX0_headingOf_1 rfl (lv_at hl 1 rfl) ?_
  exact xV (As := [.int a]) (rest := []) hF (tX0_checkLeg hsT a hb9) (Wm.and C0.mv.wm TH.wm) Mv.const ⟨hX, hTH⟩ hX.rc jyX0_checkLeg kl_RX0_72 ⟨rfl, rfl⟩ ⟨Nat.le_of_ble_eq_true rfl, Nat.le_of_ble_eq_true rfl⟩ rfl hl.1 rfl (Nat.le_of_ble_eq_true rfl) ⟨Nat.le_of_ble_eq_true rfl, Nat.le_of_ble_eq_true rfl⟩ hS dX0_headingOf_2 (xOut ht hlocks Mv.const ⟨Nat.le_refl _, Nat.le_refl _⟩)
set_option maxHeartbeats 4000000 in
set_option maxRecDepth 100000 in
theorem tX0_landmarkOf (hsT : l.stackTraces = false) (a : Int32) (hb9 : a < 0 ∨ nI N ≤ a) : XM l yX0_landmarkOf cX0_landmarkOf 2 (some .int) ({ frames := 7, cells := 1, slots := 6, locals := 103 } : Room) [.ref (q 0), .int a] (fun U H => C0 D cyI cyZ q (nI N) st v mk w U H ∧ TH (fun _ => False) U H) "java/lang/IndexOutOfBoundsException" (fun _ _ => True) := by
  refine mtx (by decide) (Nat.le_of_ble_eq_true rfl) ?_
  intro p ev s m below meth c ls hF hlocks ht hX hl
  have hF : CallFix p m c cX0_landmarkOf 2 s _ wA RX0 := hF
  obtain ⟨hx, hb, hml, hown, hts⟩ := id hF
  have hTH : TH (fun _ => False) s s.heap := hX.2
  have hX : C0 D cyI cyZ q (nI N) st v mk w s s.heap := hX.1
  have hl : lv_has ls 2 [(0, .ref (q 0)), (1, .int a)] := hl
  have hS : va_S (fun _ => False) s.heap s.heap [] := va_S.rf
  refine lv_aload_n hx hb dX0_landmarkOf_0 rfl (lv_at hl 0 rfl) ?_
  refine lv_iload_n hx hb dX0_landmarkOf_1 rfl (lv_at hl 1 rfl) ?_
  exact xV (As := [.int a]) (rest := []) hF (tX0_checkLeg hsT a hb9) (Wm.and C0.mv.wm TH.wm) Mv.const ⟨hX, hTH⟩ hX.rc jyX0_checkLeg kl_RX0_72 ⟨rfl, rfl⟩ ⟨Nat.le_of_ble_eq_true rfl, Nat.le_of_ble_eq_true rfl⟩ rfl hl.1 rfl (Nat.le_of_ble_eq_true rfl) ⟨Nat.le_of_ble_eq_true rfl, Nat.le_of_ble_eq_true rfl⟩ hS dX0_landmarkOf_2 (xOut ht hlocks Mv.const ⟨Nat.le_refl _, Nat.le_refl _⟩)
set_option maxHeartbeats 4000000 in
set_option maxRecDepth 100000 in
theorem tX0_noteOf (hsT : l.stackTraces = false) (a : Int32) (hb9 : a < 0 ∨ nI N ≤ a) : XM l yX0_noteOf cX0_noteOf 2 (some .int) ({ frames := 7, cells := 1, slots := 6, locals := 103 } : Room) [.ref (q 0), .int a] (fun U H => C0 D cyI cyZ q (nI N) st v mk w U H ∧ TH (fun _ => False) U H) "java/lang/IndexOutOfBoundsException" (fun _ _ => True) := by
  refine mtx (by decide) (Nat.le_of_ble_eq_true rfl) ?_
  intro p ev s m below meth c ls hF hlocks ht hX hl
  have hF : CallFix p m c cX0_noteOf 2 s _ wA RX0 := hF
  obtain ⟨hx, hb, hml, hown, hts⟩ := id hF
  have hTH : TH (fun _ => False) s s.heap := hX.2
  have hX : C0 D cyI cyZ q (nI N) st v mk w s s.heap := hX.1
  have hl : lv_has ls 2 [(0, .ref (q 0)), (1, .int a)] := hl
  have hS : va_S (fun _ => False) s.heap s.heap [] := va_S.rf
  refine lv_aload_n hx hb dX0_noteOf_0 rfl (lv_at hl 0 rfl) ?_
  refine lv_iload_n hx hb dX0_noteOf_1 rfl (lv_at hl 1 rfl) ?_
  exact xV (As := [.int a]) (rest := []) hF (tX0_checkLeg hsT a hb9) (Wm.and C0.mv.wm TH.wm) Mv.const ⟨hX, hTH⟩ hX.rc jyX0_checkLeg kl_RX0_72 ⟨rfl, rfl⟩ ⟨Nat.le_of_ble_eq_true rfl, Nat.le_of_ble_eq_true rfl⟩ rfl hl.1 rfl (Nat.le_of_ble_eq_true rfl) ⟨Nat.le_of_ble_eq_true rfl, Nat.le_of_ble_eq_true rfl⟩ hS dX0_noteOf_2 (xOut ht hlocks Mv.const ⟨Nat.le_refl _, Nat.le_refl _⟩)
set_option maxHeartbeats 4000000 in
set_option maxRecDepth 100000 in
theorem tX0_isFolded (hsT : l.stackTraces = false) (a : Int32) (hb9 : a < 0 ∨ nI N ≤ a) : XM l yX0_isFolded cX0_isFolded 2 (some .boolean) ({ frames := 7, cells := 1, slots := 6, locals := 103 } : Room) [.ref (q 0), .int a] (fun U H => C0 D cyI cyZ q (nI N) st v mk w U H ∧ TH (fun _ => False) U H) "java/lang/IndexOutOfBoundsException" (fun _ _ => True) := by
  refine mtx (by decide) (Nat.le_of_ble_eq_true rfl) ?_
  intro p ev s m below meth c ls hF hlocks ht hX hl
  have hF : CallFix p m c cX0_isFolded 2 s _ wA RX0 := hF
  obtain ⟨hx, hb, hml, hown, hts⟩ := id hF
  have hTH : TH (fun _ => False) s s.heap := hX.2
  have hX : C0 D cyI cyZ q (nI N) st v mk w s s.heap := hX.1
  have hl : lv_has ls 2 [(0, .ref (q 0)), (1, .int a)] := hl
  have hS : va_S (fun _ => False) s.heap s.heap [] := va_S.rf
  refine lv_aload_n hx hb dX0_isFolded_0 rfl (lv_at hl 0 rfl) ?_
  refine lv_iload_n hx hb dX0_isFolded_1 rfl (lv_at hl 1 rfl) ?_
  exact xV (As := [.int a]) (rest := []) hF (tX0_checkLeg hsT a hb9) (Wm.and C0.mv.wm TH.wm) Mv.const ⟨hX, hTH⟩ hX.rc jyX0_checkLeg kl_RX0_72 ⟨rfl, rfl⟩ ⟨Nat.le_of_ble_eq_true rfl, Nat.le_of_ble_eq_true rfl⟩ rfl hl.1 rfl (Nat.le_of_ble_eq_true rfl) ⟨Nat.le_of_ble_eq_true rfl, Nat.le_of_ble_eq_true rfl⟩ hS dX0_isFolded_2 (xOut ht hlocks Mv.const ⟨Nat.le_refl _, Nat.le_refl _⟩)
set_option maxHeartbeats 4000000 in
set_option maxRecDepth 100000 in
theorem tX0_wordIn (hsT : l.stackTraces = false) (a : Int32) (hb9 : a < 0 ∨ nI N ≤ a) : XM l yX0_wordIn cX0_wordIn 2 (some .int) ({ frames := 7, cells := 1, slots := 6, locals := 103 } : Room) [.ref (q 0), .int a] (fun U H => C0 D cyI cyZ q (nI N) st v mk w U H ∧ TH (fun _ => False) U H) "java/lang/IndexOutOfBoundsException" (fun _ _ => True) := by
  refine mtx (by decide) (Nat.le_of_ble_eq_true rfl) ?_
  intro p ev s m below meth c ls hF hlocks ht hX hl
  have hF : CallFix p m c cX0_wordIn 2 s _ wA RX0 := hF
  obtain ⟨hx, hb, hml, hown, hts⟩ := id hF
  have hTH : TH (fun _ => False) s s.heap := hX.2
  have hX : C0 D cyI cyZ q (nI N) st v mk w s s.heap := hX.1
  have hl : lv_has ls 2 [(0, .ref (q 0)), (1, .int a)] := hl
  have hS : va_S (fun _ => False) s.heap s.heap [] := va_S.rf
  refine lv_aload_n hx hb dX0_wordIn_0 rfl (lv_at hl 0 rfl) ?_
  refine lv_iload_n hx hb dX0_wordIn_1 rfl (lv_at hl 1 rfl) ?_
  exact xV (As := [.int a]) (rest := []) hF (tX0_checkLeg hsT a hb9) (Wm.and C0.mv.wm TH.wm) Mv.const ⟨hX, hTH⟩ hX.rc jyX0_checkLeg kl_RX0_72 ⟨rfl, rfl⟩ ⟨Nat.le_of_ble_eq_true rfl, Nat.le_of_ble_eq_true rfl⟩ rfl hl.1 rfl (Nat.le_of_ble_eq_true rfl) ⟨Nat.le_of_ble_eq_true rfl, Nat.le_of_ble_eq_true rfl⟩ hS dX0_wordIn_2 (xOut ht hlocks Mv.const ⟨Nat.le_refl _, Nat.le_refl _⟩)
set_option maxHeartbeats 4000000 in
set_option maxRecDepth 100000 in
theorem tX0_readings (hsT : l.stackTraces = false) (a : Int32) (hb9 : a < 0 ∨ nI N ≤ a) : XM l yX0_readings cX0_readings 3 (some .int) ({ frames := 7, cells := 1, slots := 6, locals := 103 } : Room) [.ref (q 0), .int a] (fun U H => C0 D cyI cyZ q (nI N) st v mk w U H ∧ TH (fun _ => False) U H) "java/lang/IndexOutOfBoundsException" (fun _ _ => True) := by
  refine mtx (by decide) (Nat.le_of_ble_eq_true rfl) ?_
  intro p ev s m below meth c ls hF hlocks ht hX hl
  have hF : CallFix p m c cX0_readings 3 s _ wA RX0 := hF
  obtain ⟨hx, hb, hml, hown, hts⟩ := id hF
  have hTH : TH (fun _ => False) s s.heap := hX.2
  have hX : C0 D cyI cyZ q (nI N) st v mk w s s.heap := hX.1
  have hl : lv_has ls 3 [(0, .ref (q 0)), (1, .int a)] := hl
  have hS : va_S (fun _ => False) s.heap s.heap [] := va_S.rf
  refine lv_aload_n hx hb dX0_readings_0 rfl (lv_at hl 0 rfl) ?_
  refine lv_iload_n hx hb dX0_readings_1 rfl (lv_at hl 1 rfl) ?_
  exact xV (As := [.int a]) (rest := []) hF (tX0_checkLeg hsT a hb9) (Wm.and C0.mv.wm TH.wm) Mv.const ⟨hX, hTH⟩ hX.rc jyX0_checkLeg kl_RX0_72 ⟨rfl, rfl⟩ ⟨Nat.le_of_ble_eq_true rfl, Nat.le_of_ble_eq_true rfl⟩ rfl hl.1 rfl (Nat.le_of_ble_eq_true rfl) ⟨Nat.le_of_ble_eq_true rfl, Nat.le_of_ble_eq_true rfl⟩ hS dX0_readings_2 (xOut ht hlocks Mv.const ⟨Nat.le_refl _, Nat.le_refl _⟩)
set_option maxHeartbeats 4000000 in
set_option maxRecDepth 100000 in
theorem tX0_rightReading (hsT : l.stackTraces = false) (a : Int32) (hb9 : a < 0 ∨ nI N ≤ a) : XM l yX0_rightReading cX0_rightReading 4 (some .int) ({ frames := 7, cells := 1, slots := 6, locals := 103 } : Room) [.ref (q 0), .int a] (fun U H => C0 D cyI cyZ q (nI N) st v mk w U H ∧ TH (fun _ => False) U H) "java/lang/IndexOutOfBoundsException" (fun _ _ => True) := by
  refine mtx (by decide) (Nat.le_of_ble_eq_true rfl) ?_
  intro p ev s m below meth c ls hF hlocks ht hX hl
  have hF : CallFix p m c cX0_rightReading 4 s _ wA RX0 := hF
  obtain ⟨hx, hb, hml, hown, hts⟩ := id hF
  have hTH : TH (fun _ => False) s s.heap := hX.2
  have hX : C0 D cyI cyZ q (nI N) st v mk w s s.heap := hX.1
  have hl : lv_has ls 4 [(0, .ref (q 0)), (1, .int a)] := hl
  have hS : va_S (fun _ => False) s.heap s.heap [] := va_S.rf
  refine lv_aload_n hx hb dX0_rightReading_0 rfl (lv_at hl 0 rfl) ?_
  refine lv_iload_n hx hb dX0_rightReading_1 rfl (lv_at hl 1 rfl) ?_
  exact xV (As := [.int a]) (rest := []) hF (tX0_checkLeg hsT a hb9) (Wm.and C0.mv.wm TH.wm) Mv.const ⟨hX, hTH⟩ hX.rc jyX0_checkLeg kl_RX0_72 ⟨rfl, rfl⟩ ⟨Nat.le_of_ble_eq_true rfl, Nat.le_of_ble_eq_true rfl⟩ rfl hl.1 rfl (Nat.le_of_ble_eq_true rfl) ⟨Nat.le_of_ble_eq_true rfl, Nat.le_of_ble_eq_true rfl⟩ hS dX0_rightReading_2 (xOut ht hlocks Mv.const ⟨Nat.le_refl _, Nat.le_refl _⟩)
set_option maxHeartbeats 4000000 in
set_option maxRecDepth 100000 in
theorem tX0_isAmbiguous (hsT : l.stackTraces = false) (a : Int32) (hb9 : a < 0 ∨ nI N ≤ a) : XM l yX0_isAmbiguous cX0_isAmbiguous 2 (some .boolean) ({ frames := 7, cells := 1, slots := 6, locals := 103 } : Room) [.ref (q 0), .int a] (fun U H => C0 D cyI cyZ q (nI N) st v mk w U H ∧ TH (fun _ => False) U H) "java/lang/IndexOutOfBoundsException" (fun _ _ => True) := by
  refine mtx (by decide) (Nat.le_of_ble_eq_true rfl) ?_
  intro p ev s m below meth c ls hF hlocks ht hX hl
  have hF : CallFix p m c cX0_isAmbiguous 2 s _ wA RX0 := hF
  obtain ⟨hx, hb, hml, hown, hts⟩ := id hF
  have hTH : TH (fun _ => False) s s.heap := hX.2
  have hX : C0 D cyI cyZ q (nI N) st v mk w s s.heap := hX.1
  have hl : lv_has ls 2 [(0, .ref (q 0)), (1, .int a)] := hl
  have hS : va_S (fun _ => False) s.heap s.heap [] := va_S.rf
  refine lv_aload_n hx hb dX0_isAmbiguous_0 rfl (lv_at hl 0 rfl) ?_
  refine lv_iload_n hx hb dX0_isAmbiguous_1 rfl (lv_at hl 1 rfl) ?_
  exact xV (As := [.int a]) (rest := []) hF (tX0_checkLeg hsT a hb9) (Wm.and C0.mv.wm TH.wm) Mv.const ⟨hX, hTH⟩ hX.rc jyX0_checkLeg kl_RX0_72 ⟨rfl, rfl⟩ ⟨Nat.le_of_ble_eq_true rfl, Nat.le_of_ble_eq_true rfl⟩ rfl hl.1 rfl (Nat.le_of_ble_eq_true rfl) ⟨Nat.le_of_ble_eq_true rfl, Nat.le_of_ble_eq_true rfl⟩ hS dX0_isAmbiguous_2 (xOut ht hlocks Mv.const ⟨Nat.le_refl _, Nat.le_refl _⟩)
set_option maxHeartbeats 4000000 in
set_option maxRecDepth 100000 in
theorem tX0_isMended (hsT : l.stackTraces = false) (a : Int32) (hb9 : a < 0 ∨ nI N ≤ a) : XM l yX0_isMended cX0_isMended 2 (some .boolean) ({ frames := 7, cells := 1, slots := 6, locals := 103 } : Room) [.ref (q 0), .int a] (fun U H => C0 D cyI cyZ q (nI N) st v mk w U H ∧ TH (fun _ => False) U H) "java/lang/IndexOutOfBoundsException" (fun _ _ => True) := by
  refine mtx (by decide) (Nat.le_of_ble_eq_true rfl) ?_
  intro p ev s m below meth c ls hF hlocks ht hX hl
  have hF : CallFix p m c cX0_isMended 2 s _ wA RX0 := hF
  obtain ⟨hx, hb, hml, hown, hts⟩ := id hF
  have hTH : TH (fun _ => False) s s.heap := hX.2
  have hX : C0 D cyI cyZ q (nI N) st v mk w s s.heap := hX.1
  have hl : lv_has ls 2 [(0, .ref (q 0)), (1, .int a)] := hl
  have hS : va_S (fun _ => False) s.heap s.heap [] := va_S.rf
  refine lv_aload_n hx hb dX0_isMended_0 rfl (lv_at hl 0 rfl) ?_
  refine lv_iload_n hx hb dX0_isMended_1 rfl (lv_at hl 1 rfl) ?_
  exact xV (As := [.int a]) (rest := []) hF (tX0_checkLeg hsT a hb9) (Wm.and C0.mv.wm TH.wm) Mv.const ⟨hX, hTH⟩ hX.rc jyX0_checkLeg kl_RX0_72 ⟨rfl, rfl⟩ ⟨Nat.le_of_ble_eq_true rfl, Nat.le_of_ble_eq_true rfl⟩ rfl hl.1 rfl (Nat.le_of_ble_eq_true rfl) ⟨Nat.le_of_ble_eq_true rfl, Nat.le_of_ble_eq_true rfl⟩ hS dX0_isMended_2 (xOut ht hlocks Mv.const ⟨Nat.le_refl _, Nat.le_refl _⟩)
set_option maxHeartbeats 4000000 in
set_option maxRecDepth 100000 in
theorem tX0_wordOf (hsT : l.stackTraces = false) (a : Int32) (hb9 : in10 a = false) : XM l yX0_wordOf cX0_wordOf 2 (some .int) ({ frames := 7, cells := 1, slots := 6, locals := 102 } : Room) [.ref (q 0), .int a] (fun U H => C0 D cyI cyZ q (nI N) st v mk w U H ∧ TH (fun _ => False) U H) "java/lang/IndexOutOfBoundsException" (fun _ _ => True) := by
  refine mtx (by decide) (Nat.le_of_ble_eq_true rfl) ?_
  intro p ev s m below meth c ls hF hlocks ht hX hl
  have hF : CallFix p m c cX0_wordOf 2 s _ wA RX0 := hF
  obtain ⟨hx, hb, hml, hown, hts⟩ := id hF
  have hTH : TH (fun _ => False) s s.heap := hX.2
  have hX : C0 D cyI cyZ q (nI N) st v mk w s s.heap := hX.1
  have hl : lv_has ls 2 [(0, .ref (q 0)), (1, .int a)] := hl
  have hS : va_S (fun _ => False) s.heap s.heap [] := va_S.rf
  refine lv_iload_n hx hb dX0_wordOf_0 rfl (lv_at hl 1 rfl) ?_
  exact xS (As := [.int a]) (rest := []) hF (tX0_checkLandmark hsT a hb9) TH.wm Mv.const hTH jyX0_checkLandmark kl_RX0_78 ⟨rfl, rfl⟩ ⟨Nat.le_of_ble_eq_true rfl, Nat.le_of_ble_eq_true rfl⟩ rfl hl.1 rfl (Nat.le_of_ble_eq_true rfl) ⟨Nat.le_of_ble_eq_true rfl, Nat.le_of_ble_eq_true rfl⟩ hS dX0_wordOf_1 (xOut ht hlocks Mv.const ⟨Nat.le_refl _, Nat.le_refl _⟩)
set_option maxHeartbeats 4000000 in
set_option maxRecDepth 100000 in
theorem tX0_bestWord (hsT : l.stackTraces = false) (a : Int32) (hb9 : in10 a = false) : XM l yX0_bestWord cX0_bestWord 6 (some .int) ({ frames := 7, cells := 1, slots := 6, locals := 102 } : Room) [.ref (q 0), .int a] (fun U H => C0 D cyI cyZ q (nI N) st v mk w U H ∧ TH (fun _ => False) U H) "java/lang/IndexOutOfBoundsException" (fun _ _ => True) := by
  refine mtx (by decide) (Nat.le_of_ble_eq_true rfl) ?_
  intro p ev s m below meth c ls hF hlocks ht hX hl
  have hF : CallFix p m c cX0_bestWord 6 s _ wA RX0 := hF
  obtain ⟨hx, hb, hml, hown, hts⟩ := id hF
  have hTH : TH (fun _ => False) s s.heap := hX.2
  have hX : C0 D cyI cyZ q (nI N) st v mk w s s.heap := hX.1
  have hl : lv_has ls 6 [(0, .ref (q 0)), (1, .int a)] := hl
  have hS : va_S (fun _ => False) s.heap s.heap [] := va_S.rf
  refine lv_iload_n hx hb dX0_bestWord_0 rfl (lv_at hl 1 rfl) ?_
  exact xS (As := [.int a]) (rest := []) hF (tX0_checkLandmark hsT a hb9) TH.wm Mv.const hTH jyX0_checkLandmark kl_RX0_78 ⟨rfl, rfl⟩ ⟨Nat.le_of_ble_eq_true rfl, Nat.le_of_ble_eq_true rfl⟩ rfl hl.1 rfl (Nat.le_of_ble_eq_true rfl) ⟨Nat.le_of_ble_eq_true rfl, Nat.le_of_ble_eq_true rfl⟩ hS dX0_bestWord_1 (xOut ht hlocks Mv.const ⟨Nat.le_refl _, Nat.le_refl _⟩)
set_option maxHeartbeats 4000000 in
set_option maxRecDepth 100000 in
theorem tX0_sungWith (hsT : l.stackTraces = false) (a : Int32) (hb9 : in10 a = false) : XM l yX0_sungWith cX0_sungWith 4 (some .int) ({ frames := 7, cells := 1, slots := 6, locals := 102 } : Room) [.ref (q 0), .int a] (fun U H => C0 D cyI cyZ q (nI N) st v mk w U H ∧ TH (fun _ => False) U H) "java/lang/IndexOutOfBoundsException" (fun _ _ => True) := by
  refine mtx (by decide) (Nat.le_of_ble_eq_true rfl) ?_
  intro p ev s m below meth c ls hF hlocks ht hX hl
  have hF : CallFix p m c cX0_sungWith 4 s _ wA RX0 := hF
  obtain ⟨hx, hb, hml, hown, hts⟩ := id hF
  have hTH : TH (fun _ => False) s s.heap := hX.2
  have hX : C0 D cyI cyZ q (nI N) st v mk w s s.heap := hX.1
  have hl : lv_has ls 4 [(0, .ref (q 0)), (1, .int a)] := hl
  have hS : va_S (fun _ => False) s.heap s.heap [] := va_S.rf
  refine lv_iload_n hx hb dX0_sungWith_0 rfl (lv_at hl 1 rfl) ?_
  exact xS (As := [.int a]) (rest := []) hF (tX0_checkWord hsT a hb9) TH.wm Mv.const hTH jyX0_checkWord kl_RX0_126 ⟨rfl, rfl⟩ ⟨Nat.le_of_ble_eq_true rfl, Nat.le_of_ble_eq_true rfl⟩ rfl hl.1 rfl (Nat.le_of_ble_eq_true rfl) ⟨Nat.le_of_ble_eq_true rfl, Nat.le_of_ble_eq_true rfl⟩ hS dX0_sungWith_1 (xOut ht hlocks Mv.const ⟨Nat.le_refl _, Nat.le_refl _⟩)
set_option maxHeartbeats 4000000 in
set_option maxRecDepth 100000 in
theorem tX0_ambiguousWith1 (hsT : l.stackTraces = false) (a b : Int32) (hb9 : in10 a = false) : XM l yX0_ambiguousWith cX0_ambiguousWith 3 (some .int) ({ frames := 7, cells := 1, slots := 6, locals := 102 } : Room) [.ref (q 0), .int a, .int b] (fun U H => C0 D cyI cyZ q (nI N) st v mk w U H ∧ TH (fun _ => False) U H) "java/lang/IndexOutOfBoundsException" (fun _ _ => True) := by
  refine mtx (by decide) (Nat.le_of_ble_eq_true rfl) ?_
  intro p ev s m below meth c ls hF hlocks ht hX hl
  have hF : CallFix p m c cX0_ambiguousWith 3 s _ wA RX0 := hF
  obtain ⟨hx, hb, hml, hown, hts⟩ := id hF
  have hTH : TH (fun _ => False) s s.heap := hX.2
  have hX : C0 D cyI cyZ q (nI N) st v mk w s s.heap := hX.1
  have hl : lv_has ls 3 [(0, .ref (q 0)), (1, .int a), (2, .int b)] := hl
  have hS : va_S (fun _ => False) s.heap s.heap [] := va_S.rf
  refine lv_iload_n hx hb dX0_ambiguousWith_0 rfl (lv_at hl 1 rfl) ?_
  exact xS (As := [.int a]) (rest := []) hF (tX0_checkLandmark hsT a hb9) TH.wm Mv.const hTH jyX0_checkLandmark kl_RX0_78 ⟨rfl, rfl⟩ ⟨Nat.le_of_ble_eq_true rfl, Nat.le_of_ble_eq_true rfl⟩ rfl hl.1 rfl (Nat.le_of_ble_eq_true rfl) ⟨Nat.le_of_ble_eq_true rfl, Nat.le_of_ble_eq_true rfl⟩ hS dX0_ambiguousWith_1 (xOut ht hlocks Mv.const ⟨Nat.le_refl _, Nat.le_refl _⟩)
set_option maxHeartbeats 4000000 in
set_option maxRecDepth 100000 in
theorem tX0_ambiguousWith2 (hsT : l.stackTraces = false) (j : Nat) (hj10 : j < 10) (b : Int32) (hb9 : in10 b = false) : XM l yX0_ambiguousWith cX0_ambiguousWith 3 (some .int) ({ frames := 7, cells := 1, slots := 6, locals := 102 } : Room) [.ref (q 0), .int (nI j), .int b] (fun U H => C0 D cyI cyZ q (nI N) st v mk w U H ∧ TH (fun _ => False) U H) "java/lang/IndexOutOfBoundsException" (fun _ _ => True) := by
  refine mtx (by decide) (Nat.le_of_ble_eq_true rfl) ?_
  intro p ev s m below meth c ls hF hlocks ht hX hl
  have hF : CallFix p m c cX0_ambiguousWith 3 s _ wA RX0 := hF
  obtain ⟨hx, hb, hml, hown, hts⟩ := id hF
  have hTH : TH (fun _ => False) s s.heap := hX.2
  have hX : C0 D cyI cyZ q (nI N) st v mk w s s.heap := hX.1
  have hl : lv_has ls 3 [(0, .ref (q 0)), (1, .int (nI j)), (2, .int b)] := hl
  have hS : va_S (fun _ => False) s.heap s.heap [] := va_S.rf
  refine lv_iload_n hx hb dX0_ambiguousWith_0 rfl (lv_at hl 1 rfl) ?_
  refine cSv (As := [.int (nI j)]) (rest := []) hF (mX0_checkLandmark j (by omega)) Mv.const trivial jyX0_checkLandmark kl_RX0_78 ⟨rfl, rfl⟩ ⟨Nat.le_of_ble_eq_true rfl, Nat.le_of_ble_eq_true rfl⟩ rfl hl.1 rfl (Nat.le_of_ble_eq_true rfl) ⟨Nat.zero_le _, Nat.zero_le _⟩ dX0_ambiguousWith_1 ?_
  refine lv_iload_n hx hb dX0_ambiguousWith_4 rfl (lv_at hl 2 rfl) ?_
  exact xS (As := [.int b]) (rest := []) hF (tX0_checkWord hsT b hb9) TH.wm Mv.const hTH jyX0_checkWord kl_RX0_126 ⟨rfl, rfl⟩ ⟨Nat.le_of_ble_eq_true rfl, Nat.le_of_ble_eq_true rfl⟩ rfl hl.1 rfl (Nat.le_of_ble_eq_true rfl) ⟨Nat.le_of_ble_eq_true rfl, Nat.le_of_ble_eq_true rfl⟩ hS dX0_ambiguousWith_5 (xOut ht hlocks Mv.const ⟨Nat.le_refl _, Nat.le_refl _⟩)
set_option maxHeartbeats 4000000 in
set_option maxRecDepth 100000 in
theorem tX0_mend1 (hsT : l.stackTraces = false) (a : Int32) (hb9 : a < 0 ∨ nI N ≤ a) : XM l yX0_mend cX0_mend 2 (some .int) ({ frames := 7, cells := 1, slots := 6, locals := 103 } : Room) [.ref (q 0), .int a] (fun U H => C0 D cyI cyZ q (nI N) st v mk w U H ∧ TH (fun _ => False) U H) "java/lang/IndexOutOfBoundsException" (fun _ _ => True) := by
  refine mtx (by decide) (Nat.le_of_ble_eq_true rfl) ?_
  intro p ev s m below meth c ls hF hlocks ht hX hl
  have hF : CallFix p m c cX0_mend 2 s _ wA RX0 := hF
  obtain ⟨hx, hb, hml, hown, hts⟩ := id hF
  have hTH : TH (fun _ => False) s s.heap := hX.2
  have hX : C0 D cyI cyZ q (nI N) st v mk w s s.heap := hX.1
  have hl : lv_has ls 2 [(0, .ref (q 0)), (1, .int a)] := hl
  have hS : va_S (fun _ => False) s.heap s.heap [] := va_S.rf
  refine lv_aload_n hx hb dX0_mend_0 rfl (lv_at hl 0 rfl) ?_
  refine lv_iload_n hx hb dX0_mend_1 rfl (lv_at hl 1 rfl) ?_
  exact xV (As := [.int a]) (rest := []) hF (tX0_checkLeg hsT a hb9) (Wm.and C0.mv.wm TH.wm) Mv.const ⟨hX, hTH⟩ hX.rc jyX0_checkLeg kl_RX0_72 ⟨rfl, rfl⟩ ⟨Nat.le_of_ble_eq_true rfl, Nat.le_of_ble_eq_true rfl⟩ rfl hl.1 rfl (Nat.le_of_ble_eq_true rfl) ⟨Nat.le_of_ble_eq_true rfl, Nat.le_of_ble_eq_true rfl⟩ hS dX0_mend_2 (xOut ht hlocks Mv.const ⟨Nat.le_refl _, Nat.le_refl _⟩)
set_option maxHeartbeats 4000000 in
set_option maxRecDepth 100000 in
theorem tX0_mend2 (hsT : l.stackTraces = false) (hok : Ok N st v) (hde : Der N st v w) (i : Nat) (hi : i < N) (hb9 : amb v st mk i = false) : XM l yX0_mend cX0_mend 2 (some .int) ({ frames := 6, cells := 1, slots := 6, locals := 110 } : Room) [.ref (q 0), .int (nI i)] (fun U H => C0 D cyI cyZ q (nI N) st v mk w U H ∧ TH (fun _ => False) U H) "java/lang/IllegalStateException" (fun _ _ => True) := by
  refine mtx (by decide) (Nat.le_of_ble_eq_true rfl) ?_
  intro p ev s m below meth c ls hF hlocks ht hX hl
  have hF : CallFix p m c cX0_mend 2 s _ wA RX0 := hF
  obtain ⟨hx, hb, hml, hown, hts⟩ := id hF
  have hTH : TH (fun _ => False) s s.heap := hX.2
  have hX : C0 D cyI cyZ q (nI N) st v mk w s s.heap := hX.1
  have hl : lv_has ls 2 [(0, .ref (q 0)), (1, .int (nI i))] := hl
  have hS : va_S (fun _ => False) s.heap s.heap [] := va_S.rf
  have hN := hok.1
  refine lv_aload_n hx hb dX0_mend_0 rfl (lv_at hl 0 rfl) ?_
  refine lv_iload_n hx hb dX0_mend_1 rfl (lv_at hl 1 rfl) ?_
  refine cVv (As := [.int (nI i)]) (rest := []) hF (mX0_checkLeg i (by omega) (by omega)) C0.mv hX (C0.rc hX) jyX0_checkLeg kl_RX0_72 ⟨rfl, rfl⟩ ⟨Nat.le_of_ble_eq_true rfl, Nat.le_of_ble_eq_true rfl⟩ rfl hl.1 rfl (Nat.le_of_ble_eq_true rfl) ⟨Nat.zero_le _, Nat.zero_le _⟩ dX0_mend_2 ?_
  refine lv_aload_n hx hb dX0_mend_5 rfl (lv_at hl 0 rfl) ?_
  refine lv_iload_n hx hb dX0_mend_6 rfl (lv_at hl 1 rfl) ?_
  refine cVi (As := [.int (nI i)]) (rest := []) hF (mX0_isAmbiguous hok hde i (by omega)) C0.mv hX (C0.rc hX) jyX0_isAmbiguous kl_RX0_139 ⟨rfl, rfl⟩ ⟨Nat.le_of_ble_eq_true rfl, Nat.le_of_ble_eq_true rfl⟩ rfl hl.1 rfl (Nat.le_of_ble_eq_true rfl) ⟨Nat.zero_le _, Nat.zero_le _⟩ dX0_mend_7 (fun r hr9 => ?_)
  subst hr9
  refine lv_if_ne (tgt := 23) hx hb dX0_mend_10 (by decide) (fun c10 => ?_) (fun c10 => ?_)
  · have c10b := b2i_t c10
    exact absurd hb9 (by rw [c10b]; decide)
  · have c10b := b2i_f c10
    exact xThrow hF hsT hTH ht hlocks Mv.const trivial (fun _ _ _ => trivial) hS hl.1 (ik := 62) (is := 142) (ic := 66) (by decide +kernel) kc_RX0_62 kn_IllegalStateException exG1 exB1 exO1 (by decide) dX0_mend_13 dX0_mend_16 dX0_mend_17 dX0_mend_19 dX0_mend_22 ⟨Nat.le_of_ble_eq_true rfl, Nat.le_of_ble_eq_true rfl, Nat.le_of_ble_eq_true rfl, Nat.le_of_ble_eq_true rfl⟩ ⟨Nat.le_refl _, Nat.le_refl _⟩
set_option maxHeartbeats 4000000 in
set_option maxRecDepth 100000 in
theorem tX0_mendTo (hsT : l.stackTraces = false) (a : Int32) (hb9 : a < 1 ∨ 1000000 < a) : XM l yX0_mendTo cX0_mendTo 4 (some .int) ({ frames := 6, cells := 1, slots := 6, locals := 82 } : Room) [.ref (q 0), .int a] (fun U H => C0 D cyI cyZ q (nI N) st v mk w U H ∧ TH (fun _ => False) U H) "java/lang/IllegalArgumentException" (fun _ _ => True) := by
  refine mtx (by decide) (Nat.le_of_ble_eq_true rfl) ?_
  intro p ev s m below meth c ls hF hlocks ht hX hl
  have hF : CallFix p m c cX0_mendTo 4 s _ wA RX0 := hF
  obtain ⟨hx, hb, hml, hown, hts⟩ := id hF
  have hTH : TH (fun _ => False) s s.heap := hX.2
  have hX : C0 D cyI cyZ q (nI N) st v mk w s s.heap := hX.1
  have hl : lv_has ls 4 [(0, .ref (q 0)), (1, .int a)] := hl
  have hS : va_S (fun _ => False) s.heap s.heap [] := va_S.rf
  refine lv_iload_n hx hb dX0_mendTo_0 rfl (lv_at hl 1 rfl) ?_
  refine lv_iconst (v := 1) hx hb dX0_mendTo_1 (by decide) ?_
  refine lv_icmp_lt (tgt := 11) hx hb dX0_mendTo_2 (by decide) (fun c2 => ?_) (fun c2 => ?_)
  · exact xThrow hF hsT hTH ht hlocks Mv.const trivial (fun _ _ _ => trivial) hS hl.1 (ik := 46) (is := 148) (ic := 50) (by decide +kernel) kc_RX0_46 kn_IllegalArgumentException exG0 exB0 exO0 (by decide) dX0_mendTo_11 dX0_mendTo_14 dX0_mendTo_15 dX0_mendTo_17 dX0_mendTo_20 ⟨Nat.le_of_ble_eq_true rfl, Nat.le_of_ble_eq_true rfl, Nat.le_of_ble_eq_true rfl, Nat.le_of_ble_eq_true rfl⟩ ⟨Nat.le_refl _, Nat.le_refl _⟩
  · refine lv_iload_n hx hb dX0_mendTo_5 rfl (lv_at hl 1 rfl) ?_
    refine lv_ldc hx hb hown (hts _ kk_RX0_147) dX0_mendTo_6 ?_
    refine lv_icmp_le (tgt := 21) hx hb dX0_mendTo_8 (by decide) (fun c8 => ?_) (fun c8 => ?_)
    · exact (hb9.elim (fun h => absurd h c2) (fun h => absurd c8 (Int32.not_le.mpr h)))
    · exact xThrow hF hsT hTH ht hlocks Mv.const trivial (fun _ _ _ => trivial) hS hl.1 (ik := 46) (is := 148) (ic := 50) (by decide +kernel) kc_RX0_46 kn_IllegalArgumentException exG0 exB0 exO0 (by decide) dX0_mendTo_11 dX0_mendTo_14 dX0_mendTo_15 dX0_mendTo_17 dX0_mendTo_20 ⟨Nat.le_of_ble_eq_true rfl, Nat.le_of_ble_eq_true rfl, Nat.le_of_ble_eq_true rfl, Nat.le_of_ble_eq_true rfl⟩ ⟨Nat.le_refl _, Nat.le_refl _⟩
end P30
