/-! THROWS: what a throw needs of the state, the start of a method that throws, calls of such ones -/
abbrev exNs : List String := ["java/lang/RuntimeException", "java/lang/Exception"]
/-- a picture that the machine's own changes leave, the Strings' entries among them -/
def Wm (X : State → Heap → Prop) : Prop := ∀ (u U : State) (H : Heap), (U.vm = u.vm ∨ u.WarmedH U.vm) → X u H → X U H
theorem Mv.wm {X : State → Heap → Prop} (h : Mv X) : Wm X := fun u U H a hX => h u U H (a.elim (fun e => by rw [e]; exact Vm.Alike.refl _) (fun e => e.alike)) hX
theorem Wm.and {X Y : State → Heap → Prop} (h1 : Wm X) (h2 : Wm Y) : Wm (fun U H => X U H ∧ Y U H) := fun u U H a h => ⟨h1 u U H a h.1, h2 u U H a h.2⟩
theorem wmBlind {X : State → Heap → Prop} {av : List Value} (h : Wm X) : FrameBlind (va_Pc av (fun U => X U U.heap)) := by
  intro a U g mk q
  exact ⟨q.1, h U (U.calling g mk a) U.heap (Or.inl rfl) q.2⟩
theorem wmPre {X : State → Heap → Prop} {s U : State} {H : Heap} {av : List Value} (h : Wm X) (hX : X s H) (hU : U.heap = H) (hW : s.WarmedH U.vm) : va_Pc av (fun U => X U U.heap) av.toArray U := by
  refine ⟨rfl, ?_⟩
  show X U U.heap
  rw [hU]
  exact h s U H (Or.inr hW) hX
/-- the words of a throw that are no good ones -/
def exW : List Cond := [.castable "java/lang/IllegalArgumentException" "java/lang/IllegalArgumentException", .castable "java/lang/IllegalStateException" "java/lang/IllegalStateException", .castable "java/lang/IndexOutOfBoundsException" "java/lang/IndexOutOfBoundsException",
  .declares (Bundle.initS "java/lang/RuntimeException"), .declares (Bundle.initS "java/lang/Exception"), .declares (Bundle.initS Bundle.tN)]
/-- the texts -/
def exT : Nat → String
  | 213 => "there is no such leg" | 57 => "a landmark is 0 to 9" | 208 => "a turn is -3 to 3" | 48 => "a length is 1 to 9" | 64 => "a way has at most 16 legs"
  | 70 => "there is no leg" | 84 => "a word is 0 to 9" | 86 => "a step is 1 to 4" | 142 => "the verse is not ambiguous" | _ => "to mend to are 1 to 1000000 ways"
def exI : List Nat := [213, 57, 208, 48, 64, 70, 84, 86, 142, 148]
/-- what a throw needs: the two statics, the words, the texts -/
def TH (A : Nat → Prop) (U : State) (H : Heap) : Prop :=
  (vx_Zq Bundle.tN "UNASSIGNED_STACK" Bundle.steD A U H ∧ vx_Zq Bundle.tN "SUPPRESSED_SENTINEL" Bundle.listD A U H) ∧ (∀ w ∈ exW, w.before #[] U = true) ∧ ∀ k ∈ exI, ∃ a, vk_R RX0 k (exT k) a U
theorem TH.wm {A : Nat → Prop} : Wm (TH A) := by
  intro u U H h hX
  obtain ⟨⟨h1, h2⟩, h3, h4⟩ := hX
  have hA : u.vm.Alike U.vm := h.elim (fun e => by rw [e]; exact Vm.Alike.refl _) (fun e => e.alike)
  refine ⟨⟨h1.moved hA, h2.moved hA⟩, fun w hw => ?_, fun k hk => ?_⟩
  · have h9 := h3 w hw
    have hW9 : ∀ x : Cond, x.onTables = true → x.before #[] (u.setVm U.vm) = true → x.before #[] U = true := fun x hx hb => va_tabs hx (rfl : (u.setVm U.vm).vm = U.vm) hb
    simp only [exW, List.mem_cons, List.not_mem_nil, or_false] at hw
    rcases hw with e | e | e | e | e | e <;> subst e
    · exact hW9 _ rfl (by rw [Cond.castable_setVm hA]; exact h9)
    · exact hW9 _ rfl (by rw [Cond.castable_setVm hA]; exact h9)
    · exact hW9 _ rfl (by rw [Cond.castable_setVm hA]; exact h9)
    · exact hW9 _ rfl (by rw [Cond.declares_setVm hA]; exact h9)
    · exact hW9 _ rfl (by rw [Cond.declares_setVm hA]; exact h9)
    · exact hW9 _ rfl (by rw [Cond.declares_setVm hA]; exact h9)
  · obtain ⟨a, ha⟩ := h4 k hk
    exact ⟨a, h.elim (fun e => vk_R.same e ha) (fun e => vk_R.warm e ha)⟩
theorem TH.kept {A : Nat → Prop} {U : State} {H H1 : Heap} (h : TH A U H) (hq : ∀ a : Nat, a < H.size → ¬ A a → H1[a]? = H[a]?) : TH A U H1 := ⟨⟨h.1.1.kept hq, h.1.2.kept hq⟩, h.2⟩
theorem TH.narrow {A B : Nat → Prop} {U : State} {H : Heap} (h : TH A U H) (hAB : ∀ q, B q → A q) : TH B U H := ⟨⟨h.1.1.narrow hAB, h.1.2.narrow hAB⟩, h.2⟩
theorem exG0 : ∀ w ∈ (vx_atS RX0 50 "java/lang/IllegalArgumentException" exNs).filter goodWord, w ∈ lw_tbl := by decide +kernel
theorem exG1 : ∀ w ∈ (vx_atS RX0 66 "java/lang/IllegalStateException" exNs).filter goodWord, w ∈ lw_tbl := by decide +kernel
theorem exG2 : ∀ w ∈ (vx_atS RX0 212 "java/lang/IndexOutOfBoundsException" exNs).filter goodWord, w ∈ lw_tbl := by decide +kernel
theorem exB0 : ∀ w ∈ (vx_atS RX0 50 "java/lang/IllegalArgumentException" exNs).filter (fun w => !goodWord w), w ∈ exW := by decide +kernel
theorem exB1 : ∀ w ∈ (vx_atS RX0 66 "java/lang/IllegalStateException" exNs).filter (fun w => !goodWord w), w ∈ exW := by decide +kernel
theorem exB2 : ∀ w ∈ (vx_atS RX0 212 "java/lang/IndexOutOfBoundsException" exNs).filter (fun w => !goodWord w), w ∈ exW := by decide +kernel
theorem exO0 : ∀ w ∈ Cond.classLink RX0 46 "java/lang/IllegalArgumentException" :: Cond.initialized "java/lang/IllegalArgumentException" :: vx_atS RX0 50 "java/lang/IllegalArgumentException" exNs, vx_ot w = true := by decide +kernel
theorem exO1 : ∀ w ∈ Cond.classLink RX0 62 "java/lang/IllegalStateException" :: Cond.initialized "java/lang/IllegalStateException" :: vx_atS RX0 66 "java/lang/IllegalStateException" exNs, vx_ot w = true := by decide +kernel
theorem exO2 : ∀ w ∈ Cond.classLink RX0 210 "java/lang/IndexOutOfBoundsException" :: Cond.initialized "java/lang/IndexOutOfBoundsException" :: vx_atS RX0 212 "java/lang/IndexOutOfBoundsException" exNs, vx_ot w = true := by decide +kernel
theorem exHat {args : Array Value} {s : State} {L : List Cond} (hts : ∀ w ∈ wA, w.before args s = true) (hg : ∀ w ∈ L.filter goodWord, w ∈ lw_tbl) (hb : ∀ w ∈ L.filter (fun w => !goodWord w), w ∈ exW) (hw : ∀ w ∈ exW, w.before #[] s = true) : ∀ w ∈ L, w.before args s = true :=
  vx_hat (fun w h => hts w (List.mem_filter.mpr ⟨hg w h, (List.mem_filter.mp h).2⟩)) hb (fun w h => by
    have h9 := hw w h
    simp only [exW, List.mem_cons, List.not_mem_nil, or_false] at h
    rcases h with e | e | e | e | e | e <;> subst e <;> exact va_tabs rfl rfl h9)
/-- what a method that always throws owes: E, and the picture X1 behind; nothing old is written -/
abbrev XQ : Array Value → State → Outcome → State → Prop := fun a => va_Qv (fun _ : Unit => False) (fun _ _ => True) (fun _ => False) a
abbrev XC (E : String) (X1 : State → Heap → Prop) : String → State → State → Prop := vx_X (fun _ : Unit => True) (fun E9 _ t => E9 = E ∧ X1 t t.heap) (fun _ => False)
abbrev XM (l : Launch) (y : MethodName) (cc : ByteArray) (n : Nat) (r : Option FieldType) (rm : Room) (av : List Value) (X : State → Heap → Prop) (E : String) (X1 : State → Heap → Prop) : Prop :=
  vx_Met l y (wm y cc n r) rm (va_Pc av (fun U => X U U.heap)) XQ (XC E X1) 1 6 (fun _ => False)
theorem mtx {l : Launch} {y : MethodName} {cc : ByteArray} {maxL : Nat} {ret : Option FieldType} {rm : Room} {av : List Value} {X : State → Heap → Prop} {E : String} {X1 : State → Heap → Prop}
    (hy : plainName y.cls = true) (hsz : (lg_sl av).length ≤ maxL)
    (body : ∀ (p : Program) (e : Env) (s : State) (m : MethodId) (below : List Frame) (meth : Method) (c : Code) (ls : Array Slot), CallFix p m c cc maxL s av.toArray wA y.cls → meth.locks = false → (∀ x ∈ c.exceptionTable.toList, False) → X s s.heap → lv_has ls maxL (lv_args 0 av) →
      W p l e rm s m av.toArray below meth c s.heap [] 0 0 (vx_MQ below XQ (XC E X1) av.toArray s 1 6 (fun _ => False)) (F0 m 0 ls [])) : XM l y cc maxL ret rm av X E X1 := by
  refine vx_ofW (cc := cc) (maxL := maxL) (ret := ret) hy rfl ?_
  intro p e s m args below meth c s₁ B hml ht hv
  obtain ⟨rfl, hp⟩ := hv
  have hts := atoms_spec (ws := wm y cc maxL ret) B.pre
  have hl := lv_entry av hsz
  rw [lg_entry_eq]
  exact body p e s m below meth c _ ⟨B.exec, B.bytes, hml, findClass_of_methodNamed B.named, fun w h => hts w (List.mem_cons_of_mem _ h)⟩ B.notSynchronized ht hp hl
section THR
variable {p : Program} {l : Launch} {e : Env} {R : Room} {s : State} {m : MethodId} {args : Array Value} {below : List Frame} {meth : Method} {c : Code} {H : Heap} {locs : List Loc} {cells slots : Nat} {Q : State → Prop}
variable {cc : ByteArray} {nL pc idx k maxL : Nat} {ls : Array Slot} {own C E : String} {y : MethodName} {bytes : ByteArray} {ret : Option FieldType} {rm : Room} {b : Addr} {As rest st0 : List Value} {X X1 : State → Heap → Prop} {A0 : Nat → Prop} {H0 : Heap} {av : List Value}
abbrev KX (p : Program) (l : Launch) (e : Env) (R : Room) (s : State) (m : MethodId) (args : Array Value) (below : List Frame) (meth : Method) (c : Code) (H : Heap) (cells slots : Nat) (Q : State → Prop) (pc : Nat) (ls : Array Slot) (rest : List Value) (A0 : Nat → Prop) (H0 : Heap) (E : String) (X1 : State → Heap → Prop) : Prop :=
  ∀ (ce : Cell) (q9 : Addr) (H1 : Heap) (locs1 : List Loc), X1 s H1 → H.size ≤ H1.size → (∀ q : Nat, q < H.size → H1[q]? = H[q]?) → va_S A0 H0 H1 locs1 → H1[q9]? = some ce → ce.vm = .none → s.vm.findClass E = some ce.cls → vx_W p l e R s m args below meth c H1 locs1 (cells + 1) (slots + 6) Q (F0 m pc ls rest) q9
theorem xV (hF : CallFix p m c cc nL s args wA own) (hM : XM l y bytes maxL ret rm (.ref b :: As) X E X1) (hmv : Wm X) (hmv1 : Mv X1) (hX : X s H) (hrc : Rc C b s H) (hi : IM C y bytes maxL ret k) (hlk : Cond.methodLink own idx y ∈ wA)
    (h0 : rm.cells = 1 ∧ rm.slots = 6) (hR : rm.frames + 1 ≤ R.frames ∧ 8 + (maxL + 11) + rm.locals ≤ R.locals) (hk : As.length = k) (hsz : ls.size = nL) (hst : st0 = As.reverse ++ .ref b :: rest) (hW : (rest.map fun v => v.category).sum ≤ 8) (hcs : cells + 1 ≤ R.cells ∧ slots + 6 ≤ R.slots) (hS : va_S A0 H0 H locs) (hdg : decode cc pc = .ok (.invokevirtual idx, 3))
    (kx : KX p l e R s m args below meth c H cells slots Q pc ls rest A0 H0 E X1) : W p l e R s m args below meth c H locs cells slots Q (F0 m pc ls st0) :=
  vx_callv (vx_runV hF hM (cwV k hF.2.2.2.2 (gV hlk hi.1) rfl h0.1 h0.2 hi.2 hR) ⟨wmBlind hmv, hrc, fun U hU hW => wmPre hmv hX hU hW⟩ rfl hk hsz hst (lv_room hW) hdg hcs) hS (fun _ _ h => h.elim) (fun _ h => h.elim) (fun _ _ h => h.elim)
    (fun E9 ce q9 _ t H1 locs1 ht hvm _ hB hz hk1 hS1 hce hcv hcl => by
      obtain ⟨rfl, hB⟩ := hB
      subst ht
      exact kx ce q9 t.heap locs1 (hmv1 t s t.heap hvm.symm hB) hz (fun q hq => hk1 q hq (fun h => h)) hS1 hce hcv hcl)
    (fun _ _ _ _ _ _ h => h.elim)
theorem xS (hF : CallFix p m c cc nL s args wA own) (hM : XM l y bytes maxL ret rm As X E X1) (hmv : Wm X) (hmv1 : Mv X1) (hX : X s H) (hi : SM y bytes maxL ret k) (hlk : Cond.methodLink own idx y ∈ wA)
    (h0 : rm.cells = 1 ∧ rm.slots = 6) (hR : rm.frames + 1 ≤ R.frames ∧ 8 + (maxL + 11) + rm.locals ≤ R.locals) (hk : As.length = k) (hsz : ls.size = nL) (hst : st0 = As.reverse ++ rest) (hW : (rest.map fun v => v.category).sum ≤ 8) (hcs : cells + 1 ≤ R.cells ∧ slots + 6 ≤ R.slots) (hS : va_S A0 H0 H locs) (hdg : decode cc pc = .ok (.invokestatic idx, 3))
    (kx : KX p l e R s m args below meth c H cells slots Q pc ls rest A0 H0 E X1) : W p l e R s m args below meth c H locs cells slots Q (F0 m pc ls st0) :=
  vx_callv (vx_runS hF hM (va_cwS k hF.2.2.2.2 (gS hlk hi.1) rfl h0.1 h0.2 hi.2 hR) ⟨wmBlind hmv, fun U hU hW => wmPre hmv hX hU hW⟩ rfl hk hsz hst (lv_room hW) hdg hcs) hS (fun _ _ h => h.elim) (fun _ h => h.elim) (fun _ _ h => h.elim)
    (fun E9 ce q9 _ t H1 locs1 ht hvm _ hB hz hk1 hS1 hce hcv hcl => by
      obtain ⟨rfl, hB⟩ := hB
      subst ht
      exact kx ce q9 t.heap locs1 (hmv1 t s t.heap hvm.symm hB) hz (fun q hq => hk1 q hq (fun h => h)) hS1 hce hcv hcl)
    (fun _ _ _ _ _ _ h => h.elim)
/-- it goes on to the caller -/
theorem xOut (ht : ∀ x ∈ c.exceptionTable.toList, False) (hlocks : meth.locks = false) (hmv1 : Mv X1) (hf : cells ≤ 0 ∧ slots ≤ 0) : KX p l e R s m args below meth c H cells slots (vx_MQ below XQ (XC E X1) args s 1 6 (fun _ => False)) pc ls rest (fun _ => False) s.heap E X1 := by
  intro ce q9 H1 locs1 hX hz hk hS hce hcv hcl
  exact vx_out (fun x hx => (ht x hx).elim) hlocks hce hcv hcl (fun t ht9 hA => ⟨(), trivial, ⟨rfl, by rw [ht9]; exact hmv1 s t H1 hA hX⟩, hS.F ht9⟩) hS.2.2 (by omega) (by omega)
/-- a throw of its own -/
theorem xThrow (hF : CallFix p m c cc nL s args wA RX0) (hl : l.stackTraces = false) (hTH : TH (fun _ => False) s s.heap) (ht : ∀ x ∈ c.exceptionTable.toList, False) (hlocks : meth.locks = false) (hmv1 : Mv X1) (hX : X1 s H) (hX1 : ∀ H1 : Heap, H.size ≤ H1.size → (∀ q : Nat, q < H.size → H1[q]? = H[q]?) → X1 s H1) (hS : va_S (fun _ => False) s.heap H locs) (hsz : ls.size = nL)
    {ik is ic : Nat} (hcls : Bundle.fit E = true) (hk : Cond.classLink RX0 ik E ∈ wA) (hini : Cond.initialized E ∈ wA) (hg : ∀ w ∈ (vx_atS RX0 ic E exNs).filter goodWord, w ∈ lw_tbl) (hb9 : ∀ w ∈ (vx_atS RX0 ic E exNs).filter (fun w => !goodWord w), w ∈ exW)
    (ho : ∀ w ∈ Cond.classLink RX0 ik E :: Cond.initialized E :: vx_atS RX0 ic E exNs, vx_ot w = true) (his : is ∈ exI)
    (d0 : decode cc pc = .ok (.new ik, 3)) (d3 : decode cc (pc + 3) = .ok (.dup, 1)) (d4 : decode cc (pc + 4) = .ok (.ldc is, 2)) (d6 : decode cc (pc + 6) = .ok (.invokespecial ic, 3)) (d9 : decode cc (pc + 9) = .ok (.athrow, 1))
    (hR : 5 < R.frames ∧ (rest.map fun v => v.category).sum + 82 ≤ R.locals ∧ cells + 1 ≤ R.cells ∧ slots + 6 ≤ R.slots) (hf : cells ≤ 0 ∧ slots ≤ 0) :
    W p l e R s m args below meth c H locs cells slots (vx_MQ below XQ (XC E X1) args s 1 6 (fun _ => False)) (F0 m pc ls rest) := by
  obtain ⟨hx, hb, hml, hown, hts⟩ := hF
  obtain ⟨sa, hstr⟩ := hTH.2.2 is his
  exact vx_throwS hx hb hl hown hcls (by decide +kernel) (hts _ hk) (hts _ hini) hstr (exHat hts hg hb9 hTH.2.1) ho hTH.1.1 hTH.1.2 hS (hsz.trans hml.symm) d0 d3 d4 d6 d9 (fun x h9 => (ht x h9).elim) hR.1 hR.2.1 hR.2.2.1 hR.2.2.2 hlocks
    (fun t hA hz hk1 => ⟨(), trivial, ⟨rfl, hmv1 s t t.heap hA (hX1 t.heap hz hk1)⟩, ⟨Nat.le_trans hS.1 hz, fun q h1 h2 => by rw [hk1 q (Nat.lt_of_lt_of_le h1 hS.1)]; exact hS.2.1 q h1 h2⟩⟩) hS.2.2 (by omega) (by omega)
end THR

section P30
variable {l : Launch} {D : va_G} {cyI cyZ : ClassId} {q : Nat → Nat} {N K : Nat} {n st th md : Int32} {v w : Nat → Nat → Int32} {mk : Nat → Bool}
set_option maxHeartbeats 4000000 in
set_option maxRecDepth 100000 in
theorem tX0_mend2 (hsT : l.stackTraces = false) (hok : Ok N st v) (hde : Der N st v w) (i : Nat) (hi : i < N) (hb9 : amb v st mk i = false) : XM l yX0_mend cX0_mend 2 (some .int) ({ frames := 6, cells := 1, slots := 6, locals := 110 } : Room) [.ref (q 0), .int (nI i)] (fun U H => C0 D cyI cyZ q (nI N) st v mk w U H ∧ TH (fun _ => False) U H) "java/lang/IllegalStateException" (fun _ _ => True) := by
  refine mtx (by decide) (Nat.le_of_ble_eq_true rfl) ?_
  intro p ev s m below meth c ls hF hlocks ht hX hl
  have hF : CallFix p m c cX0_mend 2 s _ wA RX0 := hF
  obtain ⟨hx, hb, hml, hown, hts⟩ := id hF
  have hTH : TH (fun _ => False) s s.heap := hX.2
  have hX : C0 D cyI cyZ q (nI N) st v mk w s s.heap := hX.1
  have hl : lv_has ls 2 [(0, .ref (q 0)), (1, .int (nI i))] := hl
  have hS : va_S (fun _ => False) s.heap s.heap [] := va_S.rf
  have hN := hok.1
  refine lv_aload_n hx hb dX0_mend_0 rfl (lv_at hl 0 rfl) ?_
  refine lv_iload_n hx hb dX0_mend_1 rfl (lv_at hl 1 rfl) ?_
  refine cVv (As := [.int (nI i)]) (rest := []) hF (mX0_checkLeg i (by omega) (by omega)) C0.mv hX (C0.rc hX) jyX0_checkLeg kl_RX0_72 ⟨rfl, rfl⟩ ⟨Nat.le_of_ble_eq_true rfl, Nat.le_of_ble_eq_true rfl⟩ rfl hl.1 rfl (Nat.le_of_ble_eq_true rfl) ⟨Nat.zero_le _, Nat.zero_le _⟩ dX0_mend_2 ?_
  refine lv_aload_n hx hb dX0_mend_5 rfl (lv_at hl 0 rfl) ?_
  refine lv_iload_n hx hb dX0_mend_6 rfl (lv_at hl 1 rfl) ?_
  refine cVi (As := [.int (nI i)]) (rest := []) hF (mX0_isAmbiguous hok hde i (by omega)) C0.mv hX (C0.rc hX) jyX0_isAmbiguous kl_RX0_139 ⟨rfl, rfl⟩ ⟨Nat.le_of_ble_eq_true rfl, Nat.le_of_ble_eq_true rfl⟩ rfl hl.1 rfl (Nat.le_of_ble_eq_true rfl) ⟨Nat.zero_le _, Nat.zero_le _⟩ dX0_mend_7 (fun r hr9 => ?_)
  subst hr9
  refine lv_if_ne (tgt := 23) hx hb dX0_mend_10 (by decide) (fun c10 => ?_) (fun c10 => ?_)
  · have c10b := b2i_t c10
    exact absurd hb9 (by rw [c10b]; decide)
  · have c10b := b2i_f c10
    exact xThrow hF hsT hTH ht hlocks Mv.const trivial (fun _ _ _ => trivial) hS hl.1 (ik := 62) (is := 142) (ic := 66) (by decide +kernel) kc_RX0_62 kn_IllegalStateException exG1 exB1 exO1 (by decide) dX0_mend_13 dX0_mend_16 dX0_mend_17 dX0_mend_19 dX0_mend_22 ⟨Nat.le_of_ble_eq_true rfl, Nat.le_of_ble_eq_true rfl, Nat.le_of_ble_eq_true rfl, Nat.le_of_ble_eq_true rfl⟩ ⟨Nat.le_refl _, Nat.le_refl _⟩
end P30
/-! WRAPPERS of the law: methods with an exception table -/
def wmW (y : MethodName) (c : ByteArray) (n : Nat) (r : Option FieldType) (hh : List (Nat × Nat × Nat × Nat)) : List Cond := .codeWith y c n r hh :: wA
theorem gmW {y : MethodName} {c : ByteArray} {n : Nat} {r : Option FieldType} {hh : List (Nat × Nat × Nat × Nat)} (h : Cond.codeWith y c n r hh ∈ wA) : GoodIn wA (wmW y c n r hh) := by
  intro w hw
  rcases List.mem_cons.mp hw with e | hw
  · rw [e]; exact gA _ h
  · exact gA _ hw
abbrev SMW (y : MethodName) (c : ByteArray) (n : Nat) (r : Option FieldType) (hh : List (Nat × Nat × Nat × Nat)) (k : Nat) : Prop :=
  (Cond.static y ∈ wA ∧ Cond.initialized y.cls ∈ wA ∧ Cond.codeWith y c n r hh ∈ wA) ∧ (y.cls ≠ "java/lang/invoke/MethodHandle" ∧ y.cls ≠ "java/lang/invoke/VarHandle" ∧ (parseMethodDescriptor y.desc).map (fun d => d.parameters.length) = some k)
theorem gSW {own : String} {idx : Nat} {y : MethodName} {c : ByteArray} {n : Nat} {r : Option FieldType} {hh : List (Nat × Nat × Nat × Nat)} (h1 : Cond.methodLink own idx y ∈ wA) (h : Cond.static y ∈ wA ∧ Cond.initialized y.cls ∈ wA ∧ Cond.codeWith y c n r hh ∈ wA) : GoodIn wA (va_wsS own idx y (wmW y c n r hh)) := by
  intro w hw
  unfold va_wsS at hw
  rcases List.mem_append.mp hw with hw | hw
  · simp only [List.mem_cons, List.not_mem_nil, or_false] at hw
    rcases hw with e | e | e <;> rw [e]
    · exact gA _ h1
    · exact gA _ h.1
    · exact gA _ h.2.1
  · exact gmW h.2.2 _ hw
theorem mtW {l : Launch} {y : MethodName} {cc : ByteArray} {maxL : Nat} {ret : Option FieldType} {hh : List (Nat × Nat × Nat × Nat)} {rm : Room} {av : List Value} {Pre : State → Prop} {Qc : Array Value → State → Outcome → State → Prop} {mc ms : Nat} {free : Addr → Prop}
    (hy : plainName y.cls = true) (hsz : (lg_sl av).length ≤ maxL)
    (body : ∀ (p : Program) (e : Env) (s : State) (m : MethodId) (below : List Frame) (meth : Method) (c : Code) (ls : Array Slot), CallFix p m c cc maxL s av.toArray wA y.cls → meth.sig.returnType = ret → meth.locks = false → c.exceptionTable.toList = tableOf hh → Pre s → lv_has ls maxL (lv_args 0 av) →
      W p l e rm s m av.toArray below meth c s.heap [] 0 0 (MQ below Qc av.toArray s mc ms free) (F0 m 0 ls [])) : Met l y (wmW y cc maxL ret hh) rm (va_Pc av Pre) Qc mc ms free := by
  refine va_MetW (cc := cc) (maxL := maxL) (ret := ret) (hh := hh) hy rfl ?_
  intro p e s m args below meth c s₁ B hml hv
  obtain ⟨rfl, hp⟩ := hv
  have hts := atoms_spec (ws := wmW y cc maxL ret hh) B.pre
  have hl := lv_entry av hsz
  rw [lg_entry_eq]
  exact body p e s m below meth c _ ⟨B.exec, B.bytes, hml, findClass_of_methodNamed B.named, fun w h => hts w (List.mem_cons_of_mem _ h)⟩ B.returns B.notSynchronized (vx_table (x := y) B (hts _ List.mem_cons_self)) hp hl

section LAWR
variable {p : Program} {l : Launch} {e : Env} {R : Room} {s : State} {m : MethodId} {args : Array Value} {below : List Frame} {meth : Method} {c : Code} {H : Heap} {locs : List Loc} {cells slots : Nat} {Q : State → Prop}
variable {cc : ByteArray} {nL pc idx k maxL : Nat} {ls : Array Slot} {own : String} {y : MethodName} {bytes : ByteArray} {ret : Option FieldType} {hh : List (Nat × Nat × Nat × Nat)} {rm : Room} {As rest st0 : List Value} {X : State → Heap → Prop}
variable {σ : Type} {X1 : σ → State → Heap → Prop} {Y1 : σ → Nat → State → Heap → Prop} {A0 A1 : Nat → Prop} {H0 : Heap} {mc ms : Nat} {free : Addr → Prop}
theorem exCast {w : Cond} (hw : w ∈ exW) {A : Nat → Prop} (h : TH A s H) (hon : w.onTables = true) : w.before args s = true := va_tabs hon rfl (h.2.1 w hw)

theorem wSWi {post : Int32 → σ → Prop} (hF : CallFix p m c cc nL s args wA own) (hM : Met l y (wmW y bytes maxL ret hh) rm (va_Pc As (fun U => X U U.heap)) (va_Qi post (fun u U => X1 u U U.heap) A1) mc ms free) (hmv : Wm X) (hmv1 : ∀ u, Mv (X1 u)) (hX : X s H) (hi : SMW y bytes maxL ret hh k) (hlk : Cond.methodLink own idx y ∈ wA)
    (h0 : rm.cells = mc ∧ rm.slots = ms) (hR : rm.frames + 1 ≤ R.frames ∧ 8 + (maxL + 11) + rm.locals ≤ R.locals) (hk : As.length = k) (hsz : ls.size = nL) (hst : st0 = As.reverse ++ rest) (hW : (rest.map fun v => v.category).sum ≤ 8) (hcs : cells + mc ≤ R.cells ∧ slots + ms ≤ R.slots) (hS : va_S A0 H0 H locs) (hA : ∀ q, q < H.size → A1 q → A0 q) (hf : ∀ q, free q → A0 q) (hdg : decode cc pc = .ok (.invokestatic idx, 3))
    (kk : ∀ (r : Int32) (u : σ) (H1 : Heap) (locs1 : List Loc), post r u → X1 u s H1 → H.size ≤ H1.size → (∀ q : Nat, q < H.size → ¬ A1 q → H1[q]? = H[q]?) → va_S A0 H0 H1 locs1 → W p l e R s m args below meth c H1 locs1 (cells + mc) (slots + ms) Q (F0 m (pc + 3) ls (.int r :: rest))) : W p l e R s m args below meth c H locs cells slots Q (F0 m pc ls st0) :=
  va_calli (vx_runSW hF hM (vx_cwSW k hF.2.2.2.2 (gSW hlk hi.1) rfl h0.1 h0.2 hi.2 hR) ⟨wmBlind hmv, fun U hU hW => wmPre hmv hX hU hW⟩ rfl hk hsz hst (lv_room hW) hdg hcs) hS hA hf
    (fun r u t H1 locs1 ht hvm hp hB hz hk1 hS1 => kk r u H1 locs1 hp (by subst ht; exact hmv1 u t s t.heap hvm.symm hB) hz hk1 hS1)

theorem wSrW {post : σ → Prop} (hF : CallFix p m c cc nL s args wA own) (hM : Met l y (wm y bytes maxL ret) rm (va_Pc As (fun U => X U U.heap)) (va_Qr post (fun u a U => Y1 u a U U.heap) A1) mc ms free) (hmv : Wm X) (hmv1 : ∀ u a, Mv (Y1 u a)) (hX : X s H) (hi : SM y bytes maxL ret k) (hlk : Cond.methodLink own idx y ∈ wA)
    (h0 : rm.cells = mc ∧ rm.slots = ms) (hR : rm.frames + 1 ≤ R.frames ∧ 8 + (maxL + 11) + rm.locals ≤ R.locals) (hk : As.length = k) (hsz : ls.size = nL) (hst : st0 = As.reverse ++ rest) (hW : (rest.map fun v => v.category).sum ≤ 8) (hcs : cells + mc ≤ R.cells ∧ slots + ms ≤ R.slots) (hS : va_S A0 H0 H locs) (hA : ∀ q, q < H.size → A1 q → A0 q) (hf : ∀ q, free q → A0 q) (hdg : decode cc pc = .ok (.invokestatic idx, 3))
    (kk : ∀ (u : σ) (ra : Nat) (H1 : Heap) (locs1 : List Loc), post u → Y1 u ra s H1 → H.size ≤ H1.size → (∀ q : Nat, q < H.size → ¬ A1 q → H1[q]? = H[q]?) → va_S A0 H0 H1 locs1 → W p l e R s m args below meth c H1 locs1 (cells + mc) (slots + ms) Q (F0 m (pc + 3) ls (.ref ra :: rest))) : W p l e R s m args below meth c H locs cells slots Q (F0 m pc ls st0) :=
  va_callr (va_runS hF hM (va_cwS k hF.2.2.2.2 (gS hlk hi.1) rfl h0.1 h0.2 hi.2 hR) ⟨wmBlind hmv, fun U hU hW => wmPre hmv hX hU hW⟩ rfl hk hsz hst (lv_room hW) hdg hcs) hS hA hf (fun u ra t H1 locs1 ht hvm hp hB hz hk1 hS1 => kk u ra H1 locs1 hp (by subst ht; exact hmv1 u ra t s t.heap hvm.symm hB) hz hk1 hS1)
end LAWR
