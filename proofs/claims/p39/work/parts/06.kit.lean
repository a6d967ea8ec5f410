/-! OWN ROWS: a method's words, its start, loops, calls -/
def wm (y : MethodName) (c : ByteArray) (n : Nat) (r : Option FieldType) : List Cond := .code y c n r :: wA
theorem gm {y : MethodName} {c : ByteArray} {n : Nat} {r : Option FieldType} (h : Cond.code y c n r ∈ wA) : GoodIn wA (wm y c n r) := by
  intro w hw
  rcases List.mem_cons.mp hw with e | hw
  · rw [e]; exact gA _ h
  · exact gA _ hw
/-- what a call of an instance method needs of the words -/
abbrev IM (C : String) (y : MethodName) (c : ByteArray) (n : Nat) (r : Option FieldType) (k : Nat) : Prop :=
  (Cond.instanceMethod y ∈ wA ∧ Cond.selects C y y ∈ wA ∧ Cond.initialized C ∈ wA ∧ Cond.code y c n r ∈ wA) ∧ (y.cls = C ∧ y.cls ≠ "java/lang/invoke/MethodHandle" ∧ y.cls ≠ "java/lang/invoke/VarHandle" ∧ (parseMethodDescriptor y.desc).map (fun d => d.parameters.length) = some k)
abbrev SM (y : MethodName) (c : ByteArray) (n : Nat) (r : Option FieldType) (k : Nat) : Prop :=
  (Cond.static y ∈ wA ∧ Cond.initialized y.cls ∈ wA ∧ Cond.code y c n r ∈ wA) ∧ (y.cls ≠ "java/lang/invoke/MethodHandle" ∧ y.cls ≠ "java/lang/invoke/VarHandle" ∧ (parseMethodDescriptor y.desc).map (fun d => d.parameters.length) = some k)
theorem gV {own C : String} {idx : Nat} {y : MethodName} {c : ByteArray} {n : Nat} {r : Option FieldType} (h1 : Cond.methodLink own idx y ∈ wA) (h : Cond.instanceMethod y ∈ wA ∧ Cond.selects C y y ∈ wA ∧ Cond.initialized C ∈ wA ∧ Cond.code y c n r ∈ wA) : GoodIn wA (wsV own idx C y (wm y c n r)) := by
  intro w hw
  unfold wsV at hw
  rcases List.mem_append.mp hw with hw | hw
  · simp only [List.mem_cons, List.not_mem_nil, or_false] at hw
    rcases hw with e | e | e | e <;> rw [e]
    · exact gA _ h1
    · exact gA _ h.1
    · exact gA _ h.2.1
    · exact gA _ h.2.2.1
  · exact gm h.2.2.2 _ hw
theorem gS {own : String} {idx : Nat} {y : MethodName} {c : ByteArray} {n : Nat} {r : Option FieldType} (h1 : Cond.methodLink own idx y ∈ wA) (h : Cond.static y ∈ wA ∧ Cond.initialized y.cls ∈ wA ∧ Cond.code y c n r ∈ wA) : GoodIn wA (va_wsS own idx y (wm y c n r)) := by
  intro w hw
  unfold va_wsS at hw
  rcases List.mem_append.mp hw with hw | hw
  · simp only [List.mem_cons, List.not_mem_nil, or_false] at hw
    rcases hw with e | e | e <;> rw [e]
    · exact gA _ h1
    · exact gA _ h.1
    · exact gA _ h.2.1
  · exact gm h.2.2 _ hw
/-- a picture of the heap that the machine's own changes leave -/
def Mv (X : State → Heap → Prop) : Prop := ∀ (u U : State) (H : Heap), u.vm.Alike U.vm → X u H → X U H
theorem mvBlind {X : State → Heap → Prop} {av : List Value} (h : Mv X) : FrameBlind (va_Pc av (fun U => X U U.heap)) := by
  intro a U g mk q
  exact ⟨q.1, h U (U.calling g mk a) U.heap (Vm.Alike.refl U.vm) q.2⟩
theorem mvPre {X : State → Heap → Prop} {s U : State} {H : Heap} {av : List Value} (h : Mv X) (hX : X s H) (hU : U.heap = H) (hW : s.WarmedH U.vm) : va_Pc av (fun U => X U U.heap) av.toArray U := by
  refine ⟨rfl, ?_⟩
  show X U U.heap
  rw [hU]
  exact h s U H hW.alike hX
theorem Mv.and {X Y : State → Heap → Prop} (h1 : Mv X) (h2 : Mv Y) : Mv (fun U H => X U H ∧ Y U H) := fun u U H a h => ⟨h1 u U H a h.1, h2 u U H a h.2⟩
theorem Mv.const {P : Prop} : Mv (fun _ _ => P) := fun _ _ _ _ h => h
/-- a method's start -/
theorem mt {l : Launch} {y : MethodName} {cc : ByteArray} {maxL : Nat} {ret : Option FieldType} {rm : Room} {av : List Value} {Pre : State → Prop} {Qc : Array Value → State → Outcome → State → Prop} {mc ms : Nat} {free : Addr → Prop}
    (hy : plainName y.cls = true) (hsz : (lg_sl av).length ≤ maxL)
    (body : ∀ (p : Program) (e : Env) (s : State) (m : MethodId) (below : List Frame) (meth : Method) (c : Code) (ls : Array Slot), CallFix p m c cc maxL s av.toArray wA y.cls → meth.sig.returnType = ret → meth.locks = false → meth.name = y.name → Pre s → lv_has ls maxL (lv_args 0 av) →
      W p l e rm s m av.toArray below meth c s.heap [] 0 0 (MQ below Qc av.toArray s mc ms free) (F0 m 0 ls [])) : Met l y (wm y cc maxL ret) rm (va_Pc av Pre) Qc mc ms free := by
  refine Met.ofW (cc := cc) (maxL := maxL) (ret := ret) hy rfl ?_
  intro p e s m args below meth c s₁ B hml hv
  obtain ⟨rfl, hp⟩ := hv
  have hts := atoms_spec (ws := wm y cc maxL ret) B.pre
  have hl := lv_entry av hsz
  rw [lg_entry_eq]
  exact body p e s m below meth c _ ⟨B.exec, B.bytes, hml, findClass_of_methodNamed B.named, fun w h => hts w (List.mem_cons_of_mem _ h)⟩ B.returns B.notSynchronized (name_of_methodNamed B.named B.method).1 hp hl
/-- the same for a method of the JDK's own that is no native one -/
theorem mtF {l : Launch} {y : MethodName} {cc : ByteArray} {maxL : Nat} {ret : Option FieldType} {rm : Room} {av : List Value} {Pre : State → Prop} {Qc : Array Value → State → Outcome → State → Prop} {mc ms : Nat} {free : Addr → Prop}
    (hy : plainFor y = true) (hsz : (lg_sl av).length ≤ maxL)
    (body : ∀ (p : Program) (e : Env) (s : State) (m : MethodId) (below : List Frame) (meth : Method) (c : Code) (ls : Array Slot), CallFix p m c cc maxL s av.toArray wA y.cls → meth.sig.returnType = ret → meth.locks = false → meth.name = y.name → Pre s → lv_has ls maxL (lv_args 0 av) →
      W p l e rm s m av.toArray below meth c s.heap [] 0 0 (MQ below Qc av.toArray s mc ms free) (F0 m 0 ls [])) : Met l y (wm y cc maxL ret) rm (va_Pc av Pre) Qc mc ms free := by
  refine MetFree.of_bodySF (code := cc) (maxLocals := maxL) (ret := ret) hy ?_ ?_
  · intro args s m h hn
    obtain ⟨meth, c, h1, h2, h3, h4, h5, h6, -, -⟩ := Cond.code_spec hn (atoms_spec (ws := wm y cc maxL ret) h _ List.mem_cons_self)
    exact ⟨meth, c, h1, h2, h3, h4, h5, h6⟩
  · intro p e s m args below meth c s₁ B hml hP _
    obtain ⟨rfl, hp⟩ := hP
    have hts := atoms_spec (ws := wm y cc maxL ret) B.pre
    have hl := lv_entry av hsz
    have hh0 : s₁.heap = s.heap := by rw [B.state]; rfl
    have K := body p e s m below meth c _ ⟨B.exec, B.bytes, hml, findClass_of_methodNamed B.named, fun w h => hts w (List.mem_cons_of_mem _ h)⟩ B.returns B.notSynchronized (name_of_methodNamed B.named B.method).1 hp hl
    rw [← lg_entry_eq] at K
    obtain ⟨t, a1, o, b1, b2, b3⟩ := K s₁ hh0 (Stand.of_body B)
    exact ⟨t, o, a1, b1, b2, ⟨b3.1, b3.2⟩⟩
section OWN
variable {p : Program} {l : Launch} {e : Env} {R : Room} {s : State} {m : MethodId} {args : Array Value} {below : List Frame} {meth : Method} {c : Code} {H : Heap} {locs : List Loc} {cells slots : Nat} {Q : State → Prop}
variable {cc : ByteArray} {nL pc idx k maxL : Nat} {ls : Array Slot} {own C : String} {y : MethodName} {bytes : ByteArray} {ret : Option FieldType} {rm : Room} {b : Addr} {As rest st0 : List Value} {X : State → Heap → Prop}
/-- loops: a measure that falls -/
theorem lpW {σ : Type} {head : Nat} (I : σ → Array Slot → Prop) (μ : σ → Nat)
    (step : ∀ (x : σ) (ls : Array Slot), I x ls → (∀ (x' : σ) (ls' : Array Slot), μ x' < μ x → I x' ls' → W p l e R s m args below meth c H locs cells slots Q (F0 m head ls' st0)) → W p l e R s m args below meth c H locs cells slots Q (F0 m head ls st0))
    (x : σ) (h : I x ls) : W p l e R s m args below meth c H locs cells slots Q (F0 m head ls st0) := by
  have K : ∀ (n : Nat) (x : σ) (ls : Array Slot), μ x < n → I x ls → W p l e R s m args below meth c H locs cells slots Q (F0 m head ls st0) := by
    intro n
    induction n with
    | zero => intro x ls h; exact absurd h (Nat.not_lt_zero _)
    | succ n ih => intro x ls hn hI; exact step x ls hI (fun x' ls' h1 h2 => ih x' ls' (by omega) h2)
  exact K (μ x + 1) x ls (Nat.lt_succ_self _) h
theorem lpH {σ : Type} {head : Nat} (I : σ → Array Slot → Heap → List Loc → Prop) (μ : σ → Nat)
    (step : ∀ (x : σ) (ls : Array Slot) (H : Heap) (locs : List Loc), I x ls H locs → (∀ (x' : σ) (ls' : Array Slot) (H' : Heap) (locs' : List Loc), μ x' < μ x → I x' ls' H' locs' → W p l e R s m args below meth c H' locs' cells slots Q (F0 m head ls' st0)) → W p l e R s m args below meth c H locs cells slots Q (F0 m head ls st0))
    (x : σ) (h : I x ls H locs) : W p l e R s m args below meth c H locs cells slots Q (F0 m head ls st0) := by
  have K : ∀ (n : Nat) (x : σ) (ls : Array Slot) (H : Heap) (locs : List Loc), μ x < n → I x ls H locs → W p l e R s m args below meth c H locs cells slots Q (F0 m head ls st0) := by
    intro n
    induction n with
    | zero => intro x ls H locs h; exact absurd h (Nat.not_lt_zero _)
    | succ n ih => intro x ls H locs hn hI; exact step x ls H locs hI (fun x' ls' H' locs' h1 h2 => ih x' ls' H' locs' (by omega) h2)
  exact K (μ x + 1) x ls H locs (Nat.lt_succ_self _) h
theorem lpH2 {σ τ : Type} {head : Nat} (I : σ → τ → Array Slot → Heap → List Loc → Prop) (μ : σ → τ → Nat)
    (step : ∀ (x : σ) (y : τ) (ls : Array Slot) (H : Heap) (locs : List Loc), I x y ls H locs → (∀ (x' : σ) (y' : τ) (ls' : Array Slot) (H' : Heap) (locs' : List Loc), μ x' y' < μ x y → I x' y' ls' H' locs' → W p l e R s m args below meth c H' locs' cells slots Q (F0 m head ls' st0)) → W p l e R s m args below meth c H locs cells slots Q (F0 m head ls st0))
    (x : σ) (y : τ) (h : I x y ls H locs) : W p l e R s m args below meth c H locs cells slots Q (F0 m head ls st0) := by
  have K : ∀ (n : Nat) (x : σ) (y : τ) (ls : Array Slot) (H : Heap) (locs : List Loc), μ x y < n → I x y ls H locs → W p l e R s m args below meth c H locs cells slots Q (F0 m head ls st0) := by
    intro n
    induction n with
    | zero => intro x y ls H locs h; exact absurd h (Nat.not_lt_zero _)
    | succ n ih => intro x y ls H locs hn hI; exact step x y ls H locs hI (fun x' y' ls' H' locs' h1 h2 => ih x' y' ls' H' locs' (by omega) h2)
  exact K (μ x y + 1) x y ls H locs (Nat.lt_succ_self _) h
theorem wEnd {t : State} (hmv : Mv X) (hX : X s H) (ht : t.heap = H) (hW : s.WarmedH t.vm) : X t t.heap := by rw [ht]; exact hmv s t H hW.alike hX
theorem topI {x y : Int32} (h : x = y) (k : W p l e R s m args below meth c H locs cells slots Q (F0 m pc ls (.int y :: rest))) : W p l e R s m args below meth c H locs cells slots Q (F0 m pc ls (.int x :: rest)) := by subst h; exact k
theorem topL {x y : Int64} (h : x = y) (k : W p l e R s m args below meth c H locs cells slots Q (F0 m pc ls (.long y :: rest))) : W p l e R s m args below meth c H locs cells slots Q (F0 m pc ls (.long x :: rest)) := by subst h; exact k
abbrev Rc (C : String) (b : Addr) (s : State) (H : Heap) : Prop := ∃ cellB : Cell, H[b]? = some cellB ∧ cellB.vm.isStatics = false ∧ s.vm.findClass C = some cellB.cls
variable {σ : Type} {X1 : σ → State → Heap → Prop} {A0 A1 : Nat → Prop} {H0 : Heap} {mc ms : Nat} {free : Addr → Prop}

/-! calls of readers: the heap stays -/
theorem cVi {post : Int32 → Prop} (hF : CallFix p m c cc nL s args wA own) (hM : Met l y (wm y bytes maxL ret) rm (va_Pc (.ref b :: As) (fun U => X U U.heap)) (vp_Si post) 0 0 (fun _ => False)) (hmv : Mv X) (hX : X s H) (hrc : Rc C b s H) (hi : IM C y bytes maxL ret k) (hlk : Cond.methodLink own idx y ∈ wA)
    (h0 : rm.cells = 0 ∧ rm.slots = 0) (hR : rm.frames + 1 ≤ R.frames ∧ 8 + (maxL + 11) + rm.locals ≤ R.locals) (hk : As.length = k) (hsz : ls.size = nL) (hst : st0 = As.reverse ++ .ref b :: rest) (hW : (rest.map fun v => v.category).sum ≤ 8) (hcs : cells ≤ R.cells ∧ slots ≤ R.slots) (hdg : decode cc pc = .ok (.invokevirtual idx, 3))
    (kk : ∀ r : Int32, post r → W p l e R s m args below meth c H locs cells slots Q (F0 m (pc + 3) ls (.int r :: rest))) : W p l e R s m args below meth c H locs cells slots Q (F0 m pc ls st0) :=
  vp_callSi (W.runV hF hM (cwV k hF.2.2.2.2 (gV hlk hi.1) rfl h0.1 h0.2 hi.2 hR) ⟨mvBlind hmv, hrc, fun U hU hW => mvPre hmv hX hU hW⟩ rfl hk hsz hst (lv_room hW) hdg hcs) kk
theorem cVl {post : Int64 → Prop} (hF : CallFix p m c cc nL s args wA own) (hM : Met l y (wm y bytes maxL ret) rm (va_Pc (.ref b :: As) (fun U => X U U.heap)) (vp_Sl post) 0 0 (fun _ => False)) (hmv : Mv X) (hX : X s H) (hrc : Rc C b s H) (hi : IM C y bytes maxL ret k) (hlk : Cond.methodLink own idx y ∈ wA)
    (h0 : rm.cells = 0 ∧ rm.slots = 0) (hR : rm.frames + 1 ≤ R.frames ∧ 8 + (maxL + 11) + rm.locals ≤ R.locals) (hk : As.length = k) (hsz : ls.size = nL) (hst : st0 = As.reverse ++ .ref b :: rest) (hW : (rest.map fun v => v.category).sum ≤ 8) (hcs : cells ≤ R.cells ∧ slots ≤ R.slots) (hdg : decode cc pc = .ok (.invokevirtual idx, 3))
    (kk : ∀ r : Int64, post r → W p l e R s m args below meth c H locs cells slots Q (F0 m (pc + 3) ls (.long r :: rest))) : W p l e R s m args below meth c H locs cells slots Q (F0 m pc ls st0) :=
  vp_callSl (W.runV hF hM (cwV k hF.2.2.2.2 (gV hlk hi.1) rfl h0.1 h0.2 hi.2 hR) ⟨mvBlind hmv, hrc, fun U hU hW => mvPre hmv hX hU hW⟩ rfl hk hsz hst (lv_room hW) hdg hcs) kk
theorem cVd {post : UInt64 → Prop} (hF : CallFix p m c cc nL s args wA own) (hM : Met l y (wm y bytes maxL ret) rm (va_Pc (.ref b :: As) (fun U => X U U.heap)) (vp_Sd post) 0 0 (fun _ => False)) (hmv : Mv X) (hX : X s H) (hrc : Rc C b s H) (hi : IM C y bytes maxL ret k) (hlk : Cond.methodLink own idx y ∈ wA)
    (h0 : rm.cells = 0 ∧ rm.slots = 0) (hR : rm.frames + 1 ≤ R.frames ∧ 8 + (maxL + 11) + rm.locals ≤ R.locals) (hk : As.length = k) (hsz : ls.size = nL) (hst : st0 = As.reverse ++ .ref b :: rest) (hW : (rest.map fun v => v.category).sum ≤ 8) (hcs : cells ≤ R.cells ∧ slots ≤ R.slots) (hdg : decode cc pc = .ok (.invokevirtual idx, 3))
    (kk : ∀ r : UInt64, post r → W p l e R s m args below meth c H locs cells slots Q (F0 m (pc + 3) ls (.double r :: rest))) : W p l e R s m args below meth c H locs cells slots Q (F0 m pc ls st0) :=
  vp_callSd (W.runV hF hM (cwV k hF.2.2.2.2 (gV hlk hi.1) rfl h0.1 h0.2 hi.2 hR) ⟨mvBlind hmv, hrc, fun U hU hW => mvPre hmv hX hU hW⟩ rfl hk hsz hst (lv_room hW) hdg hcs) kk
theorem cVv {post : Unit → Prop} (hF : CallFix p m c cc nL s args wA own) (hM : Met l y (wm y bytes maxL ret) rm (va_Pc (.ref b :: As) (fun U => X U U.heap)) (va_Sv post) 0 0 (fun _ => False)) (hmv : Mv X) (hX : X s H) (hrc : Rc C b s H) (hi : IM C y bytes maxL ret k) (hlk : Cond.methodLink own idx y ∈ wA)
    (h0 : rm.cells = 0 ∧ rm.slots = 0) (hR : rm.frames + 1 ≤ R.frames ∧ 8 + (maxL + 11) + rm.locals ≤ R.locals) (hk : As.length = k) (hsz : ls.size = nL) (hst : st0 = As.reverse ++ .ref b :: rest) (hW : (rest.map fun v => v.category).sum ≤ 8) (hcs : cells ≤ R.cells ∧ slots ≤ R.slots) (hdg : decode cc pc = .ok (.invokevirtual idx, 3))
    (kk : W p l e R s m args below meth c H locs cells slots Q (F0 m (pc + 3) ls rest)) : W p l e R s m args below meth c H locs cells slots Q (F0 m pc ls st0) :=
  va_csv (W.runV hF hM (cwV k hF.2.2.2.2 (gV hlk hi.1) rfl h0.1 h0.2 hi.2 hR) ⟨mvBlind hmv, hrc, fun U hU hW => mvPre hmv hX hU hW⟩ rfl hk hsz hst (lv_room hW) hdg hcs) (fun _ => kk)
theorem cSi {post : Int32 → Prop} (hF : CallFix p m c cc nL s args wA own) (hM : Met l y (wm y bytes maxL ret) rm (va_Pc As (fun U => X U U.heap)) (vp_Si post) 0 0 (fun _ => False)) (hmv : Mv X) (hX : X s H) (hi : SM y bytes maxL ret k) (hlk : Cond.methodLink own idx y ∈ wA)
    (h0 : rm.cells = 0 ∧ rm.slots = 0) (hR : rm.frames + 1 ≤ R.frames ∧ 8 + (maxL + 11) + rm.locals ≤ R.locals) (hk : As.length = k) (hsz : ls.size = nL) (hst : st0 = As.reverse ++ rest) (hW : (rest.map fun v => v.category).sum ≤ 8) (hcs : cells ≤ R.cells ∧ slots ≤ R.slots) (hdg : decode cc pc = .ok (.invokestatic idx, 3))
    (kk : ∀ r : Int32, post r → W p l e R s m args below meth c H locs cells slots Q (F0 m (pc + 3) ls (.int r :: rest))) : W p l e R s m args below meth c H locs cells slots Q (F0 m pc ls st0) :=
  vp_callSi (W.runS hF hM (va_cwS k hF.2.2.2.2 (gS hlk hi.1) rfl h0.1 h0.2 hi.2 hR) ⟨mvBlind hmv, fun U hU hW => mvPre hmv hX hU hW⟩ rfl hk hsz hst (lv_room hW) hdg hcs) kk
theorem cSl {post : Int64 → Prop} (hF : CallFix p m c cc nL s args wA own) (hM : Met l y (wm y bytes maxL ret) rm (va_Pc As (fun U => X U U.heap)) (vp_Sl post) 0 0 (fun _ => False)) (hmv : Mv X) (hX : X s H) (hi : SM y bytes maxL ret k) (hlk : Cond.methodLink own idx y ∈ wA)
    (h0 : rm.cells = 0 ∧ rm.slots = 0) (hR : rm.frames + 1 ≤ R.frames ∧ 8 + (maxL + 11) + rm.locals ≤ R.locals) (hk : As.length = k) (hsz : ls.size = nL) (hst : st0 = As.reverse ++ rest) (hW : (rest.map fun v => v.category).sum ≤ 8) (hcs : cells ≤ R.cells ∧ slots ≤ R.slots) (hdg : decode cc pc = .ok (.invokestatic idx, 3))
    (kk : ∀ r : Int64, post r → W p l e R s m args below meth c H locs cells slots Q (F0 m (pc + 3) ls (.long r :: rest))) : W p l e R s m args below meth c H locs cells slots Q (F0 m pc ls st0) :=
  vp_callSl (W.runS hF hM (va_cwS k hF.2.2.2.2 (gS hlk hi.1) rfl h0.1 h0.2 hi.2 hR) ⟨mvBlind hmv, fun U hU hW => mvPre hmv hX hU hW⟩ rfl hk hsz hst (lv_room hW) hdg hcs) kk
theorem cSd {post : UInt64 → Prop} (hF : CallFix p m c cc nL s args wA own) (hM : Met l y (wm y bytes maxL ret) rm (va_Pc As (fun U => X U U.heap)) (vp_Sd post) 0 0 (fun _ => False)) (hmv : Mv X) (hX : X s H) (hi : SM y bytes maxL ret k) (hlk : Cond.methodLink own idx y ∈ wA)
    (h0 : rm.cells = 0 ∧ rm.slots = 0) (hR : rm.frames + 1 ≤ R.frames ∧ 8 + (maxL + 11) + rm.locals ≤ R.locals) (hk : As.length = k) (hsz : ls.size = nL) (hst : st0 = As.reverse ++ rest) (hW : (rest.map fun v => v.category).sum ≤ 8) (hcs : cells ≤ R.cells ∧ slots ≤ R.slots) (hdg : decode cc pc = .ok (.invokestatic idx, 3))
    (kk : ∀ r : UInt64, post r → W p l e R s m args below meth c H locs cells slots Q (F0 m (pc + 3) ls (.double r :: rest))) : W p l e R s m args below meth c H locs cells slots Q (F0 m pc ls st0) :=
  vp_callSd (W.runS hF hM (va_cwS k hF.2.2.2.2 (gS hlk hi.1) rfl h0.1 h0.2 hi.2 hR) ⟨mvBlind hmv, fun U hU hW => mvPre hmv hX hU hW⟩ rfl hk hsz hst (lv_room hW) hdg hcs) kk
theorem cSv {post : Unit → Prop} (hF : CallFix p m c cc nL s args wA own) (hM : Met l y (wm y bytes maxL ret) rm (va_Pc As (fun U => X U U.heap)) (va_Sv post) 0 0 (fun _ => False)) (hmv : Mv X) (hX : X s H) (hi : SM y bytes maxL ret k) (hlk : Cond.methodLink own idx y ∈ wA)
    (h0 : rm.cells = 0 ∧ rm.slots = 0) (hR : rm.frames + 1 ≤ R.frames ∧ 8 + (maxL + 11) + rm.locals ≤ R.locals) (hk : As.length = k) (hsz : ls.size = nL) (hst : st0 = As.reverse ++ rest) (hW : (rest.map fun v => v.category).sum ≤ 8) (hcs : cells ≤ R.cells ∧ slots ≤ R.slots) (hdg : decode cc pc = .ok (.invokestatic idx, 3))
    (kk : W p l e R s m args below meth c H locs cells slots Q (F0 m (pc + 3) ls rest)) : W p l e R s m args below meth c H locs cells slots Q (F0 m pc ls st0) :=
  va_csv (W.runS hF hM (va_cwS k hF.2.2.2.2 (gS hlk hi.1) rfl h0.1 h0.2 hi.2 hR) ⟨mvBlind hmv, fun U hU hW => mvPre hmv hX hU hW⟩ rfl hk hsz hst (lv_room hW) hdg hcs) (fun _ => kk)
/-! calls of writers -/
theorem wVi {post : Int32 → σ → Prop} (hF : CallFix p m c cc nL s args wA own) (hM : Met l y (wm y bytes maxL ret) rm (va_Pc (.ref b :: As) (fun U => X U U.heap)) (va_Qi post (fun u U => X1 u U U.heap) A1) mc ms free) (hmv : Mv X) (hmv1 : ∀ u, Mv (X1 u)) (hX : X s H) (hrc : Rc C b s H) (hi : IM C y bytes maxL ret k) (hlk : Cond.methodLink own idx y ∈ wA)
    (h0 : rm.cells = mc ∧ rm.slots = ms) (hR : rm.frames + 1 ≤ R.frames ∧ 8 + (maxL + 11) + rm.locals ≤ R.locals) (hk : As.length = k) (hsz : ls.size = nL) (hst : st0 = As.reverse ++ .ref b :: rest) (hW : (rest.map fun v => v.category).sum ≤ 8) (hcs : cells + mc ≤ R.cells ∧ slots + ms ≤ R.slots) (hS : va_S A0 H0 H locs) (hA : ∀ q, q < H.size → A1 q → A0 q) (hf : ∀ q, free q → A0 q) (hdg : decode cc pc = .ok (.invokevirtual idx, 3))
    (kk : ∀ (r : Int32) (u : σ) (H1 : Heap) (locs1 : List Loc), post r u → X1 u s H1 → H.size ≤ H1.size → (∀ q : Nat, q < H.size → ¬ A1 q → H1[q]? = H[q]?) → va_S A0 H0 H1 locs1 → W p l e R s m args below meth c H1 locs1 (cells + mc) (slots + ms) Q (F0 m (pc + 3) ls (.int r :: rest))) : W p l e R s m args below meth c H locs cells slots Q (F0 m pc ls st0) :=
  va_calli (va_runV hF hM (cwV k hF.2.2.2.2 (gV hlk hi.1) rfl h0.1 h0.2 hi.2 hR) ⟨mvBlind hmv, hrc, fun U hU hW => mvPre hmv hX hU hW⟩ rfl hk hsz hst (lv_room hW) hdg hcs) hS hA hf (fun r u t H1 locs1 ht hvm hp hB hz hk1 hS1 => kk r u H1 locs1 hp (by subst ht; exact hmv1 u t s t.heap hvm.symm hB) hz hk1 hS1)
theorem wVl {post : Int64 → σ → Prop} (hF : CallFix p m c cc nL s args wA own) (hM : Met l y (wm y bytes maxL ret) rm (va_Pc (.ref b :: As) (fun U => X U U.heap)) (va_Ql post (fun u U => X1 u U U.heap) A1) mc ms free) (hmv : Mv X) (hmv1 : ∀ u, Mv (X1 u)) (hX : X s H) (hrc : Rc C b s H) (hi : IM C y bytes maxL ret k) (hlk : Cond.methodLink own idx y ∈ wA)
    (h0 : rm.cells = mc ∧ rm.slots = ms) (hR : rm.frames + 1 ≤ R.frames ∧ 8 + (maxL + 11) + rm.locals ≤ R.locals) (hk : As.length = k) (hsz : ls.size = nL) (hst : st0 = As.reverse ++ .ref b :: rest) (hW : (rest.map fun v => v.category).sum ≤ 8) (hcs : cells + mc ≤ R.cells ∧ slots + ms ≤ R.slots) (hS : va_S A0 H0 H locs) (hA : ∀ q, q < H.size → A1 q → A0 q) (hf : ∀ q, free q → A0 q) (hdg : decode cc pc = .ok (.invokevirtual idx, 3))
    (kk : ∀ (r : Int64) (u : σ) (H1 : Heap) (locs1 : List Loc), post r u → X1 u s H1 → H.size ≤ H1.size → (∀ q : Nat, q < H.size → ¬ A1 q → H1[q]? = H[q]?) → va_S A0 H0 H1 locs1 → W p l e R s m args below meth c H1 locs1 (cells + mc) (slots + ms) Q (F0 m (pc + 3) ls (.long r :: rest))) : W p l e R s m args below meth c H locs cells slots Q (F0 m pc ls st0) :=
  va_calll (va_runV hF hM (cwV k hF.2.2.2.2 (gV hlk hi.1) rfl h0.1 h0.2 hi.2 hR) ⟨mvBlind hmv, hrc, fun U hU hW => mvPre hmv hX hU hW⟩ rfl hk hsz hst (lv_room hW) hdg hcs) hS hA hf (fun r u t H1 locs1 ht hvm hp hB hz hk1 hS1 => kk r u H1 locs1 hp (by subst ht; exact hmv1 u t s t.heap hvm.symm hB) hz hk1 hS1)
theorem wVd {post : UInt64 → σ → Prop} (hF : CallFix p m c cc nL s args wA own) (hM : Met l y (wm y bytes maxL ret) rm (va_Pc (.ref b :: As) (fun U => X U U.heap)) (va_Qd post (fun u U => X1 u U U.heap) A1) mc ms free) (hmv : Mv X) (hmv1 : ∀ u, Mv (X1 u)) (hX : X s H) (hrc : Rc C b s H) (hi : IM C y bytes maxL ret k) (hlk : Cond.methodLink own idx y ∈ wA)
    (h0 : rm.cells = mc ∧ rm.slots = ms) (hR : rm.frames + 1 ≤ R.frames ∧ 8 + (maxL + 11) + rm.locals ≤ R.locals) (hk : As.length = k) (hsz : ls.size = nL) (hst : st0 = As.reverse ++ .ref b :: rest) (hW : (rest.map fun v => v.category).sum ≤ 8) (hcs : cells + mc ≤ R.cells ∧ slots + ms ≤ R.slots) (hS : va_S A0 H0 H locs) (hA : ∀ q, q < H.size → A1 q → A0 q) (hf : ∀ q, free q → A0 q) (hdg : decode cc pc = .ok (.invokevirtual idx, 3))
    (kk : ∀ (r : UInt64) (u : σ) (H1 : Heap) (locs1 : List Loc), post r u → X1 u s H1 → H.size ≤ H1.size → (∀ q : Nat, q < H.size → ¬ A1 q → H1[q]? = H[q]?) → va_S A0 H0 H1 locs1 → W p l e R s m args below meth c H1 locs1 (cells + mc) (slots + ms) Q (F0 m (pc + 3) ls (.double r :: rest))) : W p l e R s m args below meth c H locs cells slots Q (F0 m pc ls st0) :=
  va_calld (va_runV hF hM (cwV k hF.2.2.2.2 (gV hlk hi.1) rfl h0.1 h0.2 hi.2 hR) ⟨mvBlind hmv, hrc, fun U hU hW => mvPre hmv hX hU hW⟩ rfl hk hsz hst (lv_room hW) hdg hcs) hS hA hf (fun r u t H1 locs1 ht hvm hp hB hz hk1 hS1 => kk r u H1 locs1 hp (by subst ht; exact hmv1 u t s t.heap hvm.symm hB) hz hk1 hS1)
theorem wVv {post : σ → Prop} (hF : CallFix p m c cc nL s args wA own) (hM : Met l y (wm y bytes maxL ret) rm (va_Pc (.ref b :: As) (fun U => X U U.heap)) (va_Qv post (fun u U => X1 u U U.heap) A1) mc ms free) (hmv : Mv X) (hmv1 : ∀ u, Mv (X1 u)) (hX : X s H) (hrc : Rc C b s H) (hi : IM C y bytes maxL ret k) (hlk : Cond.methodLink own idx y ∈ wA)
    (h0 : rm.cells = mc ∧ rm.slots = ms) (hR : rm.frames + 1 ≤ R.frames ∧ 8 + (maxL + 11) + rm.locals ≤ R.locals) (hk : As.length = k) (hsz : ls.size = nL) (hst : st0 = As.reverse ++ .ref b :: rest) (hW : (rest.map fun v => v.category).sum ≤ 8) (hcs : cells + mc ≤ R.cells ∧ slots + ms ≤ R.slots) (hS : va_S A0 H0 H locs) (hA : ∀ q, q < H.size → A1 q → A0 q) (hf : ∀ q, free q → A0 q) (hdg : decode cc pc = .ok (.invokevirtual idx, 3))
    (kk : ∀ (u : σ) (H1 : Heap) (locs1 : List Loc), post u → X1 u s H1 → H.size ≤ H1.size → (∀ q : Nat, q < H.size → ¬ A1 q → H1[q]? = H[q]?) → va_S A0 H0 H1 locs1 → W p l e R s m args below meth c H1 locs1 (cells + mc) (slots + ms) Q (F0 m (pc + 3) ls rest)) : W p l e R s m args below meth c H locs cells slots Q (F0 m pc ls st0) :=
  va_callv (va_runV hF hM (cwV k hF.2.2.2.2 (gV hlk hi.1) rfl h0.1 h0.2 hi.2 hR) ⟨mvBlind hmv, hrc, fun U hU hW => mvPre hmv hX hU hW⟩ rfl hk hsz hst (lv_room hW) hdg hcs) hS hA hf (fun u t H1 locs1 ht hvm hp hB hz hk1 hS1 => kk u H1 locs1 hp (by subst ht; exact hmv1 u t s t.heap hvm.symm hB) hz hk1 hS1)
theorem wSi {post : Int32 → σ → Prop} (hF : CallFix p m c cc nL s args wA own) (hM : Met l y (wm y bytes maxL ret) rm (va_Pc As (fun U => X U U.heap)) (va_Qi post (fun u U => X1 u U U.heap) A1) mc ms free) (hmv : Mv X) (hmv1 : ∀ u, Mv (X1 u)) (hX : X s H) (hi : SM y bytes maxL ret k) (hlk : Cond.methodLink own idx y ∈ wA)
    (h0 : rm.cells = mc ∧ rm.slots = ms) (hR : rm.frames + 1 ≤ R.frames ∧ 8 + (maxL + 11) + rm.locals ≤ R.locals) (hk : As.length = k) (hsz : ls.size = nL) (hst : st0 = As.reverse ++ rest) (hW : (rest.map fun v => v.category).sum ≤ 8) (hcs : cells + mc ≤ R.cells ∧ slots + ms ≤ R.slots) (hS : va_S A0 H0 H locs) (hA : ∀ q, q < H.size → A1 q → A0 q) (hf : ∀ q, free q → A0 q) (hdg : decode cc pc = .ok (.invokestatic idx, 3))
    (kk : ∀ (r : Int32) (u : σ) (H1 : Heap) (locs1 : List Loc), post r u → X1 u s H1 → H.size ≤ H1.size → (∀ q : Nat, q < H.size → ¬ A1 q → H1[q]? = H[q]?) → va_S A0 H0 H1 locs1 → W p l e R s m args below meth c H1 locs1 (cells + mc) (slots + ms) Q (F0 m (pc + 3) ls (.int r :: rest))) : W p l e R s m args below meth c H locs cells slots Q (F0 m pc ls st0) :=
  va_calli (va_runS hF hM (va_cwS k hF.2.2.2.2 (gS hlk hi.1) rfl h0.1 h0.2 hi.2 hR) ⟨mvBlind hmv, fun U hU hW => mvPre hmv hX hU hW⟩ rfl hk hsz hst (lv_room hW) hdg hcs) hS hA hf (fun r u t H1 locs1 ht hvm hp hB hz hk1 hS1 => kk r u H1 locs1 hp (by subst ht; exact hmv1 u t s t.heap hvm.symm hB) hz hk1 hS1)
theorem wSl {post : Int64 → σ → Prop} (hF : CallFix p m c cc nL s args wA own) (hM : Met l y (wm y bytes maxL ret) rm (va_Pc As (fun U => X U U.heap)) (va_Ql post (fun u U => X1 u U U.heap) A1) mc ms free) (hmv : Mv X) (hmv1 : ∀ u, Mv (X1 u)) (hX : X s H) (hi : SM y bytes maxL ret k) (hlk : Cond.methodLink own idx y ∈ wA)
    (h0 : rm.cells = mc ∧ rm.slots = ms) (hR : rm.frames + 1 ≤ R.frames ∧ 8 + (maxL + 11) + rm.locals ≤ R.locals) (hk : As.length = k) (hsz : ls.size = nL) (hst : st0 = As.reverse ++ rest) (hW : (rest.map fun v => v.category).sum ≤ 8) (hcs : cells + mc ≤ R.cells ∧ slots + ms ≤ R.slots) (hS : va_S A0 H0 H locs) (hA : ∀ q, q < H.size → A1 q → A0 q) (hf : ∀ q, free q → A0 q) (hdg : decode cc pc = .ok (.invokestatic idx, 3))
    (kk : ∀ (r : Int64) (u : σ) (H1 : Heap) (locs1 : List Loc), post r u → X1 u s H1 → H.size ≤ H1.size → (∀ q : Nat, q < H.size → ¬ A1 q → H1[q]? = H[q]?) → va_S A0 H0 H1 locs1 → W p l e R s m args below meth c H1 locs1 (cells + mc) (slots + ms) Q (F0 m (pc + 3) ls (.long r :: rest))) : W p l e R s m args below meth c H locs cells slots Q (F0 m pc ls st0) :=
  va_calll (va_runS hF hM (va_cwS k hF.2.2.2.2 (gS hlk hi.1) rfl h0.1 h0.2 hi.2 hR) ⟨mvBlind hmv, fun U hU hW => mvPre hmv hX hU hW⟩ rfl hk hsz hst (lv_room hW) hdg hcs) hS hA hf (fun r u t H1 locs1 ht hvm hp hB hz hk1 hS1 => kk r u H1 locs1 hp (by subst ht; exact hmv1 u t s t.heap hvm.symm hB) hz hk1 hS1)
theorem wSd {post : UInt64 → σ → Prop} (hF : CallFix p m c cc nL s args wA own) (hM : Met l y (wm y bytes maxL ret) rm (va_Pc As (fun U => X U U.heap)) (va_Qd post (fun u U => X1 u U U.heap) A1) mc ms free) (hmv : Mv X) (hmv1 : ∀ u, Mv (X1 u)) (hX : X s H) (hi : SM y bytes maxL ret k) (hlk : Cond.methodLink own idx y ∈ wA)
    (h0 : rm.cells = mc ∧ rm.slots = ms) (hR : rm.frames + 1 ≤ R.frames ∧ 8 + (maxL + 11) + rm.locals ≤ R.locals) (hk : As.length = k) (hsz : ls.size = nL) (hst : st0 = As.reverse ++ rest) (hW : (rest.map fun v => v.category).sum ≤ 8) (hcs : cells + mc ≤ R.cells ∧ slots + ms ≤ R.slots) (hS : va_S A0 H0 H locs) (hA : ∀ q, q < H.size → A1 q → A0 q) (hf : ∀ q, free q → A0 q) (hdg : decode cc pc = .ok (.invokestatic idx, 3))
    (kk : ∀ (r : UInt64) (u : σ) (H1 : Heap) (locs1 : List Loc), post r u → X1 u s H1 → H.size ≤ H1.size → (∀ q : Nat, q < H.size → ¬ A1 q → H1[q]? = H[q]?) → va_S A0 H0 H1 locs1 → W p l e R s m args below meth c H1 locs1 (cells + mc) (slots + ms) Q (F0 m (pc + 3) ls (.double r :: rest))) : W p l e R s m args below meth c H locs cells slots Q (F0 m pc ls st0) :=
  va_calld (va_runS hF hM (va_cwS k hF.2.2.2.2 (gS hlk hi.1) rfl h0.1 h0.2 hi.2 hR) ⟨mvBlind hmv, fun U hU hW => mvPre hmv hX hU hW⟩ rfl hk hsz hst (lv_room hW) hdg hcs) hS hA hf (fun r u t H1 locs1 ht hvm hp hB hz hk1 hS1 => kk r u H1 locs1 hp (by subst ht; exact hmv1 u t s t.heap hvm.symm hB) hz hk1 hS1)
theorem wSv {post : σ → Prop} (hF : CallFix p m c cc nL s args wA own) (hM : Met l y (wm y bytes maxL ret) rm (va_Pc As (fun U => X U U.heap)) (va_Qv post (fun u U => X1 u U U.heap) A1) mc ms free) (hmv : Mv X) (hmv1 : ∀ u, Mv (X1 u)) (hX : X s H) (hi : SM y bytes maxL ret k) (hlk : Cond.methodLink own idx y ∈ wA)
    (h0 : rm.cells = mc ∧ rm.slots = ms) (hR : rm.frames + 1 ≤ R.frames ∧ 8 + (maxL + 11) + rm.locals ≤ R.locals) (hk : As.length = k) (hsz : ls.size = nL) (hst : st0 = As.reverse ++ rest) (hW : (rest.map fun v => v.category).sum ≤ 8) (hcs : cells + mc ≤ R.cells ∧ slots + ms ≤ R.slots) (hS : va_S A0 H0 H locs) (hA : ∀ q, q < H.size → A1 q → A0 q) (hf : ∀ q, free q → A0 q) (hdg : decode cc pc = .ok (.invokestatic idx, 3))
    (kk : ∀ (u : σ) (H1 : Heap) (locs1 : List Loc), post u → X1 u s H1 → H.size ≤ H1.size → (∀ q : Nat, q < H.size → ¬ A1 q → H1[q]? = H[q]?) → va_S A0 H0 H1 locs1 → W p l e R s m args below meth c H1 locs1 (cells + mc) (slots + ms) Q (F0 m (pc + 3) ls rest)) : W p l e R s m args below meth c H locs cells slots Q (F0 m pc ls st0) :=
  va_callv (va_runS hF hM (va_cwS k hF.2.2.2.2 (gS hlk hi.1) rfl h0.1 h0.2 hi.2 hR) ⟨mvBlind hmv, fun U hU hW => mvPre hmv hX hU hW⟩ rfl hk hsz hst (lv_room hW) hdg hcs) hS hA hf (fun u t H1 locs1 ht hvm hp hB hz hk1 hS1 => kk u H1 locs1 hp (by subst ht; exact hmv1 u t s t.heap hvm.symm hB) hz hk1 hS1)
end OWN
