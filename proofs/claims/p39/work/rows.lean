section
-- ===== PART A: goes FIRST, ahead of the names: the tables' words, and 'selects' of the private methods out of them =====
/-- a private method of a class that the tables say can be made, by its rows of tables_1 -/
def lw_okq (q : MethodName × Nat) : Prop := (q.1.cls ≠ "java/lang/invoke/MethodHandle" ∧ q.1.cls ≠ "java/lang/invoke/VarHandle") ∧ Cond.instantiable q.1.cls q.2 ∈ tables_1 ∧ Cond.privateMethod q.1 ∈ tables_1 ∧ Cond.instanceMethod q.1 ∈ tables_1
theorem lw_p0 : lw_okq (⟨"MapSongs", "xAhead", "(I)I"⟩, 11) := ⟨⟨by decide +kernel, by decide +kernel⟩, List.mem_of_getElem? (i := 11) (by decide +kernel), List.mem_of_getElem? (i := 67) (by decide +kernel), List.mem_of_getElem? (i := 68) (by decide +kernel)⟩
theorem lw_p1 : lw_okq (⟨"MapSongs", "yAhead", "(I)I"⟩, 11) := ⟨⟨by decide +kernel, by decide +kernel⟩, List.mem_of_getElem? (i := 11) (by decide +kernel), List.mem_of_getElem? (i := 75) (by decide +kernel), List.mem_of_getElem? (i := 76) (by decide +kernel)⟩
theorem lw_p2 : lw_okq (⟨"MapSongs", "endsWhereItWas", "(I)Z"⟩, 11) := ⟨⟨by decide +kernel, by decide +kernel⟩, List.mem_of_getElem? (i := 11) (by decide +kernel), List.mem_of_getElem? (i := 95) (by decide +kernel), List.mem_of_getElem? (i := 96) (by decide +kernel)⟩
theorem lw_p3 : lw_okq (⟨"MapSongs", "checkLeg", "(I)V"⟩, 11) := ⟨⟨by decide +kernel, by decide +kernel⟩, List.mem_of_getElem? (i := 11) (by decide +kernel), List.mem_of_getElem? (i := 103) (by decide +kernel), List.mem_of_getElem? (i := 104) (by decide +kernel)⟩
theorem lw_p4 : lw_okq (⟨"java/lang/Throwable", "fillInStackTrace", "(I)Ljava/lang/Throwable;"⟩, 6) := ⟨⟨by decide +kernel, by decide +kernel⟩, List.mem_of_getElem? (i := 145) (by decide +kernel), List.mem_of_getElem? (i := 143) (by decide +kernel), List.mem_of_getElem? (i := 144) (by decide +kernel)⟩
theorem lw_p5 : lw_okq (⟨"MapSongs", "noteAhead", "(I)I"⟩, 11) := ⟨⟨by decide +kernel, by decide +kernel⟩, List.mem_of_getElem? (i := 11) (by decide +kernel), List.mem_of_getElem? (i := 191) (by decide +kernel), List.mem_of_getElem? (i := 192) (by decide +kernel)⟩
theorem lw_p6 : lw_okq (⟨"MapSongs", "landmarksNamed", "(II)I"⟩, 11) := ⟨⟨by decide +kernel, by decide +kernel⟩, List.mem_of_getElem? (i := 11) (by decide +kernel), List.mem_of_getElem? (i := 250) (by decide +kernel), List.mem_of_getElem? (i := 251) (by decide +kernel)⟩
theorem lw_p7 : lw_okq (⟨"MapSongs", "mostAmbiguous", "()I"⟩, 11) := ⟨⟨by decide +kernel, by decide +kernel⟩, List.mem_of_getElem? (i := 11) (by decide +kernel), List.mem_of_getElem? (i := 318) (by decide +kernel), List.mem_of_getElem? (i := 319) (by decide +kernel)⟩
theorem lw_p8 : lw_okq (⟨"MapSongs", "unmendedWith", "(III)I"⟩, 11) := ⟨⟨by decide +kernel, by decide +kernel⟩, List.mem_of_getElem? (i := 11) (by decide +kernel), List.mem_of_getElem? (i := 335) (by decide +kernel), List.mem_of_getElem? (i := 336) (by decide +kernel)⟩
theorem lw_p9 : lw_okq (⟨"MapSongs", "sharesWordIf", "(III)Z"⟩, 11) := ⟨⟨by decide +kernel, by decide +kernel⟩, List.mem_of_getElem? (i := 11) (by decide +kernel), List.mem_of_getElem? (i := 339) (by decide +kernel), List.mem_of_getElem? (i := 340) (by decide +kernel)⟩
theorem lw_p10 : lw_okq (⟨"MapSongs", "wordIf", "(III)I"⟩, 11) := ⟨⟨by decide +kernel, by decide +kernel⟩, List.mem_of_getElem? (i := 11) (by decide +kernel), List.mem_of_getElem? (i := 343) (by decide +kernel), List.mem_of_getElem? (i := 344) (by decide +kernel)⟩
theorem lw_p11 : lw_okq (⟨"MapSongs", "digestOfLeg", "(JI)J"⟩, 11) := ⟨⟨by decide +kernel, by decide +kernel⟩, List.mem_of_getElem? (i := 11) (by decide +kernel), List.mem_of_getElem? (i := 373) (by decide +kernel), List.mem_of_getElem? (i := 374) (by decide +kernel)⟩
theorem lw_p12 : lw_okq (⟨"MapSongs", "follow", "(I)V"⟩, 11) := ⟨⟨by decide +kernel, by decide +kernel⟩, List.mem_of_getElem? (i := 11) (by decide +kernel), List.mem_of_getElem? (i := 504) (by decide +kernel), List.mem_of_getElem? (i := 505) (by decide +kernel)⟩
theorem lw_p13 : lw_okq (⟨"MapSongs", "headingAhead", "(I)I"⟩, 11) := ⟨⟨by decide +kernel, by decide +kernel⟩, List.mem_of_getElem? (i := 11) (by decide +kernel), List.mem_of_getElem? (i := 508) (by decide +kernel), List.mem_of_getElem? (i := 509) (by decide +kernel)⟩
theorem lw_p14 : lw_okq (⟨"MapSongs", "dropMarks", "()V"⟩, 11) := ⟨⟨by decide +kernel, by decide +kernel⟩, List.mem_of_getElem? (i := 11) (by decide +kernel), List.mem_of_getElem? (i := 531) (by decide +kernel), List.mem_of_getElem? (i := 532) (by decide +kernel)⟩
def lw_privs_1 : List (MethodName × Nat) := [(⟨"MapSongs", "xAhead", "(I)I"⟩, 11), (⟨"MapSongs", "yAhead", "(I)I"⟩, 11), (⟨"MapSongs", "endsWhereItWas", "(I)Z"⟩, 11), (⟨"MapSongs", "checkLeg", "(I)V"⟩, 11), (⟨"java/lang/Throwable", "fillInStackTrace", "(I)Ljava/lang/Throwable;"⟩, 6), (⟨"MapSongs", "noteAhead", "(I)I"⟩, 11), (⟨"MapSongs", "landmarksNamed", "(II)I"⟩, 11), (⟨"MapSongs", "mostAmbiguous", "()I"⟩, 11), (⟨"MapSongs", "unmendedWith", "(III)I"⟩, 11), (⟨"MapSongs", "sharesWordIf", "(III)Z"⟩, 11), (⟨"MapSongs", "wordIf", "(III)I"⟩, 11), (⟨"MapSongs", "digestOfLeg", "(JI)J"⟩, 11), (⟨"MapSongs", "follow", "(I)V"⟩, 11), (⟨"MapSongs", "headingAhead", "(I)I"⟩, 11), (⟨"MapSongs", "dropMarks", "()V"⟩, 11)]
theorem lw_r1 : ∀ q ∈ lw_privs_1, lw_okq q := List.forall_mem_cons.mpr ⟨lw_p0, List.forall_mem_cons.mpr ⟨lw_p1, List.forall_mem_cons.mpr ⟨lw_p2, List.forall_mem_cons.mpr ⟨lw_p3, List.forall_mem_cons.mpr ⟨lw_p4, List.forall_mem_cons.mpr ⟨lw_p5, List.forall_mem_cons.mpr ⟨lw_p6, List.forall_mem_cons.mpr ⟨lw_p7, List.forall_mem_cons.mpr ⟨lw_p8, List.forall_mem_cons.mpr ⟨lw_p9, List.forall_mem_cons.mpr ⟨lw_p10, List.forall_mem_cons.mpr ⟨lw_p11, List.forall_mem_cons.mpr ⟨lw_p12, List.forall_mem_cons.mpr ⟨lw_p13, List.forall_mem_cons.mpr ⟨lw_p14, fun _ h => absurd h List.not_mem_nil⟩⟩⟩⟩⟩⟩⟩⟩⟩⟩⟩⟩⟩⟩⟩
def lw_privs : List (MethodName × Nat) := lw_privs_1
def lw_tbl : List Cond := k2_sels lw_privs ++ tables_1
theorem lw_privs_ok : ∀ q ∈ lw_privs, lw_okq q := lw_r1
/-- the streams that the claim lets the run draw from -/
abbrev lw_cs : List Choice := [Jvm.Choice.named "NaN.bits"]
theorem lw_bits : nanBits ∈ lw_cs := by first | decide | exact List.mem_cons_self | simp [lw_cs, nanBits]
/-! from here to the end of the part: what the kit prints for this claim, without what is not used -/
/-! ===== BEGIN words of one list among another's, by their places ===== -/
theorem goodIn_r {big : List Cond} (ws : List Cond) (ps : List Nat) (hp : ws = ps.filterMap (fun i => big[i]?)) (h : ws.all goodWord = true) : GoodIn big ws := by
  intro w hw
  have h1 := List.all_eq_true.mp h w hw
  rw [hp] at hw
  obtain ⟨i, -, hi⟩ := List.mem_filterMap.mp hw
  have hm : w ∈ big := by first | exact List.mem_of_getElem? hi | exact List.getElem?_mem hi
  exact ⟨hm, good_of_word h1⟩
theorem goodIn_app {big a b : List Cond} (ha : GoodIn big a) (hb : GoodIn big b) : GoodIn big (a ++ b) := fun w h => (List.mem_append.mp h).elim (ha w) (hb w)
theorem goodIn_ca {big a b : List Cond} {c : Cond} (ha : GoodIn big (c :: a)) (hb : GoodIn big b) : GoodIn big (c :: (a ++ b)) := fun w h => (List.mem_cons.mp h).elim (fun e => ha w (List.mem_cons.mpr (Or.inl e))) (fun h => (List.mem_append.mp h).elim (fun h => ha w (List.mem_cons.mpr (Or.inr h))) (hb w))
theorem goodIn_sub {big ws : List Cond} (hm : ∀ w ∈ ws, w ∈ big) (h : ws.all goodWord = true) : GoodIn big ws := fun w hw => ⟨hm w hw, good_of_word (List.all_eq_true.mp h w hw)⟩
/-! ===== END ===== -/

/-! ===== BEGIN exceptions that leave a method, and their catching by the caller (launches without stack traces) ===== -/
section VXA
/-! The laws vx_back, vx_callV, vx_callS, vx_callSW, vx_throw0, vx_throwS follow proofs of the library, with one case more: JvmDerived/Free/Laws.lean (Back.of_free), Shelf42/LK1.lean (callV, callS), Shelf/KitTraced.lean (throwNew0V, throwNewS). -/
/-- where a method has thrown q: the class by its name, the cell, what was written, the world -/
def vx_T (XC : String → State → State → Prop) (st : State) (q : Addr) (t : State) (mc ms : Nat) (free : Addr → Prop) : Prop :=
  ∃ (E : String) (ce : Cell) (L : List Loc), XC E st t ∧ t.heap[q]? = some ce ∧ ce.vm = .none ∧ st.vm.findClass E = some ce.cls ∧ st.WarmedH t.vm ∧ st.sameButNew ({ t with vm := st.vm } : State) L mc ms ∧ ∀ z ∈ L, free z.base
def vx_Q (Qc : Array Value → State → Outcome → State → Prop) (XC : String → State → State → Prop) (mc ms : Nat) (free : Addr → Prop) : Array Value → State → Outcome → State → Prop := fun a st o t =>
  (Qc a st o t ∧ ∃ L, FrameEnd st o t L mc ms ∧ ∀ q ∈ L, free q.base) ∨ ∃ q, o = .threw q ∧ vx_T XC st q t mc ms free
/-- a callee that returns or throws -/
def vx_Met (l : Launch) (y : MethodName) (ws : List Cond) (rm : Room) (Pc : Array Value → State → Prop) (Qc : Array Value → State → Outcome → State → Prop) (XC : String → State → State → Prop) (mc ms : Nat) (free : Addr → Prop) : Prop :=
  MetFree l y (headSpec ws rm) Pc (fun _ _ _ _ _ => True) (vx_Q Qc XC mc ms free)
def vx_Post (XC : String → State → State → Prop) (mc ms : Nat) (free : Addr → Prop) : Pt → Array Value → Addr → Pt → Prop := fun A a q B =>
  ∃ (g : JFrame) (mk : MethodId) (t : State) (L : List Loc) (E : String) (ce : Cell), B.U.heap = t.heap ∧ B.U.vm = t.vm ∧ XC E (A.U.calling g mk a) t ∧ t.heap[q]? = some ce ∧ ce.vm = .none ∧ A.U.vm.findClass E = some ce.cls ∧ B.locs = A.locs ++ L ∧ (∀ z ∈ L, free z.base) ∧ B.cells = A.cells + mc ∧ B.slots = A.slots + ms
def vx_Back (l : Launch) (R : Room) (p : Program) (e : Env) (below : List Frame) (s : State) (sargs : Array Value) (y : MethodName) (len W9 : Nat)
    (Pre : Pt → Array Value → Prop) (Post : Pt → Array Value → Option Value → Pt → Prop) (PostX : Pt → Array Value → Addr → Pt → Prop) : Prop :=
  ∀ (m : MethodId) (meth : Method) (c : Code) (A : Pt) (g : JFrame) (ig : Instr) (mk : MethodId) (a : Array Value),
    Stand p l e R s m sargs below meth c A.U A.locs A.cells A.slots → g.method = m → g.locals.size = c.maxLocals → decode c.code g.pc = .ok (ig, len) →
    2 * g.monitorRoom + (g.stack.map fun v => v.category).sum ≤ W9 → A.U.methodNamed? y = some mk → Pre A a →
    (∃ (v : Option Value) (B : Pt), Stand p l e R s m sargs below meth c B.U B.locs B.cells B.slots ∧ Post A a v B ∧
      Steps p.tables e below (doInvoke e (A.U.setTop g) [] mk a).1 (B.U.setTop { g with pc := g.pc + len, stack := v.toList ++ g.stack })) ∨
    (∃ (q : Addr) (B : Pt), Stand p l e R s m sargs below meth c B.U B.locs B.cells B.slots ∧ PostX A a q B ∧
      Steps p.tables e below (doInvoke e (A.U.setTop g) [] mk a).1 ((B.U.setTop g).pushFrame (.throwing q)))
section Payer
variable {l : Launch} {R : Room} {p : Program} {e : Env} {below : List Frame} {s : State} {sargs : Array Value} {y : MethodName} {len W9 : Nat}
theorem vx_back {ws : List Cond} {rm : Room} {Pc : Array Value → State → Prop} {Qc : Array Value → State → Outcome → State → Prop} {XC : String → State → State → Prop} {mc ms : Nat} {free : Addr → Prop} {bytes : ByteArray} {maxL : Nat} {ret : Option FieldType}
    (hM : vx_Met l y ws rm Pc Qc XC mc ms free) (hblind : FrameBlind Pc) (hrc : rm.cells = mc) (hrs : rm.slots = ms)
    (hframes : rm.frames + 1 ≤ R.frames) (hlocals : W9 + (maxL + 11) + rm.locals ≤ R.locals)
    (hws : ∀ w ∈ ws, ∀ a' U, s.WarmedH U.vm → w.before a' U = true) (hcode : Cond.code y bytes maxL ret ∈ ws) (hinit : ∀ a' U, s.WarmedH U.vm → (Cond.initialized y.cls).before a' U = true) :
    vx_Back l R p e below s sargs y len W9 (PreOf R mc ms Pc) (PostOf Qc mc ms free) (vx_Post XC mc ms free) := by
  intro m meth c A g ig mk a X hg hsize hdg hW hn hp
  have h1 : (headSpec ws rm).pre.before a A.U = true := atoms_intro fun w hw => hws w hw _ _ X.warmed
  have h2 : (Cond.code y bytes maxL ret).before a A.U = true := hws _ hcode _ _ X.warmed
  have h3 : (Cond.initialized y.cls).before a A.U = true := hinit _ _ X.warmed
  have h4 : A.cells + (headSpec ws rm).room.cells ≤ R.cells := by rw [show (headSpec ws rm).room.cells = mc from hrc]; exact hp.1
  have h5 : A.slots + (headSpec ws rm).room.slots ≤ R.slots := by rw [show (headSpec ws rm).room.slots = ms from hrs]; exact hp.2.1
  have hPc : Pc a (A.U.calling g mk a) := hblind _ _ _ _ hp.2.2
  obtain ⟨U, Ls, c0, s0⟩ := A
  dsimp only [Pt.U, Pt.locs, Pt.cells, Pt.slots] at h1 h2 h3 h4 h5 X hn hPc ⊢
  obtain ⟨methY, cY, hmY, hcY, -, hlY, -, -, -, -⟩ := Cond.code_spec hn h2
  obtain ⟨kY, hkY, -⟩ := className_of_methodNamed hn
  have hinitY : kY.init = .initialized := Cond.initialized_spec (findClass_of_methodNamed hn) hkY h3
  have h : At U g.method c below := by rw [hg]; exact X.here
  have hlocals9 : W9 + (maxL + 11) + (headSpec ws rm).room.locals ≤ R.locals := hlocals
  have happ : (headSpec ws rm).appliesLoose y e.platform (U.calling g mk a) = true :=
    Spec.appliesLoose_calling (g := g) h hdg hn hkY hinitY
      (X.room_calling (g := g) (R' := (headSpec ws rm).room) hsize hmY hcY hframes (by rw [hlY]; omega) h4 h5) h1
  obtain ⟨mid, hmid⟩ := h.above
  have hfr : (U.setTop g).frames = (.java g :: mid) ++ below := by rw [State.frames_setTop' g h.top, hmid]; rfl
  obtain ⟨o, s₂, hsteps, -, hend, hq⟩ := Steps.callFree hM p X.admits X.cas X.clock (acts := []) hfr happ hPc trivial
  have hq' : vx_Q Qc XC mc ms free a (U.calling g mk a) o s₂ := hq
  rw [State.frames_setTop' g h.top] at hend
  obtain ⟨g₀, hg0⟩ := Option.isSome_iff_exists.mp h.top
  obtain ⟨r, hr⟩ := State.topJava?_eq_some.mp hg0
  have hr' : (({ U with heap := s₂.heap, slotsUsed := s₂.slotsUsed } : State).setVm s₂.vm).frames = .java g₀ :: r := hr
  rcases hq' with ⟨hqc, L, hfe, hL⟩ | ⟨q, rfl, E, ce, L, hx, hce, hcv, hcl, hW₂, hsm, hL⟩
  · obtain ⟨⟨v, rfl⟩, hW₂, e2, q2, q3, q4, q5, q6⟩ := id hfe
    have e3 : s₂ = ({ (U.calling g mk a).setFrames s₂.frames with heap := s₂.heap, slotsUsed := s₂.slotsUsed } : State).setVm s₂.vm := by
      have : s₂ = ({ s₂ with vm := (U.calling g mk a).vm } : State).setVm s₂.vm := rfl
      rw [e2] at this
      exact this
    obtain ⟨c₂, i₂, len₂, hc₂, hd₂, hf₂⟩ := hend
    have hW' : U.WarmedH s₂.vm := hW₂
    have hcc : c₂ = c := by
      have h1 : s₂.code? g.method = U.code? g.method := by
        rw [State.code?_eq, State.code?_eq, hW'.alike.method?]
      exact Option.some.inj (hc₂.symm.trans (h1.trans h.code))
    subst hcc
    have hlen : len₂ = len := by rw [hdg] at hd₂; cases hd₂; rfl
    subst hlen
    have hs₂ : s₂ = (({ U with heap := s₂.heap, slotsUsed := s₂.slotsUsed } : State).setVm s₂.vm).setTop { g with pc := g.pc + len₂, stack := v.toList ++ g.stack } := by
      refine e3.trans ?_
      rw [hf₂, State.calling_eq h.top, State.setFrames_setFrames, State.setTop_of_frames _ hr', hr]
      rfl
    have hsame : U.sameButNew ({ U with heap := s₂.heap, slotsUsed := s₂.slotsUsed } : State) L mc ms := by
      refine ⟨?_, q2, q3, q4, q5, q6⟩
      obtain ⟨t, ht, -⟩ := State.frames_cons hr
      show ({ U with heap := s₂.heap, slotsUsed := s₂.slotsUsed } : State) = { U.setFrames U.frames with heap := s₂.heap, slotsUsed := s₂.slotsUsed }
      rw [State.setFrames_self ht]
    subst hg
    refine Or.inl ⟨v, ⟨(({ U with heap := s₂.heap, slotsUsed := s₂.slotsUsed } : State).setVm s₂.vm), Ls ++ L, c0 + mc, s0 + ms⟩,
      ⟨X.admits, X.cas, X.clock, X.frames, X.room, X.hears, X.method, X.code, (X.here.setHeapUsed s₂.heap s₂.slotsUsed).setVm hW'.alike, X.tail, State.WarmedH.trans X.warmed hW', X.limits, X.bytes, X.same.trans (hsame.setVm s.vm)⟩,
      ⟨g, mk, s₂, L, rfl, rfl, hqc, rfl, hL, rfl, rfl⟩, ?_⟩
    show Steps p.tables e below _ ((({ U with heap := s₂.heap, slotsUsed := s₂.slotsUsed } : State).setVm s₂.vm).setTop { g with pc := g.pc + len₂, stack := v.toList ++ g.stack })
    rw [← hs₂]
    exact hsteps
  · obtain ⟨e2, q2, q3, q4, q5, q6⟩ := id hsm
    have e3 : s₂ = ({ (U.calling g mk a).setFrames s₂.frames with heap := s₂.heap, slotsUsed := s₂.slotsUsed } : State).setVm s₂.vm := by
      have : s₂ = ({ s₂ with vm := (U.calling g mk a).vm } : State).setVm s₂.vm := rfl
      rw [e2] at this
      exact this
    have hf₂ : s₂.frames = .throwing q :: .java g :: U.frames.tail := hend
    have hW' : U.WarmedH s₂.vm := hW₂
    have hs₂ : s₂ = ((({ U with heap := s₂.heap, slotsUsed := s₂.slotsUsed } : State).setVm s₂.vm).setTop g).pushFrame (.throwing q) := by
      refine e3.trans ?_
      rw [hf₂, State.calling_eq h.top, State.setFrames_setFrames, State.pushFrame, State.frames_setTop _ hr', State.setTop_of_frames _ hr', State.setFrames_setFrames, hr]
      rfl
    have hsame : U.sameButNew ({ U with heap := s₂.heap, slotsUsed := s₂.slotsUsed } : State) L mc ms := by
      refine ⟨?_, q2, q3, q4, q5, q6⟩
      obtain ⟨t, ht, -⟩ := State.frames_cons hr
      show ({ U with heap := s₂.heap, slotsUsed := s₂.slotsUsed } : State) = { U.setFrames U.frames with heap := s₂.heap, slotsUsed := s₂.slotsUsed }
      rw [State.setFrames_self ht]
    subst hg
    refine Or.inr ⟨q, ⟨(({ U with heap := s₂.heap, slotsUsed := s₂.slotsUsed } : State).setVm s₂.vm), Ls ++ L, c0 + mc, s0 + ms⟩,
      ⟨X.admits, X.cas, X.clock, X.frames, X.room, X.hears, X.method, X.code, (X.here.setHeapUsed s₂.heap s₂.slotsUsed).setVm hW'.alike, X.tail, State.WarmedH.trans X.warmed hW', X.limits, X.bytes, X.same.trans (hsame.setVm s.vm)⟩,
      ⟨g, mk, s₂, L, E, ce, rfl, rfl, hx, hce, hcv, hcl, rfl, hL, rfl, rfl⟩, ?_⟩
    show Steps p.tables e below _ (((({ U with heap := s₂.heap, slotsUsed := s₂.slotsUsed } : State).setVm s₂.vm).setTop g).pushFrame (.throwing q))
    rw [← hs₂]
    exact hsteps
end Payer
section Calls
variable {p : Program} {l : Launch} {e : Env} {R : Room} {s : State} {m : MethodId} {args : Array Value} {below : List Frame} {meth : Method} {c : Code} {T : State} {locs : List Loc} {cells slots : Nat}
theorem vx_callV (X : Stand p l e R s m args below meth c T locs cells slots) (hexec : p.tables.exec = Jvm.exec) {own C : String} {index : Nat} {y : MethodName} {bytes : ByteArray} {maxL : Nat} {ret : Option FieldType}
    (hown : s.vm.findClass own = some m.cls) (hlink : (Cond.methodLink own index y).before args s = true) (hinst : (Cond.instanceMethod y).before args s = true) (hsel : (Cond.selects C y y).before args s = true)
    (hcode : (Cond.code y bytes maxL ret).before args s = true) (hy : y.cls ≠ "java/lang/invoke/MethodHandle" ∧ y.cls ≠ "java/lang/invoke/VarHandle")
    {W9 : Nat} {Pre : Pt → Array Value → Prop} {Post : Pt → Array Value → Option Value → Pt → Prop} {PostX : Pt → Array Value → Addr → Pt → Prop} (hK : vx_Back l R p e below s args y 3 W9 Pre Post PostX)
    {b : Addr} {cellB : Cell} (hcell : T.heap[b]? = some cellB) (hobj : cellB.vm.isStatics = false) (hcls : s.vm.findClass C = some cellB.cls)
    {g : JFrame} (hg : g.method = m) (hsize : g.locals.size = c.maxLocals) {argsL rest : List Value} (hlen : ∀ sig, parseMethodDescriptor y.desc = some sig → argsL.length = sig.parameters.length)
    (hstack : g.stack = argsL.reverse ++ .ref b :: rest) (hW : 2 * g.monitorRoom + (rest.map fun v => v.category).sum ≤ W9) (hdg : decode c.code g.pc = .ok (.invokevirtual index, 3))
    (hpre : ∀ vm₁, s.WarmedH vm₁ → Pre ⟨T.setVm vm₁, locs, cells, slots⟩ (Value.ref b :: argsL).toArray) :
    (∃ (v : Option Value) (vm₁ : Vm) (B : Pt), s.WarmedH vm₁ ∧ Stand p l e R s m args below meth c B.U B.locs B.cells B.slots ∧ Post ⟨T.setVm vm₁, locs, cells, slots⟩ (Value.ref b :: argsL).toArray v B ∧
      ∀ target, Steps p.tables e below (B.U.setTop { g with pc := g.pc + 3, stack := v.toList ++ rest }) target → Steps p.tables e below (T.setTop g) target) ∨
    (∃ (q : Addr) (vm₁ : Vm) (B : Pt), s.WarmedH vm₁ ∧ Stand p l e R s m args below meth c B.U B.locs B.cells B.slots ∧ PostX ⟨T.setVm vm₁, locs, cells, slots⟩ (Value.ref b :: argsL).toArray q B ∧
      Steps p.tables e below (T.setTop g) ((B.U.setTop { g with stack := rest }).pushFrame (.throwing q))) := by
  obtain ⟨mk, methM, hnamed, hmethM, hstM, habM⟩ := Cond.instanceMethod_spec hinst
  obtain ⟨methM', cM, hmethM', -, -, -, -, -, -, hsigM⟩ := Cond.code_spec hnamed hcode
  cases hmethM.symm.trans hmethM'
  obtain ⟨c2, r2, m2, q1, q2, q3, q4, kP, hkP, hkPi⟩ := Cond.selects_spec hsel
  cases hcls.symm.trans q1
  cases (State.methodFound?_of_named hnamed hy).symm.trans q2
  cases hnamed.symm.trans q3
  have hselP : selectMethod e.platform s.vm cellB.cls mk = .method mk := by rw [Launch.admits_selectMethod X.admits]; exact q4
  obtain ⟨vm₁, X₁, hstep₁⟩ := X.invokevirtual hexec hown hlink hnamed hmethM hstM hkP hkPi hy (a := b) (cell := cellB) hcell
    (fun z h => by rw [h] at hobj; cases hobj) hselP hmethM habM hkP hkPi (g := g) hg (argsL := argsL) (rest := rest) (hlen _ hsigM) hstack hdg
  rcases hK m meth c ⟨T.setVm vm₁, locs, cells, slots⟩ { g with stack := rest } (.invokevirtual index) mk (Value.ref b :: argsL).toArray X₁ hg hsize hdg hW (X₁.named hnamed) (hpre vm₁ X₁.warmed) with ⟨v, B, X', hpost, hsteps⟩ | ⟨q, B, X', hpost, hsteps⟩
  · exact Or.inl ⟨v, vm₁, B, X₁.warmed, X', hpost, fun target h => hstep₁ _ fun acts => by rw [doInvoke_state]; exact hsteps.trans h⟩
  · exact Or.inr ⟨q, vm₁, B, X₁.warmed, X', hpost, hstep₁ _ fun acts => by rw [doInvoke_state]; exact hsteps⟩
theorem vx_callS (X : Stand p l e R s m args below meth c T locs cells slots) (hexec : p.tables.exec = Jvm.exec) {own : String} {index : Nat} {y : MethodName} {bytes : ByteArray} {maxL : Nat} {ret : Option FieldType}
    (hown : s.vm.findClass own = some m.cls) (hlink : (Cond.methodLink own index y).before args s = true) (hstat : (Cond.static y).before args s = true) (hinit : (Cond.initialized y.cls).before args s = true)
    (hcode : (Cond.code y bytes maxL ret).before args s = true) (hy : y.cls ≠ "java/lang/invoke/MethodHandle" ∧ y.cls ≠ "java/lang/invoke/VarHandle")
    {W9 : Nat} {Pre : Pt → Array Value → Prop} {Post : Pt → Array Value → Option Value → Pt → Prop} {PostX : Pt → Array Value → Addr → Pt → Prop} (hK : vx_Back l R p e below s args y 3 W9 Pre Post PostX)
    {g : JFrame} (hg : g.method = m) (hsize : g.locals.size = c.maxLocals) {argsL rest : List Value} (hlen : ∀ sig, parseMethodDescriptor y.desc = some sig → argsL.length = sig.parameters.length)
    (hstack : g.stack = argsL.reverse ++ rest) (hW : 2 * g.monitorRoom + (rest.map fun v => v.category).sum ≤ W9) (hdg : decode c.code g.pc = .ok (.invokestatic index, 3))
    (hpre : ∀ vm₁, s.WarmedH vm₁ → Pre ⟨T.setVm vm₁, locs, cells, slots⟩ argsL.toArray) :
    (∃ (v : Option Value) (vm₁ : Vm) (B : Pt), s.WarmedH vm₁ ∧ Stand p l e R s m args below meth c B.U B.locs B.cells B.slots ∧ Post ⟨T.setVm vm₁, locs, cells, slots⟩ argsL.toArray v B ∧
      ∀ target, Steps p.tables e below (B.U.setTop { g with pc := g.pc + 3, stack := v.toList ++ rest }) target → Steps p.tables e below (T.setTop g) target) ∨
    (∃ (q : Addr) (vm₁ : Vm) (B : Pt), s.WarmedH vm₁ ∧ Stand p l e R s m args below meth c B.U B.locs B.cells B.slots ∧ PostX ⟨T.setVm vm₁, locs, cells, slots⟩ argsL.toArray q B ∧
      Steps p.tables e below (T.setTop g) ((B.U.setTop { g with stack := rest }).pushFrame (.throwing q))) := by
  obtain ⟨mk, hnamed⟩ := Cond.code_named hcode
  obtain ⟨methM, cM, hmethM, -, -, -, -, -, -, hsigM⟩ := Cond.code_spec hnamed hcode
  have hstatic : methM.isStatic = true := Cond.static_spec hnamed hmethM hstat
  obtain ⟨kP, hkP, -⟩ := className_of_methodNamed hnamed
  have hinitP : kP.init = .initialized := Cond.initialized_spec (findClass_of_methodNamed hnamed) hkP hinit
  obtain ⟨vm₁, X₁, hstep₁⟩ := X.invokestatic hexec hown hlink hnamed hmethM hstatic hkP hinitP hy (g := g) hg (argsL := argsL) (rest := rest) (hlen _ hsigM) hstack hdg
  rcases hK m meth c ⟨T.setVm vm₁, locs, cells, slots⟩ { g with stack := rest } (.invokestatic index) mk argsL.toArray X₁ hg hsize hdg hW (X₁.named hnamed) (hpre vm₁ X₁.warmed) with ⟨v, B, X', hpost, hsteps⟩ | ⟨q, B, X', hpost, hsteps⟩
  · exact Or.inl ⟨v, vm₁, B, X₁.warmed, X', hpost, fun target h => hstep₁ _ fun acts => by rw [doInvoke_state]; exact hsteps.trans h⟩
  · exact Or.inr ⟨q, vm₁, B, X₁.warmed, X', hpost, hstep₁ _ fun acts => by rw [doInvoke_state]; exact hsteps⟩
end Calls
theorem vx_cls {s : State} {T : State} {vm₁ : Vm} {E : String} {k : ClassId} (hW : s.WarmedH vm₁) (h : (T.setVm vm₁).vm.findClass E = some k) : s.vm.findClass E = some k := by
  have h1 : vm₁.findClass E = some k := h
  rw [hW.alike.findClass] at h1
  exact h1
/-- the method's frame g, with q thrown over it -/
def vx_W (p : Program) (l : Launch) (e : Env) (R : Room) (s : State) (m : MethodId) (args : Array Value) (below : List Frame) (meth : Method) (c : Code) (H : Heap) (locs : List Loc) (cells slots : Nat) (Q : State → Prop) (g : JFrame) (q : Addr) : Prop :=
  ∀ T : State, T.heap = H → Stand p l e R s m args below meth c T locs cells slots → ∃ t, Steps p.tables e below ((T.setTop g).pushFrame (.throwing q)) t ∧ Q t
def vx_Run (p : Program) (l : Launch) (e : Env) (R : Room) (s : State) (m : MethodId) (args : Array Value) (below : List Frame) (meth : Method) (c : Code) (H : Heap) (locs : List Loc) (cells slots mc ms : Nat) (g : JFrame) (rest : List Value) (Qa : State → Outcome → State → Prop) (XC : String → State → State → Prop) (free : Addr → Prop) : Prop :=
  ∀ T : State, T.heap = H → Stand p l e R s m args below meth c T locs cells slots →
    (∃ (v : Option Value) (st₀ t T' : State) (L : List Loc), st₀.heap = H ∧ Stand p l e R s m args below meth c T' (locs ++ L) (cells + mc) (slots + ms) ∧ (∀ q ∈ L, free q.base) ∧ T'.heap = t.heap ∧ T'.vm = t.vm ∧ Qa st₀ (.returned v) t ∧
      Goes p e below T g T' { g with pc := g.pc + 3, stack := v.toList ++ rest }) ∨
    (∃ (q : Addr) (st₀ t T' : State) (L : List Loc) (E : String) (ce : Cell), st₀.heap = H ∧ Stand p l e R s m args below meth c T' (locs ++ L) (cells + mc) (slots + ms) ∧ (∀ z ∈ L, free z.base) ∧ T'.heap = t.heap ∧ T'.vm = t.vm ∧ XC E st₀ t ∧ t.heap[q]? = some ce ∧ ce.vm = .none ∧ s.vm.findClass E = some ce.cls ∧
      Steps p.tables e below (T.setTop g) ((T'.setTop { g with stack := rest }).pushFrame (.throwing q)))
def vx_X {S : Type} (px : S → Prop) (B : String → S → State → Prop) (A : Nat → Prop) : String → State → State → Prop := fun E st t => ∃ u : S, px u ∧ B E u t ∧ va_F A st t
section Runs
variable {p : Program} {l : Launch} {e : Env} {R : Room} {s : State} {m : MethodId} {args : Array Value} {below : List Frame} {meth : Method} {c : Code} {H : Heap} {locs : List Loc} {cells slots : Nat}
variable {y : MethodName} {bytes cc : ByteArray} {maxL nL mc ms n index : Nat} {ret : Option FieldType} {ws : List Cond} {rm : Room} {Pc : Array Value → State → Prop} {Qc : Array Value → State → Outcome → State → Prop} {XC : String → State → State → Prop} {free : Addr → Prop} {Ts : List Cond} {own C : String} {b : Addr} {As rest : List Value} {g : JFrame}
theorem vx_callBack (cb : CallB R s args own index y bytes maxL ret ws rm mc ms n) (hM : vx_Met l y ws rm Pc Qc XC mc ms free) (hbl : FrameBlind Pc) : vx_Back l R p e below s args y 3 8 (PreOf R mc ms Pc) (PostOf Qc mc ms free) (vx_Post XC mc ms free) := by
  obtain ⟨hrc, hrs, hfr, hlo, hws, hcw, -, hini, -⟩ := cb
  exact vx_back (bytes := bytes) (maxL := maxL) (ret := ret) hM hbl hrc hrs hfr hlo hws hcw (fun a' U hW => word_at hW (Or.inl (by first | rfl | simp [Cond.onTables, Cond.keeps, Cond.steady])) hini)
theorem vx_runV (S : CallFix p m c cc nL s args Ts own) (hM : vx_Met l y ws rm Pc Qc XC mc ms free) (cw : CallW R s args own C index y bytes maxL ret ws rm mc ms n) (hp : PreV s H C b Pc As)
    (hg : g.method = m) (hn : As.length = n) (hsize : g.locals.size = nL) (hstack : g.stack = As.reverse ++ .ref b :: rest) (hW : 2 * g.monitorRoom + (rest.map fun v => v.category).sum ≤ 8) (hdg : decode cc g.pc = .ok (.invokevirtual index, 3)) (hf : cells + mc ≤ R.cells ∧ slots + ms ≤ R.slots) :
    vx_Run p l e R s m args below meth c H locs cells slots mc ms g rest (Qc (Value.ref b :: As).toArray) XC free := by
  have hK : vx_Back l R p e below s args y 3 8 (PreOf R mc ms Pc) (PostOf Qc mc ms free) (vx_Post XC mc ms free) := vx_callBack cw.1 hM hp.1
  obtain ⟨⟨-, -, -, -, -, -, hcode, -, hy, hlen, hl⟩, hin, hse⟩ := cw
  obtain ⟨hx, hb, hml, ho, -⟩ := S
  obtain ⟨-, ⟨cellB, hcB, hoB, hclB⟩, hPc⟩ := hp
  intro T hT X
  rcases vx_callV X hx (C := C) (bytes := bytes) (maxL := maxL) (ret := ret) ho hl hin hse hcode hy hK (by rw [hT]; exact hcB) hoB hclB hg (hsize.trans hml.symm) (argsL := As) (rest := rest) (fun sig h => hn.trans (hlen sig h)) hstack hW (by rw [hb]; exact hdg)
    (fun vm₁ hW₁ => ⟨hf.1, hf.2, hPc (T.setVm vm₁) hT hW₁⟩) with ⟨v, vm₁, ⟨U', l2, c2, s2⟩, hW₁, X', ⟨g', mk, t, L, e1, e2, hq, h1, hL, h2, h3⟩, st⟩ | ⟨q, vm₁, ⟨U', l2, c2, s2⟩, hW₁, X', ⟨g', mk, t, L, E, ce, e1, e2, hq, hce, hcv, hcl, h1, hL, h2, h3⟩, st⟩
  · dsimp only [Pt.U, Pt.locs, Pt.cells, Pt.slots] at X' e1 e2 h1 h2 h3 st
    subst h1; subst h2; subst h3
    exact Or.inl ⟨v, (T.setVm vm₁).calling g' mk (Value.ref b :: As).toArray, t, U', L, hT, X', hL, e1, e2, hq, st⟩
  · dsimp only [Pt.U, Pt.locs, Pt.cells, Pt.slots] at X' e1 e2 h1 h2 h3 st hcl
    subst h1; subst h2; subst h3
    exact Or.inr ⟨q, (T.setVm vm₁).calling g' mk (Value.ref b :: As).toArray, t, U', L, E, ce, hT, X', hL, e1, e2, hq, hce, hcv, vx_cls hW₁ hcl, st⟩
theorem vx_runS (S : CallFix p m c cc nL s args Ts own) (hM : vx_Met l y ws rm Pc Qc XC mc ms free) (cw : CallB R s args own index y bytes maxL ret ws rm mc ms n ∧ (Cond.static y).before args s = true) (hp : PreS s H Pc As)
    (hg : g.method = m) (hn : As.length = n) (hsize : g.locals.size = nL) (hstack : g.stack = As.reverse ++ rest) (hW : 2 * g.monitorRoom + (rest.map fun v => v.category).sum ≤ 8) (hdg : decode cc g.pc = .ok (.invokestatic index, 3)) (hf : cells + mc ≤ R.cells ∧ slots + ms ≤ R.slots) :
    vx_Run p l e R s m args below meth c H locs cells slots mc ms g rest (Qc As.toArray) XC free := by
  have hK : vx_Back l R p e below s args y 3 8 (PreOf R mc ms Pc) (PostOf Qc mc ms free) (vx_Post XC mc ms free) := vx_callBack cw.1 hM hp.1
  obtain ⟨⟨-, -, -, -, -, -, hcode, hini, hy, hlen, hl⟩, hstt⟩ := cw
  obtain ⟨hx, hb, hml, ho, -⟩ := S
  intro T hT X
  rcases vx_callS X hx (bytes := bytes) (maxL := maxL) (ret := ret) ho hl hstt hini hcode hy hK hg (hsize.trans hml.symm) (argsL := As) (rest := rest) (fun sig h => hn.trans (hlen sig h)) hstack hW (by rw [hb]; exact hdg)
    (fun vm₁ hW₁ => ⟨hf.1, hf.2, hp.2 (T.setVm vm₁) hT hW₁⟩) with ⟨v, vm₁, ⟨U', l2, c2, s2⟩, hW₁, X', ⟨g', mk, t, L, e1, e2, hq, h1, hL, h2, h3⟩, st⟩ | ⟨q, vm₁, ⟨U', l2, c2, s2⟩, hW₁, X', ⟨g', mk, t, L, E, ce, e1, e2, hq, hce, hcv, hcl, h1, hL, h2, h3⟩, st⟩
  · dsimp only [Pt.U, Pt.locs, Pt.cells, Pt.slots] at X' e1 e2 h1 h2 h3 st
    subst h1; subst h2; subst h3
    exact Or.inl ⟨v, (T.setVm vm₁).calling g' mk As.toArray, t, U', L, hT, X', hL, e1, e2, hq, st⟩
  · dsimp only [Pt.U, Pt.locs, Pt.cells, Pt.slots] at X' e1 e2 h1 h2 h3 st hcl
    subst h1; subst h2; subst h3
    exact Or.inr ⟨q, (T.setVm vm₁).calling g' mk As.toArray, t, U', L, E, ce, hT, X', hL, e1, e2, hq, hce, hcv, vx_cls hW₁ hcl, st⟩
end Runs
section Rows
variable {p : Program} {l : Launch} {e : Env} {R : Room} {s : State} {m : MethodId} {args : Array Value} {below : List Frame} {meth : Method} {c : Code} {H : Heap} {locs : List Loc} {cells slots : Nat} {Q : State → Prop}
variable {mc ms : Nat} {free : Addr → Prop} {A0 A1 : Nat → Prop} {H0 : Heap} {a : Array Value} {pc : Nat} {ls : Array Slot} {st0 rest : List Value}
theorem vx_keep {st₀ t T' : State} {L : List Loc} (h0 : st₀.heap = H) (e1 : T'.heap = t.heap) (hS : va_S A0 H0 H locs) (hA : ∀ q, q < H.size → A1 q → A0 q) (hf : ∀ q, free q → A0 q) (hL : ∀ q ∈ L, free q.base) (hF : va_F A1 st₀ t) :
    H.size ≤ T'.heap.size ∧ (∀ q : Nat, q < H.size → ¬ A1 q → T'.heap[q]? = H[q]?) ∧ va_S A0 H0 T'.heap (locs ++ L) := by
  obtain ⟨hz, hk⟩ := hF
  rw [h0] at hz hk
  exact ⟨by rw [e1]; exact hz, fun q h1 h2 => by rw [e1]; exact hk q h1 h2,
    ⟨Nat.le_trans hS.1 (by rw [e1]; exact hz), fun q h1 h2 => by rw [e1, hk q (Nat.lt_of_lt_of_le h1 hS.1) (fun z => h2 (hA q (Nat.lt_of_lt_of_le h1 hS.1) z))]; exact hS.2.1 q h1 h2, fun q hq => by
      rcases List.mem_append.mp hq with h | h
      · exact hS.2.2 q h
      · exact hf _ (hL q h)⟩⟩
theorem vx_calli {S SX : Type} {post : Int32 → S → Prop} {px : SX → Prop} {B : S → State → Prop} {BX : String → SX → State → Prop} {AX : Nat → Prop} (hr : vx_Run p l e R s m args below meth c H locs cells slots mc ms (F0 m pc ls st0) rest (va_Qi post B A1 a) (vx_X px BX AX) free) (hS : va_S A0 H0 H locs) (hA : ∀ q, q < H.size → A1 q → A0 q) (hf : ∀ q, free q → A0 q) (hAX : ∀ q, q < H.size → AX q → A0 q)
    (kx : ∀ (E : String) (ce : Cell) (q9 : Addr) (u : SX) (t : State) (H1 : Heap) (locs1 : List Loc), t.heap = H1 → s.vm.Alike t.vm → px u → BX E u t → H.size ≤ H1.size → (∀ q : Nat, q < H.size → ¬ AX q → H1[q]? = H[q]?) → va_S A0 H0 H1 locs1 → H1[q9]? = some ce → ce.vm = .none → s.vm.findClass E = some ce.cls → vx_W p l e R s m args below meth c H1 locs1 (cells + mc) (slots + ms) Q (F0 m pc ls rest) q9)
    (kk : ∀ (r : Int32) (u : S) (t : State) (H1 : Heap) (locs1 : List Loc), t.heap = H1 → s.vm.Alike t.vm → post r u → B u t → H.size ≤ H1.size → (∀ q : Nat, q < H.size → ¬ A1 q → H1[q]? = H[q]?) → va_S A0 H0 H1 locs1 → W p l e R s m args below meth c H1 locs1 (cells + mc) (slots + ms) Q (F0 m (pc + 3) ls (.int r :: rest))) : W p l e R s m args below meth c H locs cells slots Q (F0 m pc ls st0) := by
  intro T hT X
  rcases hr T hT X with ⟨v, st₀, t, T', L, h0, X', hL, e1, e2, ⟨⟨r, u, hv, hp, hb⟩, hF⟩, st⟩ | ⟨q, st₀, t, T', L, E, ce, h0, X', hL, e1, e2, ⟨u, hp, hb, hF⟩, hce, hcv, hcl, st⟩
  · cases hv
    obtain ⟨k1, k2, k3⟩ := vx_keep h0 e1 hS hA hf hL hF
    obtain ⟨t2, a1, b1⟩ := kk r u t T'.heap (locs ++ L) e1.symm (by rw [← e2]; exact X'.warmed.alike) hp hb k1 k2 k3 T' rfl X'
    exact ⟨t2, st t2 a1, b1⟩
  · obtain ⟨k1, k2, k3⟩ := vx_keep h0 e1 hS hAX hf hL hF
    obtain ⟨t2, a1, b1⟩ := kx E ce q u t T'.heap (locs ++ L) e1.symm (by rw [← e2]; exact X'.warmed.alike) hp hb k1 k2 k3 (by rw [e1]; exact hce) hcv hcl T' rfl X'
    exact ⟨t2, st.trans a1, b1⟩
theorem vx_calll {S SX : Type} {post : Int64 → S → Prop} {px : SX → Prop} {B : S → State → Prop} {BX : String → SX → State → Prop} {AX : Nat → Prop} (hr : vx_Run p l e R s m args below meth c H locs cells slots mc ms (F0 m pc ls st0) rest (va_Ql post B A1 a) (vx_X px BX AX) free) (hS : va_S A0 H0 H locs) (hA : ∀ q, q < H.size → A1 q → A0 q) (hf : ∀ q, free q → A0 q) (hAX : ∀ q, q < H.size → AX q → A0 q)
    (kx : ∀ (E : String) (ce : Cell) (q9 : Addr) (u : SX) (t : State) (H1 : Heap) (locs1 : List Loc), t.heap = H1 → s.vm.Alike t.vm → px u → BX E u t → H.size ≤ H1.size → (∀ q : Nat, q < H.size → ¬ AX q → H1[q]? = H[q]?) → va_S A0 H0 H1 locs1 → H1[q9]? = some ce → ce.vm = .none → s.vm.findClass E = some ce.cls → vx_W p l e R s m args below meth c H1 locs1 (cells + mc) (slots + ms) Q (F0 m pc ls rest) q9)
    (kk : ∀ (r : Int64) (u : S) (t : State) (H1 : Heap) (locs1 : List Loc), t.heap = H1 → s.vm.Alike t.vm → post r u → B u t → H.size ≤ H1.size → (∀ q : Nat, q < H.size → ¬ A1 q → H1[q]? = H[q]?) → va_S A0 H0 H1 locs1 → W p l e R s m args below meth c H1 locs1 (cells + mc) (slots + ms) Q (F0 m (pc + 3) ls (.long r :: rest))) : W p l e R s m args below meth c H locs cells slots Q (F0 m pc ls st0) := by
  intro T hT X
  rcases hr T hT X with ⟨v, st₀, t, T', L, h0, X', hL, e1, e2, ⟨⟨r, u, hv, hp, hb⟩, hF⟩, st⟩ | ⟨q, st₀, t, T', L, E, ce, h0, X', hL, e1, e2, ⟨u, hp, hb, hF⟩, hce, hcv, hcl, st⟩
  · cases hv
    obtain ⟨k1, k2, k3⟩ := vx_keep h0 e1 hS hA hf hL hF
    obtain ⟨t2, a1, b1⟩ := kk r u t T'.heap (locs ++ L) e1.symm (by rw [← e2]; exact X'.warmed.alike) hp hb k1 k2 k3 T' rfl X'
    exact ⟨t2, st t2 a1, b1⟩
  · obtain ⟨k1, k2, k3⟩ := vx_keep h0 e1 hS hAX hf hL hF
    obtain ⟨t2, a1, b1⟩ := kx E ce q u t T'.heap (locs ++ L) e1.symm (by rw [← e2]; exact X'.warmed.alike) hp hb k1 k2 k3 (by rw [e1]; exact hce) hcv hcl T' rfl X'
    exact ⟨t2, st.trans a1, b1⟩
theorem vx_callf {S SX : Type} {post : UInt32 → S → Prop} {px : SX → Prop} {B : S → State → Prop} {BX : String → SX → State → Prop} {AX : Nat → Prop} (hr : vx_Run p l e R s m args below meth c H locs cells slots mc ms (F0 m pc ls st0) rest (va_Qf post B A1 a) (vx_X px BX AX) free) (hS : va_S A0 H0 H locs) (hA : ∀ q, q < H.size → A1 q → A0 q) (hf : ∀ q, free q → A0 q) (hAX : ∀ q, q < H.size → AX q → A0 q)
    (kx : ∀ (E : String) (ce : Cell) (q9 : Addr) (u : SX) (t : State) (H1 : Heap) (locs1 : List Loc), t.heap = H1 → s.vm.Alike t.vm → px u → BX E u t → H.size ≤ H1.size → (∀ q : Nat, q < H.size → ¬ AX q → H1[q]? = H[q]?) → va_S A0 H0 H1 locs1 → H1[q9]? = some ce → ce.vm = .none → s.vm.findClass E = some ce.cls → vx_W p l e R s m args below meth c H1 locs1 (cells + mc) (slots + ms) Q (F0 m pc ls rest) q9)
    (kk : ∀ (r : UInt32) (u : S) (t : State) (H1 : Heap) (locs1 : List Loc), t.heap = H1 → s.vm.Alike t.vm → post r u → B u t → H.size ≤ H1.size → (∀ q : Nat, q < H.size → ¬ A1 q → H1[q]? = H[q]?) → va_S A0 H0 H1 locs1 → W p l e R s m args below meth c H1 locs1 (cells + mc) (slots + ms) Q (F0 m (pc + 3) ls (.float r :: rest))) : W p l e R s m args below meth c H locs cells slots Q (F0 m pc ls st0) := by
  intro T hT X
  rcases hr T hT X with ⟨v, st₀, t, T', L, h0, X', hL, e1, e2, ⟨⟨r, u, hv, hp, hb⟩, hF⟩, st⟩ | ⟨q, st₀, t, T', L, E, ce, h0, X', hL, e1, e2, ⟨u, hp, hb, hF⟩, hce, hcv, hcl, st⟩
  · cases hv
    obtain ⟨k1, k2, k3⟩ := vx_keep h0 e1 hS hA hf hL hF
    obtain ⟨t2, a1, b1⟩ := kk r u t T'.heap (locs ++ L) e1.symm (by rw [← e2]; exact X'.warmed.alike) hp hb k1 k2 k3 T' rfl X'
    exact ⟨t2, st t2 a1, b1⟩
  · obtain ⟨k1, k2, k3⟩ := vx_keep h0 e1 hS hAX hf hL hF
    obtain ⟨t2, a1, b1⟩ := kx E ce q u t T'.heap (locs ++ L) e1.symm (by rw [← e2]; exact X'.warmed.alike) hp hb k1 k2 k3 (by rw [e1]; exact hce) hcv hcl T' rfl X'
    exact ⟨t2, st.trans a1, b1⟩
theorem vx_calld {S SX : Type} {post : UInt64 → S → Prop} {px : SX → Prop} {B : S → State → Prop} {BX : String → SX → State → Prop} {AX : Nat → Prop} (hr : vx_Run p l e R s m args below meth c H locs cells slots mc ms (F0 m pc ls st0) rest (va_Qd post B A1 a) (vx_X px BX AX) free) (hS : va_S A0 H0 H locs) (hA : ∀ q, q < H.size → A1 q → A0 q) (hf : ∀ q, free q → A0 q) (hAX : ∀ q, q < H.size → AX q → A0 q)
    (kx : ∀ (E : String) (ce : Cell) (q9 : Addr) (u : SX) (t : State) (H1 : Heap) (locs1 : List Loc), t.heap = H1 → s.vm.Alike t.vm → px u → BX E u t → H.size ≤ H1.size → (∀ q : Nat, q < H.size → ¬ AX q → H1[q]? = H[q]?) → va_S A0 H0 H1 locs1 → H1[q9]? = some ce → ce.vm = .none → s.vm.findClass E = some ce.cls → vx_W p l e R s m args below meth c H1 locs1 (cells + mc) (slots + ms) Q (F0 m pc ls rest) q9)
    (kk : ∀ (r : UInt64) (u : S) (t : State) (H1 : Heap) (locs1 : List Loc), t.heap = H1 → s.vm.Alike t.vm → post r u → B u t → H.size ≤ H1.size → (∀ q : Nat, q < H.size → ¬ A1 q → H1[q]? = H[q]?) → va_S A0 H0 H1 locs1 → W p l e R s m args below meth c H1 locs1 (cells + mc) (slots + ms) Q (F0 m (pc + 3) ls (.double r :: rest))) : W p l e R s m args below meth c H locs cells slots Q (F0 m pc ls st0) := by
  intro T hT X
  rcases hr T hT X with ⟨v, st₀, t, T', L, h0, X', hL, e1, e2, ⟨⟨r, u, hv, hp, hb⟩, hF⟩, st⟩ | ⟨q, st₀, t, T', L, E, ce, h0, X', hL, e1, e2, ⟨u, hp, hb, hF⟩, hce, hcv, hcl, st⟩
  · cases hv
    obtain ⟨k1, k2, k3⟩ := vx_keep h0 e1 hS hA hf hL hF
    obtain ⟨t2, a1, b1⟩ := kk r u t T'.heap (locs ++ L) e1.symm (by rw [← e2]; exact X'.warmed.alike) hp hb k1 k2 k3 T' rfl X'
    exact ⟨t2, st t2 a1, b1⟩
  · obtain ⟨k1, k2, k3⟩ := vx_keep h0 e1 hS hAX hf hL hF
    obtain ⟨t2, a1, b1⟩ := kx E ce q u t T'.heap (locs ++ L) e1.symm (by rw [← e2]; exact X'.warmed.alike) hp hb k1 k2 k3 (by rw [e1]; exact hce) hcv hcl T' rfl X'
    exact ⟨t2, st.trans a1, b1⟩
theorem vx_callv {S SX : Type} {post : S → Prop} {px : SX → Prop} {B : S → State → Prop} {BX : String → SX → State → Prop} {AX : Nat → Prop} (hr : vx_Run p l e R s m args below meth c H locs cells slots mc ms (F0 m pc ls st0) rest (va_Qv post B A1 a) (vx_X px BX AX) free) (hS : va_S A0 H0 H locs) (hA : ∀ q, q < H.size → A1 q → A0 q) (hf : ∀ q, free q → A0 q) (hAX : ∀ q, q < H.size → AX q → A0 q)
    (kx : ∀ (E : String) (ce : Cell) (q9 : Addr) (u : SX) (t : State) (H1 : Heap) (locs1 : List Loc), t.heap = H1 → s.vm.Alike t.vm → px u → BX E u t → H.size ≤ H1.size → (∀ q : Nat, q < H.size → ¬ AX q → H1[q]? = H[q]?) → va_S A0 H0 H1 locs1 → H1[q9]? = some ce → ce.vm = .none → s.vm.findClass E = some ce.cls → vx_W p l e R s m args below meth c H1 locs1 (cells + mc) (slots + ms) Q (F0 m pc ls rest) q9)
    (kk : ∀ (u : S) (t : State) (H1 : Heap) (locs1 : List Loc), t.heap = H1 → s.vm.Alike t.vm → post u → B u t → H.size ≤ H1.size → (∀ q : Nat, q < H.size → ¬ A1 q → H1[q]? = H[q]?) → va_S A0 H0 H1 locs1 → W p l e R s m args below meth c H1 locs1 (cells + mc) (slots + ms) Q (F0 m (pc + 3) ls (rest))) : W p l e R s m args below meth c H locs cells slots Q (F0 m pc ls st0) := by
  intro T hT X
  rcases hr T hT X with ⟨v, st₀, t, T', L, h0, X', hL, e1, e2, ⟨⟨u, hv, hp, hb⟩, hF⟩, st⟩ | ⟨q, st₀, t, T', L, E, ce, h0, X', hL, e1, e2, ⟨u, hp, hb, hF⟩, hce, hcv, hcl, st⟩
  · cases hv
    obtain ⟨k1, k2, k3⟩ := vx_keep h0 e1 hS hA hf hL hF
    obtain ⟨t2, a1, b1⟩ := kk u t T'.heap (locs ++ L) e1.symm (by rw [← e2]; exact X'.warmed.alike) hp hb k1 k2 k3 T' rfl X'
    exact ⟨t2, st t2 a1, b1⟩
  · obtain ⟨k1, k2, k3⟩ := vx_keep h0 e1 hS hAX hf hL hF
    obtain ⟨t2, a1, b1⟩ := kx E ce q u t T'.heap (locs ++ L) e1.symm (by rw [← e2]; exact X'.warmed.alike) hp hb k1 k2 k3 (by rw [e1]; exact hce) hcv hcl T' rfl X'
    exact ⟨t2, st.trans a1, b1⟩
/-- caught by the row x of this method's table; the rows ahead don't take it -/
theorem vx_catch {own name : String} {E : String} {ce : Cell} {q : Addr} (hown : s.vm.findClass own = some m.cls) (pre : List ExceptionTableEntry) (x : ExceptionTableEntry) (suf : List ExceptionTableEntry) (hsplit : c.exceptionTable.toList = pre ++ x :: suf)
    (hpass : ∀ z ∈ pre, covers z pc = false ∨ (z.catchType ≠ 0 ∧ ∃ nm : String, (Cond.classLink own z.catchType nm).before args s = true ∧ va_Nc E nm s)) (hx : covers x pc = true) (h0 : x.catchType ≠ 0)
    (hlink : (Cond.classLink own x.catchType name).before args s = true) (hcast : (Cond.castable E name).before args s = true) (hcell : H[q]? = some ce) (hv : ce.vm = .none) (hcl : s.vm.findClass E = some ce.cls)
    (kk : W p l e R s m args below meth c H locs cells slots Q (F0 m x.handlerPc ls [.ref q])) : vx_W p l e R s m args below meth c H locs cells slots Q (F0 m pc ls rest) q := by
  intro T hT X
  have hpl : e.platform.magicAccessors = ({} : Platform).magicAccessors := by rw [X.admits.platform]
  obtain ⟨c3, c4, hc3, hc4, hasg⟩ := Cond.castable_spec hcast
  cases Option.some.inj (hc3.symm.trans hcl)
  obtain ⟨c5, hc5, hcl5⟩ := Cond.classLink_spec hown hlink e.platform hpl
  cases Option.some.inj (hc4.symm.trans hc5)
  obtain ⟨vm', X', st⟩ := X.thenCaughtThrough q (g := F0 m pc ls rest) rfl (Steps.refl _) (by rw [hT]; exact hcell) (by rw [hv]; rfl) (by obtain ⟨k9, h9, -⟩ := Vm.findClass_spec hcl; exact ⟨k9, h9⟩) pre x suf hsplit
    (fun z hz => by
      rcases hpass z hz with h | ⟨hz0, nm, hl1, hn1⟩
      · exact Or.inl h
      · obtain ⟨c6, hc6, hcl6⟩ := Cond.classLink_spec hown hl1 e.platform hpl
        obtain ⟨a8, b8, h1, h2, h3⟩ := hn1
        cases Option.some.inj (h1.symm.trans hcl)
        cases Option.some.inj (h2.symm.trans hc6)
        exact Or.inr ⟨hz0, _, hcl6, h3⟩) hx (Or.inr ⟨h0, c4, hcl5, hasg⟩)
  obtain ⟨t, a1, b1⟩ := kk (T.setVm vm') hT X'
  exact ⟨t, st.trans a1, b1⟩
end Rows
section Ends
variable {p : Program} {l : Launch} {e : Env} {R : Room} {s : State} {m : MethodId} {args : Array Value} {below : List Frame} {meth : Method} {c : Code} {H : Heap} {locs : List Loc} {cells slots : Nat} {Q : State → Prop}
variable {mc ms : Nat} {free : Addr → Prop} {A0 A1 : Nat → Prop} {H0 : Heap} {a : Array Value} {ls : Array Slot} {st0 rest : List Value}
variable {Qc : Array Value → State → Outcome → State → Prop} {XC : String → State → State → Prop}
/-- what a body that may throw owes at its end -/
def vx_MQ (below : List Frame) (Qc : Array Value → State → Outcome → State → Prop) (XC : String → State → State → Prop) (a : Array Value) (s : State) (mc ms : Nat) (free : Addr → Prop) : State → Prop := fun t =>
  ∃ o, t.status = .running ∧ Ended t below o ∧ vx_Q Qc XC mc ms free a s o t
theorem vx_ret {g : JFrame} {mc ms : Nat} (k : W p l e R s m args below meth c H locs cells slots (MQ below Qc args s mc ms free) g) : W p l e R s m args below meth c H locs cells slots (vx_MQ below Qc XC args s mc ms free) g := by
  intro T hT X
  obtain ⟨t, a1, o, b1, b2, b3, b4⟩ := k T hT X
  exact ⟨t, a1, o, b1, b2, Or.inl ⟨b3, b4⟩⟩
/-- not caught here: it goes on to the caller -/
theorem vx_widen {g : JFrame} {q : Addr} {k n : Nat} (h1 : cells ≤ k) (h2 : slots ≤ n) (kk : vx_W p l e R s m args below meth c H locs k n Q g q) : vx_W p l e R s m args below meth c H locs cells slots Q g q := fun T hT X => kk T hT (stand_widen X h1 h2)
theorem vx_out {pc : Nat} {E : String} {ce : Cell} {q : Addr} {mc ms : Nat} (hout : ∀ x ∈ c.exceptionTable.toList, covers x pc = false) (hlocks : meth.locks = false) (hcell : H[q]? = some ce) (hv : ce.vm = .none) (hcl : s.vm.findClass E = some ce.cls)
    (hx : ∀ t : State, t.heap = H → s.vm.Alike t.vm → XC E s t) (hf : ∀ z ∈ locs, free z.base) (hc : cells ≤ mc) (hs : slots ≤ ms) :
    vx_W p l e R s m args below meth c H locs cells slots (vx_MQ below Qc XC args s mc ms free) (F0 m pc ls rest) q := by
  intro T hT X
  obtain ⟨st1, hrun, hend, hW, hsm⟩ := X.leaveThrown q (g := F0 m pc ls rest) rfl rfl rfl hout hlocks
  have hcell9 : (T.setFrames (.throwing q :: below)).heap[q]? = some ce := by
    show T.heap[q]? = some ce
    rw [hT]; exact hcell
  exact ⟨_, st1, .threw q, hrun, hend, Or.inr ⟨q, rfl, E, ce, locs, hx _ hT hW.alike, hcell9, hv, hcl, hW, hsm.mono hc hs, hf⟩⟩
theorem vx_frame {U : State} {k n : Nat} (h : s.sameButNew ({ U with vm := s.vm } : State) locs k n) : s.heap.size ≤ U.heap.size ∧ ∀ q : Nat, q < s.heap.size → (∀ z ∈ locs, z.base ≠ q) → U.heap[q]? = s.heap[q]? := by
  obtain ⟨-, h2, -, -, -, h6⟩ := h
  refine ⟨h2, fun q hq hz => ?_⟩
  obtain ⟨c9, e1, e2, e3, e4⟩ := h6 q _ (Array.getElem?_eq_getElem hq)
  have hs : c9.slots = (s.heap[q]).slots := Array.ext_getElem? fun i => e4 i fun hm => hz _ hm rfl
  have h9 : c9 = s.heap[q] := by
    rw [hs] at e2
    exact e2
  have e5 : U.heap[q]? = some c9 := e1
  rw [e5, h9, Array.getElem?_eq_getElem hq]
/-- the words of a throw but the four that speak of the heap -/
def vx_no (w : Cond) : Bool := decide (w ≠ .isRef (.static Bundle.tN "UNASSIGNED_STACK" Bundle.steD)) && decide (w ≠ .isRef (.static Bundle.tN "SUPPRESSED_SENTINEL" Bundle.listD)) && decide (w ≠ .laysStatic Bundle.tN "UNASSIGNED_STACK" Bundle.steD) && decide (w ≠ .laysStatic Bundle.tN "SUPPRESSED_SENTINEL" Bundle.listD)
def vx_at0 (own : String) (ic : Nat) (X : String) (names : List String) : List Cond := (Bundle.ownAtoms0 own ic X names).filter vx_no
def vx_atS (own : String) (ic : Nat) (X : String) (names : List String) : List Cond := (Bundle.ownAtoms own ic X names).filter vx_no
/-- a word that the tables alone decide, or a good one -/
def vx_ot (w : Cond) : Bool := w.onTables || goodWord w
theorem vx_ot_at {args a' : Array Value} {s U : State} {w : Cond} (hW : s.WarmedH U.vm) (hvm : s.vm = U.vm) (hg : vx_ot w = true) (h : w.before args s = true) : w.before a' U = true := by
  simp only [vx_ot, Bool.or_eq_true] at hg
  rcases hg with hg | hg
  · exact va_tabs hg hvm h
  · exact word_at hW (good_of_word hg) h
/-- a list's words: the good ones out of the method's own list, the others by premises of their own -/
theorem vx_hat {args : Array Value} {s : State} {L B : List Cond} (h1 : ∀ w ∈ L.filter goodWord, w.before args s = true) (h2 : ∀ w ∈ L.filter (fun w => !goodWord w), w ∈ B) (h3 : ∀ w ∈ B, w.before args s = true) : ∀ w ∈ L, w.before args s = true := by
  intro w hw
  by_cases g : goodWord w = true
  · exact h1 w (List.mem_filter.mpr ⟨hw, g⟩)
  · refine h3 w (h2 w (List.mem_filter.mpr ⟨hw, ?_⟩))
    show (!goodWord w) = true
    cases hgw : goodWord w
    · rfl
    · exact absurd hgw g
theorem vx_c {args : Array Value} {s : State} {w : Cond} {B : List Cond} (h : w.before args s = true) (t : ∀ w ∈ B, w.before args s = true) : ∀ w' ∈ w :: B, w'.before args s = true := fun w' h' => (List.mem_cons.mp h').elim (fun e => by rw [e]; exact h) (t w')
theorem vx_n {args : Array Value} {s : State} : ∀ w ∈ ([] : List Cond), w.before args s = true := fun _ h => nomatch h
theorem vx_own {args : Array Value} {s : State} {L : List Cond} (h1 : ∀ w ∈ L.filter vx_no, w.before args s = true)
    (hU : (Cond.isRef (.static Bundle.tN "UNASSIGNED_STACK" Bundle.steD)).before args s = true) (hN : (Cond.isRef (.static Bundle.tN "SUPPRESSED_SENTINEL" Bundle.listD)).before args s = true)
    (lU : (Cond.laysStatic Bundle.tN "UNASSIGNED_STACK" Bundle.steD).before args s = true) (lN : (Cond.laysStatic Bundle.tN "SUPPRESSED_SENTINEL" Bundle.listD).before args s = true) : ∀ w ∈ L, w.before args s = true := by
  intro w hw
  by_cases e1 : w = .isRef (.static Bundle.tN "UNASSIGNED_STACK" Bundle.steD)
  · rw [e1]; exact hU
  · by_cases e2 : w = .isRef (.static Bundle.tN "SUPPRESSED_SENTINEL" Bundle.listD)
    · rw [e2]; exact hN
    · by_cases e3 : w = .laysStatic Bundle.tN "UNASSIGNED_STACK" Bundle.steD
      · rw [e3]; exact lU
      · by_cases e4 : w = .laysStatic Bundle.tN "SUPPRESSED_SENTINEL" Bundle.listD
        · rw [e4]; exact lN
        · exact h1 w (List.mem_filter.mpr ⟨hw, by unfold vx_no; rw [decide_eq_true e1, decide_eq_true e2, decide_eq_true e3, decide_eq_true e4]; rfl⟩)
/-- where a static field lies, its class's statics cell in H -/
def vx_L (C n d : String) (A : Nat → Prop) (U : State) (H : Heap) : Prop := ∃ (c : ClassId) (k : Class) (i : Nat) (f : Field) (a : Nat) (cell : Cell), U.vm.findClass C = some c ∧ U.fieldFound? C n d = some (c, k, i, f) ∧ f.isStatic = true ∧ k.statics = some a ∧ H[a]? = some cell ∧ cell.vm.isStatics = true ∧ cell.cls = c ∧ f.slot < cell.slots.size ∧ k.staticTypes[f.slot]? = some f.type ∧ ¬ A a
theorem vx_L.moved {C n d : String} {A : Nat → Prop} {u U : State} {H : Heap} (hvm : u.vm.Alike U.vm) (h : vx_L C n d A u H) : vx_L C n d A U H := by
  obtain ⟨c, k, i, f, a, cell, h1, h2, h3, h4, h5, h6, h7, h8, h9, h10⟩ := h
  obtain ⟨k', hi', he⟩ := State.fieldFound?_setVm hvm h2
  exact ⟨c, k', i, f, a, cell, by rw [hvm.findClass]; exact h1, hi', h3, by rw [he]; exact h4, h5, h6, h7, h8, by rw [he]; exact h9, h10⟩
theorem vx_L.kept {C n d : String} {A : Nat → Prop} {U : State} {H H1 : Heap} (h : vx_L C n d A U H) (hq : ∀ a : Nat, a < H.size → ¬ A a → H1[a]? = H[a]?) : vx_L C n d A U H1 := by
  obtain ⟨c, k, i, f, a, cell, h1, h2, h3, h4, h5, h6, h7, h8, h9, h10⟩ := h
  exact ⟨c, k, i, f, a, cell, h1, h2, h3, h4, by rw [hq a (Array.getElem?_eq_some_iff.mp h5).1 h10]; exact h5, h6, h7, h8, h9, h10⟩
theorem vx_L.narrow {C n d : String} {A B : Nat → Prop} {U : State} {H : Heap} (h : vx_L C n d A U H) (hAB : ∀ q, B q → A q) : vx_L C n d B U H := by
  obtain ⟨c, k, i, f, a, cell, h1, h2, h3, h4, h5, h6, h7, h8, h9, h10⟩ := h
  exact ⟨c, k, i, f, a, cell, h1, h2, h3, h4, h5, h6, h7, h8, h9, fun z => h10 (hAB _ z)⟩
theorem vx_L.word {C n d : String} {A : Nat → Prop} {s : State} {args : Array Value} (h : vx_L C n d A s s.heap) : (Cond.laysStatic C n d).before args s = true := by
  obtain ⟨c, k, i, f, a, cell, h1, h2, h3, h4, h5, h6, h7, h8, h9, -⟩ := h
  show (Cond.laysStatic C n d).holds args s none s [] = true
  exact Cond.laysStatic_of h1 h2 h3 h4 h5 h6 h7 h8 h9
/-- .. and what it holds: null or some reference -/
def vx_Zq (C n d : String) (A : Nat → Prop) (U : State) (H : Heap) : Prop := va_Zq C n d A U H ∧ vx_L C n d A U H
theorem vx_Zq.moved {C n d : String} {A : Nat → Prop} {u U : State} {H : Heap} (hvm : u.vm.Alike U.vm) (h : vx_Zq C n d A u H) : vx_Zq C n d A U H := ⟨va_Zq.moved hvm h.1, vx_L.moved hvm h.2⟩
theorem vx_Zq.kept {C n d : String} {A : Nat → Prop} {U : State} {H H1 : Heap} (h : vx_Zq C n d A U H) (hq : ∀ a : Nat, a < H.size → ¬ A a → H1[a]? = H[a]?) : vx_Zq C n d A U H1 := ⟨va_Zq.kept h.1 hq, vx_L.kept h.2 hq⟩
theorem vx_Zq.narrow {C n d : String} {A B : Nat → Prop} {U : State} {H : Heap} (h : vx_Zq C n d A U H) (hAB : ∀ q, B q → A q) : vx_Zq C n d B U H := ⟨va_Zq.narrow h.1 hAB, vx_L.narrow h.2 hAB⟩
theorem vx_Zqof {args : Array Value} {s : State} {C n d : String} {A : Nat → Prop} (hl : (Cond.laysStatic C n d).before args s = true) (hini : (Cond.initialized C).before args s = true) (h : (Cond.isRef (.static C n d)).before args s = true) (hA : ∀ a : Nat, a < s.heap.size → ¬ A a) : vx_Zq C n d A s s.heap := by
  refine ⟨va_Zqof hl hini h hA, ?_⟩
  obtain ⟨c, k, i, f, a, cell, h1, h2, h3, h4, h5, h6, h7, h8, h9⟩ := Cond.laysStatic_spec hl
  exact ⟨c, k, i, f, a, cell, h1, h2, h3, h4, h5, h6, h7, h8, h9, hA a (Array.getElem?_eq_some_iff.mp h5).1⟩
theorem vx_isRef {C n d : String} {v : Value} {A : Nat → Prop} {s : State} {args : Array Value} (h : va_Z C n d v A s s.heap) (hv : v.isRef = true) : (Cond.isRef (.static C n d)).before args s = true := by
  obtain ⟨cf, kf, fi, f, a, cell, h1, h2, h3, h4, h5, h6, h7, -⟩ := h
  have he : (Term.static C n d).eval args s none [] s = some v := by
    simp [Term.eval, State.fieldNamed?, h1, h2, h4, h5, h6, h7]
  simp only [Cond.before, Cond.holds, Cond.value, he]
  cases v <;> simp_all [Value.isRef]
theorem vx_isRefq {C n d : String} {A : Nat → Prop} {s : State} {args : Array Value} (h : va_Zq C n d A s s.heap) : (Cond.isRef (.static C n d)).before args s = true := by
  rcases h with h | ⟨t, h⟩
  · exact vx_isRef h rfl
  · exact vx_isRef h rfl
/-- the same frame, seen from here: as if the method were called anew in this heap -/
theorem vx_rebase {T : State} (X : Stand p l e R s m args below meth c T locs cells slots) {R' : Room} (hf : R'.frames ≤ R.frames) (hl : R'.locals ≤ R.locals) (hc : cells + R'.cells ≤ R.cells) (hs : slots + R'.slots ≤ R.slots) :
    Stand p l e R' ((T.setVm s.vm).setFrames (.invoking m args :: below)) m args below meth c T [] 0 0 := by
  have htop : (T.setVm s.vm).topJava?.isSome := X.here.top
  have hF : ((T.setVm s.vm).setFrames (.invoking m args :: below)).frames = .invoking m args :: below := State.frames_setFrames _ (State.cur_lt_of_top htop)
  obtain ⟨g₀, hg0⟩ := Option.isSome_iff_exists.mp htop
  obtain ⟨r, hr⟩ := State.topJava?_eq_some.mp hg0
  have hl9 : e.platform.stackLimits (T.setVm s.vm).me = e.platform.stackLimits s.me := X.limits
  have hb9 : (T.setVm s.vm).me.stackBytes = s.me.stackBytes := X.bytes
  refine ⟨X.admits, X.cas, X.clock, hF, ?_, X.hears, X.method, X.code, X.here, X.tail, X.warmed, ?_, ?_, ?_⟩
  · have h := X.room
    have hU : ((T.setVm s.vm).setFrames (.invoking m args :: below)).localsInUse = s.localsInUse := by
      rw [State.localsInUse_invoking hF (meth := meth) (c := c) X.method X.code, State.localsInUse_invoking X.frames X.method X.code]
    simp only [State.hasRoom, Bool.and_eq_true, decide_eq_true_eq] at h ⊢
    obtain ⟨⟨⟨⟨h1, h2, h3, h4, h5, h6⟩, h7⟩, h8⟩, h9⟩ := h
    rw [X.frames, List.length_cons] at h2 h3
    have q1 := X.heapSize
    have q2 := X.used
    simp only [hF, hU, List.length_cons, State.stackLimits_setFrames, State.stackBytes_setFrames, hl9, hb9]
    refine ⟨⟨⟨⟨by omega, by omega, by omega, by omega, by omega, h6⟩, ?_⟩, ?_⟩, X.book⟩
    · show T.heap.size + R'.cells ≤ e.platform.maxCells
      omega
    · show T.slotsUsed + R'.slots ≤ e.platform.maxSlots
      omega
  · rw [State.stackLimits_setFrames]; rfl
  · rw [State.stackBytes_setFrames]; rfl
  · refine ⟨?_, Nat.le_refl _, Nat.le_refl _, ?_, ?_, fun a c9 h9 => ⟨c9, h9, rfl, rfl, fun _ _ => rfl⟩⟩
    · obtain ⟨t, ht, -⟩ := State.frames_cons hr
      show T.setVm s.vm = { ((T.setVm s.vm).setFrames (.invoking m args :: below)).setFrames (T.setVm s.vm).frames with heap := T.heap, slotsUsed := T.slotsUsed }
      rw [State.setFrames_setFrames, State.setFrames_self ht]
      rfl
    · show T.slotsUsed = T.slotsUsed + ((T.heap.toList.drop T.heap.size).map (·.slots.size)).sum
      rw [List.drop_eq_nil_of_le (Nat.le_of_eq Array.length_toList)]
      rfl
    · show ((T.heap.toList.drop T.heap.size).map (·.slots.size)).sum ≤ 0
      rw [List.drop_eq_nil_of_le (Nat.le_of_eq Array.length_toList)]
      exact Nat.le_refl _
/-- 'throw new E()': new; dup; invokespecial; athrow -/
theorem vx_throw0 {cc : ByteArray} {pc : Nat} (hexec : p.tables.exec = Jvm.exec) (hb : c.code = cc) (hl : l.stackTraces = false) {own cls : String} {names : List String} {ik ic mc ms : Nat} {A : Nat → Prop}
    (hown : s.vm.findClass own = some m.cls) (hcls : Bundle.fit cls = true) (hnames : ∀ n ∈ names, Bundle.fit n = true)
    (hk : (Cond.classLink own ik cls).before args s = true) (hini : (Cond.initialized cls).before args s = true) (hat : ∀ w ∈ vx_at0 own ic cls names, w.before args s = true)
    (hgood : ∀ w ∈ Cond.classLink own ik cls :: Cond.initialized cls :: vx_at0 own ic cls names, vx_ot w = true)
    (hU : vx_Zq Bundle.tN "UNASSIGNED_STACK" Bundle.steD A s s.heap) (hN : vx_Zq Bundle.tN "SUPPRESSED_SENTINEL" Bundle.listD A s s.heap) (hS : va_S A s.heap H locs) (hsize : ls.size = c.maxLocals)
    (d0 : decode cc pc = .ok (.new ik, 3)) (d3 : decode cc (pc + 3) = .ok (.dup, 1)) (d4 : decode cc (pc + 4) = .ok (.invokespecial ic, 3)) (d7 : decode cc (pc + 7) = .ok (.athrow, 1))
    (hout : ∀ x ∈ c.exceptionTable.toList, covers x (pc + 7) = false)
    (hRframes : names.length + 3 < R.frames) (hRlocals : (rest.map fun v => v.category).sum + (13 * (names.length + 1) + 42) ≤ R.locals) (hRcells : cells + 1 ≤ R.cells) (hRslots : slots + 6 ≤ R.slots) (hlocks : meth.locks = false)
    (hx : ∀ t : State, s.vm.Alike t.vm → H.size ≤ t.heap.size → (∀ q : Nat, q < H.size → t.heap[q]? = H[q]?) → XC cls s t)
    (hf : ∀ z ∈ locs, free z.base) (hc : cells + 1 ≤ mc) (hs : slots + 6 ≤ ms) :
    W p l e R s m args below meth c H locs cells slots (vx_MQ below Qc XC args s mc ms free) (F0 m pc ls rest) := by
  intro T hT X
  have htr : e.platform.stackTraces = false := (show e.platform.stackTraces = l.stackTraces by rw [X.admits.platform]).trans hl
  have Y := vx_rebase X (R' := { frames := R.frames, locals := R.locals, cells := 1, slots := 6 }) (Nat.le_refl _) (Nat.le_refl _) hRcells hRslots
  obtain ⟨s', hA⟩ : ∃ z, z = (T.setVm s.vm).setFrames (.invoking m args :: below) := ⟨_, rfl⟩
  rw [← hA] at Y
  have hvm : s'.vm = s.vm := by rw [hA]; rfl
  have hhp : s'.heap = H := by rw [hA]; exact hT
  have hW0 : s.WarmedH s'.vm := by rw [hvm]; exact State.WarmedH.refl s
  have hat' : ∀ w ∈ vx_at0 own ic cls names, w.before args s' = true := fun w hw => vx_ot_at hW0 hvm.symm (hgood w (List.mem_cons_of_mem _ (List.mem_cons_of_mem _ hw))) (hat w hw)
  have hk' : (Cond.classLink own ik cls).before args s' = true := vx_ot_at hW0 hvm.symm (hgood _ List.mem_cons_self) hk
  have hini' : (Cond.initialized cls).before args s' = true := vx_ot_at hW0 hvm.symm (hgood _ (List.mem_cons_of_mem _ List.mem_cons_self)) hini
  have hU' : vx_Zq Bundle.tN "UNASSIGNED_STACK" Bundle.steD A s' s'.heap := by rw [hhp]; exact vx_Zq.moved hW0.alike (hU.kept hS.2.1)
  have hN' : vx_Zq Bundle.tN "SUPPRESSED_SENTINEL" Bundle.listD A s' s'.heap := by rw [hhp]; exact vx_Zq.moved hW0.alike (hN.kept hS.2.1)
  have h : ∀ w ∈ Bundle.ownAtoms0 own ic cls names, w.before args s' = true := vx_own hat' (vx_isRefq hU'.1) (vx_isRefq hN'.1) hU'.2.word hN'.2.word
  have hown' : s'.vm.findClass own = some m.cls := by rw [hvm]; exact hown
  have hins : (Cond.instantiable cls 6).before args s' = true := h _ (by simp [Bundle.ownAtoms0])
  obtain ⟨vm₁, cX, kX, hfX, hkX, -, -, X₁, st1⟩ := Y.newCold hexec (own := own) (C := cls) (index := ik) (n := 6) hown' hk' hins hini'
    (g := F0 m pc ls rest) rfl (by rw [hb]; exact d0) (Nat.le_refl _) (Nat.le_refl _)
  generalize hT1 : (T.setVm vm₁).pushCell { cls := cX, slots := kX.instanceTypes.map defaultValue, vm := .none } = T1 at X₁ st1
  have hcat : (Value.ref T.heap.size).category = 1 := rfl
  have hcellA : T1.heap[T.heap.size]? = some (freshCell cX kX) := by rw [← hT1]; exact State.heap_pushCell_size _ _
  have d3' : decode c.code (pc + 3) = .ok (.dup, 1) := by rw [hb]; exact d3
  obtain ⟨U, hsteps, hrun, hend, hW, hsame, ce, hce, hO⟩ := X₁.ctorThrow0 hexec htr (own := own) (cls := cls) (names := names) (ic := ic) hown' hcls hnames h (fun x hx => nomatch hx) hfX hkX hcellA (by rw [hhp, hT]; exact Nat.le_refl _)
    (g := { method := m, pc := pc + 4, locals := ls, stack := .ref T.heap.size :: .ref T.heap.size :: rest, locked := none }) rfl hsize rfl rfl (rest := rest) rfl
    (by rw [hb]; exact d4) (by rw [hb]; exact d7) hout hRframes (by simp only [List.map_cons, List.sum_cons, hcat]; omega) hlocks
  obtain ⟨f1, f2⟩ := vx_frame hsame
  rw [hhp] at f1 f2
  have hWs : s.WarmedH U.vm := State.WarmedH.trans hW0 hW
  have hcl : s.vm.findClass cls = some ce.cls := by
    have h9 := hO.cls
    rw [hvm] at h9
    exact h9
  have hall : s.sameButNew ({ U with vm := s.vm } : State) locs mc ms := by
    subst hA
    obtain ⟨e1, e2⟩ := hsame
    rw [State.setFrames_setFrames] at e1
    have h2 : (T.setVm s.vm).sameButNew ({ U with vm := s.vm } : State) [] (0 + 1) (0 + 6) := ⟨e1, e2⟩
    have h3 := X.same.trans h2
    rw [List.append_nil] at h3
    exact h3.mono hc hs
  refine ⟨U, ?_, .threw T.heap.size, hrun, hend, Or.inr ⟨T.heap.size, rfl, cls, ce, locs, hx U hWs.alike f1 (fun q hq => f2 q hq (fun z hz => nomatch hz)), hce, hO.vm, hcl, hWs, hall, hf⟩⟩
  refine st1 _ ?_
  show Steps p.tables e below (T1.setTop { method := m, pc := pc + 3, locals := ls, stack := .ref T.heap.size :: rest, locked := none }) _
  jvm_step X₁.here [X₁.here.top, hexec, d3', Value.category]
  exact hsteps
/-- 'throw new E("text")': new; dup; ldc; invokespecial; athrow -/
theorem vx_throwS {cc : ByteArray} {pc : Nat} (hexec : p.tables.exec = Jvm.exec) (hb : c.code = cc) (hl : l.stackTraces = false) {own cls text : String} {names : List String} {ik is ic mc ms sa : Nat} {A : Nat → Prop}
    (hown : s.vm.findClass own = some m.cls) (hcls : Bundle.fit cls = true) (hnames : ∀ n ∈ names, Bundle.fit n = true)
    (hk : (Cond.classLink own ik cls).before args s = true) (hini : (Cond.initialized cls).before args s = true) (hstr : vk_R own is text sa s) (hat : ∀ w ∈ vx_atS own ic cls names, w.before args s = true)
    (hgood : ∀ w ∈ Cond.classLink own ik cls :: Cond.initialized cls :: vx_atS own ic cls names, vx_ot w = true)
    (hU : vx_Zq Bundle.tN "UNASSIGNED_STACK" Bundle.steD A s s.heap) (hN : vx_Zq Bundle.tN "SUPPRESSED_SENTINEL" Bundle.listD A s s.heap) (hS : va_S A s.heap H locs) (hsize : ls.size = c.maxLocals)
    (d0 : decode cc pc = .ok (.new ik, 3)) (d3 : decode cc (pc + 3) = .ok (.dup, 1)) (d4 : decode cc (pc + 4) = .ok (.ldc is, 2)) (d6 : decode cc (pc + 6) = .ok (.invokespecial ic, 3)) (d9 : decode cc (pc + 9) = .ok (.athrow, 1))
    (hout : ∀ x ∈ c.exceptionTable.toList, covers x (pc + 9) = false)
    (hRframes : names.length + 3 < R.frames) (hRlocals : (rest.map fun v => v.category).sum + (13 * (names.length + 1) + 43) ≤ R.locals) (hRcells : cells + 1 ≤ R.cells) (hRslots : slots + 6 ≤ R.slots) (hlocks : meth.locks = false)
    (hx : ∀ t : State, s.vm.Alike t.vm → H.size ≤ t.heap.size → (∀ q : Nat, q < H.size → t.heap[q]? = H[q]?) → XC cls s t)
    (hf : ∀ z ∈ locs, free z.base) (hc : cells + 1 ≤ mc) (hs : slots + 6 ≤ ms) :
    W p l e R s m args below meth c H locs cells slots (vx_MQ below Qc XC args s mc ms free) (F0 m pc ls rest) := by
  intro T hT X
  have htr : e.platform.stackTraces = false := (show e.platform.stackTraces = l.stackTraces by rw [X.admits.platform]).trans hl
  have Y := vx_rebase X (R' := { frames := R.frames, locals := R.locals, cells := 1, slots := 6 }) (Nat.le_refl _) (Nat.le_refl _) hRcells hRslots
  obtain ⟨s', hA⟩ : ∃ z, z = (T.setVm s.vm).setFrames (.invoking m args :: below) := ⟨_, rfl⟩
  rw [← hA] at Y
  have hvm : s'.vm = s.vm := by rw [hA]; rfl
  have hhp : s'.heap = H := by rw [hA]; exact hT
  have hW0 : s.WarmedH s'.vm := by rw [hvm]; exact State.WarmedH.refl s
  have hat' : ∀ w ∈ vx_atS own ic cls names, w.before args s' = true := fun w hw => vx_ot_at hW0 hvm.symm (hgood w (List.mem_cons_of_mem _ (List.mem_cons_of_mem _ hw))) (hat w hw)
  have hk' : (Cond.classLink own ik cls).before args s' = true := vx_ot_at hW0 hvm.symm (hgood _ List.mem_cons_self) hk
  have hini' : (Cond.initialized cls).before args s' = true := vx_ot_at hW0 hvm.symm (hgood _ (List.mem_cons_of_mem _ List.mem_cons_self)) hini
  have hU' : vx_Zq Bundle.tN "UNASSIGNED_STACK" Bundle.steD A s' s'.heap := by rw [hhp]; exact vx_Zq.moved hW0.alike (hU.kept hS.2.1)
  have hN' : vx_Zq Bundle.tN "SUPPRESSED_SENTINEL" Bundle.listD A s' s'.heap := by rw [hhp]; exact vx_Zq.moved hW0.alike (hN.kept hS.2.1)
  have h : ∀ w ∈ Bundle.ownAtoms own ic cls names, w.before args s' = true := vx_own hat' (vx_isRefq hU'.1) (vx_isRefq hN'.1) hU'.2.word hN'.2.word
  have hown' : s'.vm.findClass own = some m.cls := by rw [hvm]; exact hown
  have hins : (Cond.instantiable cls 6).before args s' = true := h _ (by simp [Bundle.ownAtoms])
  obtain ⟨vm₁, cX, kX, hfX, hkX, -, -, X₁, st1⟩ := Y.newCold hexec (own := own) (C := cls) (index := ik) (n := 6) hown' hk' hins hini'
    (g := F0 m pc ls rest) rfl (by rw [hb]; exact d0) (Nat.le_refl _) (Nat.le_refl _)
  generalize hT1 : (T.setVm vm₁).pushCell { cls := cX, slots := kX.instanceTypes.map defaultValue, vm := .none } = T1 at X₁ st1
  have hcat : (Value.ref T.heap.size).category = 1 := rfl
  have hcellA : T1.heap[T.heap.size]? = some (freshCell cX kX) := by rw [← hT1]; exact State.heap_pushCell_size _ _
  have d3' : decode c.code (pc + 3) = .ok (.dup, 1) := by rw [hb]; exact d3
  have d4' : decode c.code (pc + 4) = .ok (.ldc is, 2) := by rw [hb]; exact d4
  have hstr' : vk_R own is text sa s' := vk_R.warm hW0 hstr
  obtain ⟨U, hsteps, hrun, hend, hW, hsame, ce, hce, hO⟩ := X₁.ctorThrowS hexec htr (own := own) (cls := cls) (names := names) (ic := ic) hown' hcls hnames h (fun x hx => nomatch hx) hfX hkX hcellA (by rw [hhp, hT]; exact Nat.le_refl _) (msg := .ref sa) rfl
    (g := { method := m, pc := pc + 6, locals := ls, stack := .ref sa :: .ref T.heap.size :: .ref T.heap.size :: rest, locked := none }) rfl hsize rfl rfl (rest := rest) rfl
    (by rw [hb]; exact d6) (by rw [hb]; exact d9) hout hRframes (by simp only [List.map_cons, List.sum_cons, hcat]; omega) hlocks
  obtain ⟨f1, f2⟩ := vx_frame hsame
  rw [hhp] at f1 f2
  have hWs : s.WarmedH U.vm := State.WarmedH.trans hW0 hW
  have hcl : s.vm.findClass cls = some ce.cls := by
    have h9 := hO.cls
    rw [hvm] at h9
    exact h9
  have hall : s.sameButNew ({ U with vm := s.vm } : State) locs mc ms := by
    subst hA
    obtain ⟨e1, e2⟩ := hsame
    rw [State.setFrames_setFrames] at e1
    have h2 : (T.setVm s.vm).sameButNew ({ U with vm := s.vm } : State) [] (0 + 1) (0 + 6) := ⟨e1, e2⟩
    have h3 := X.same.trans h2
    rw [List.append_nil] at h3
    exact h3.mono hc hs
  refine ⟨U, ?_, .threw T.heap.size, hrun, hend, Or.inr ⟨T.heap.size, rfl, cls, ce, locs, hx U hWs.alike f1 (fun q hq => f2 q hq (fun z hz => nomatch hz)), hce, hO.vm, hcl, hWs, hall, hf⟩⟩
  refine st1 _ ?_
  show Steps p.tables e below (T1.setTop { method := m, pc := pc + 3, locals := ls, stack := .ref T.heap.size :: rest, locked := none }) _
  jvm_step X₁.here [X₁.here.top, hexec, d3', Value.category]
  exact X₁.ldcString hexec (own := own) (text := text) (index := is) (a := sa) hown' hstr'.1 hstr'.2
    (g := { method := m, pc := pc + 4, locals := ls, stack := .ref T.heap.size :: .ref T.heap.size :: rest, locked := none }) rfl d4' _ hsteps
/-- 'throw new E("text")', the text by a wide index -/
theorem vx_throwSW {cc : ByteArray} {pc : Nat} (hexec : p.tables.exec = Jvm.exec) (hb : c.code = cc) (hl : l.stackTraces = false) {own cls text : String} {names : List String} {ik is ic mc ms sa : Nat} {A : Nat → Prop}
    (hown : s.vm.findClass own = some m.cls) (hcls : Bundle.fit cls = true) (hnames : ∀ n ∈ names, Bundle.fit n = true)
    (hk : (Cond.classLink own ik cls).before args s = true) (hini : (Cond.initialized cls).before args s = true) (hstr : vk_R own is text sa s) (hat : ∀ w ∈ vx_atS own ic cls names, w.before args s = true)
    (hgood : ∀ w ∈ Cond.classLink own ik cls :: Cond.initialized cls :: vx_atS own ic cls names, vx_ot w = true)
    (hU : vx_Zq Bundle.tN "UNASSIGNED_STACK" Bundle.steD A s s.heap) (hN : vx_Zq Bundle.tN "SUPPRESSED_SENTINEL" Bundle.listD A s s.heap) (hS : va_S A s.heap H locs) (hsize : ls.size = c.maxLocals)
    (d0 : decode cc pc = .ok (.new ik, 3)) (d3 : decode cc (pc + 3) = .ok (.dup, 1)) (d4 : decode cc (pc + 4) = .ok (.ldc_w is, 3)) (d7 : decode cc (pc + 7) = .ok (.invokespecial ic, 3)) (d10 : decode cc (pc + 10) = .ok (.athrow, 1))
    (hout : ∀ x ∈ c.exceptionTable.toList, covers x (pc + 10) = false)
    (hRframes : names.length + 3 < R.frames) (hRlocals : (rest.map fun v => v.category).sum + (13 * (names.length + 1) + 43) ≤ R.locals) (hRcells : cells + 1 ≤ R.cells) (hRslots : slots + 6 ≤ R.slots) (hlocks : meth.locks = false)
    (hx : ∀ t : State, s.vm.Alike t.vm → H.size ≤ t.heap.size → (∀ q : Nat, q < H.size → t.heap[q]? = H[q]?) → XC cls s t)
    (hf : ∀ z ∈ locs, free z.base) (hc : cells + 1 ≤ mc) (hs : slots + 6 ≤ ms) :
    W p l e R s m args below meth c H locs cells slots (vx_MQ below Qc XC args s mc ms free) (F0 m pc ls rest) := by
  intro T hT X
  have htr : e.platform.stackTraces = false := (show e.platform.stackTraces = l.stackTraces by rw [X.admits.platform]).trans hl
  have Y := vx_rebase X (R' := { frames := R.frames, locals := R.locals, cells := 1, slots := 6 }) (Nat.le_refl _) (Nat.le_refl _) hRcells hRslots
  obtain ⟨s', hA⟩ : ∃ z, z = (T.setVm s.vm).setFrames (.invoking m args :: below) := ⟨_, rfl⟩
  rw [← hA] at Y
  have hvm : s'.vm = s.vm := by rw [hA]; rfl
  have hhp : s'.heap = H := by rw [hA]; exact hT
  have hW0 : s.WarmedH s'.vm := by rw [hvm]; exact State.WarmedH.refl s
  have hat' : ∀ w ∈ vx_atS own ic cls names, w.before args s' = true := fun w hw => vx_ot_at hW0 hvm.symm (hgood w (List.mem_cons_of_mem _ (List.mem_cons_of_mem _ hw))) (hat w hw)
  have hk' : (Cond.classLink own ik cls).before args s' = true := vx_ot_at hW0 hvm.symm (hgood _ List.mem_cons_self) hk
  have hini' : (Cond.initialized cls).before args s' = true := vx_ot_at hW0 hvm.symm (hgood _ (List.mem_cons_of_mem _ List.mem_cons_self)) hini
  have hU' : vx_Zq Bundle.tN "UNASSIGNED_STACK" Bundle.steD A s' s'.heap := by rw [hhp]; exact vx_Zq.moved hW0.alike (hU.kept hS.2.1)
  have hN' : vx_Zq Bundle.tN "SUPPRESSED_SENTINEL" Bundle.listD A s' s'.heap := by rw [hhp]; exact vx_Zq.moved hW0.alike (hN.kept hS.2.1)
  have h : ∀ w ∈ Bundle.ownAtoms own ic cls names, w.before args s' = true := vx_own hat' (vx_isRefq hU'.1) (vx_isRefq hN'.1) hU'.2.word hN'.2.word
  have hown' : s'.vm.findClass own = some m.cls := by rw [hvm]; exact hown
  have hins : (Cond.instantiable cls 6).before args s' = true := h _ (by simp [Bundle.ownAtoms])
  obtain ⟨vm₁, cX, kX, hfX, hkX, -, -, X₁, st1⟩ := Y.newCold hexec (own := own) (C := cls) (index := ik) (n := 6) hown' hk' hins hini'
    (g := F0 m pc ls rest) rfl (by rw [hb]; exact d0) (Nat.le_refl _) (Nat.le_refl _)
  generalize hT1 : (T.setVm vm₁).pushCell { cls := cX, slots := kX.instanceTypes.map defaultValue, vm := .none } = T1 at X₁ st1
  have hcat : (Value.ref T.heap.size).category = 1 := rfl
  have hcellA : T1.heap[T.heap.size]? = some (freshCell cX kX) := by rw [← hT1]; exact State.heap_pushCell_size _ _
  have d3' : decode c.code (pc + 3) = .ok (.dup, 1) := by rw [hb]; exact d3
  have d4' : decode c.code (pc + 4) = .ok (.ldc_w is, 3) := by rw [hb]; exact d4
  have hstr' : vk_R own is text sa s' := vk_R.warm hW0 hstr
  obtain ⟨U, hsteps, hrun, hend, hW, hsame, ce, hce, hO⟩ := X₁.ctorThrowS hexec htr (own := own) (cls := cls) (names := names) (ic := ic) hown' hcls hnames h (fun x hx => nomatch hx) hfX hkX hcellA (by rw [hhp, hT]; exact Nat.le_refl _) (msg := .ref sa) rfl
    (g := { method := m, pc := pc + 7, locals := ls, stack := .ref sa :: .ref T.heap.size :: .ref T.heap.size :: rest, locked := none }) rfl hsize rfl rfl (rest := rest) rfl
    (by rw [hb]; exact d7) (by rw [hb]; exact d10) hout hRframes (by simp only [List.map_cons, List.sum_cons, hcat]; omega) hlocks
  obtain ⟨f1, f2⟩ := vx_frame hsame
  rw [hhp] at f1 f2
  have hWs : s.WarmedH U.vm := State.WarmedH.trans hW0 hW
  have hcl : s.vm.findClass cls = some ce.cls := by
    have h9 := hO.cls
    rw [hvm] at h9
    exact h9
  have hall : s.sameButNew ({ U with vm := s.vm } : State) locs mc ms := by
    subst hA
    obtain ⟨e1, e2⟩ := hsame
    rw [State.setFrames_setFrames] at e1
    have h2 : (T.setVm s.vm).sameButNew ({ U with vm := s.vm } : State) [] (0 + 1) (0 + 6) := ⟨e1, e2⟩
    have h3 := X.same.trans h2
    rw [List.append_nil] at h3
    exact h3.mono hc hs
  refine ⟨U, ?_, .threw T.heap.size, hrun, hend, Or.inr ⟨T.heap.size, rfl, cls, ce, locs, hx U hWs.alike f1 (fun q hq => f2 q hq (fun z hz => nomatch hz)), hce, hO.vm, hcl, hWs, hall, hf⟩⟩
  refine st1 _ ?_
  show Steps p.tables e below (T1.setTop { method := m, pc := pc + 3, locals := ls, stack := .ref T.heap.size :: rest, locked := none }) _
  jvm_step X₁.here [X₁.here.top, hexec, d3', Value.category]
  exact X₁.ldcStringW hexec (own := own) (text := text) (index := is) (a := sa) hown' hstr'.1 hstr'.2
    (g := { method := m, pc := pc + 4, locals := ls, stack := .ref T.heap.size :: .ref T.heap.size :: rest, locked := none }) rfl d4' _ hsteps
end Ends
section Bodies
variable {l : Launch}
theorem vx_ofW {y : MethodName} {ws ws' : List Cond} {rm : Room} {Pc : Array Value → State → Prop} {Qc : Array Value → State → Outcome → State → Prop} {XC : String → State → State → Prop} {mc ms : Nat} {free : Addr → Prop} {cc : ByteArray} {maxL : Nat} {ret : Option FieldType}
    (hy : plainName y.cls = true) (hw : ws = Cond.code y cc maxL ret :: ws')
    (body : ∀ p e s m args below meth c s₁, BodyLoose p l y (headSpec ws rm) cc maxL ret e s m args below meth c s₁ → c.maxLocals = maxL → (∀ x ∈ c.exceptionTable.toList, False) → Pc args s →
      W p l e (headSpec ws rm).room s m args below meth c s.heap [] 0 0 (vx_MQ below Qc XC args s mc ms free) (entryFrame m args maxL)) : vx_Met l y ws rm Pc Qc XC mc ms free := by
  refine MetFree.of_bodyS (code := cc) (maxLocals := maxL) (ret := ret) hy ?_ ?_
  · intro args s m h hn
    obtain ⟨meth, c, h1, h2, h3, h4, h5, h6, -, -⟩ := Cond.code_spec hn (atoms_spec (ws := ws) h _ (by rw [hw]; exact List.mem_cons_self))
    exact ⟨meth, c, h1, h2, h3, h4, h5, h6⟩
  · intro p e s m args below meth c s₁ B hml hP _
    have hh0 : s₁.heap = s.heap := by rw [B.state]; rfl
    have ht : ∀ x ∈ c.exceptionTable.toList, False := by
      obtain ⟨meth9, c9, h1, h2, -, -, -, -, h7, -⟩ := Cond.code_spec B.named (atoms_spec (ws := ws) B.pre _ (by rw [hw]; exact List.mem_cons_self))
      cases Option.some.inj (h1.symm.trans B.method)
      cases Option.some.inj (h2.symm.trans (Stand.of_body B).code)
      intro x hx
      rw [Array.isEmpty_iff.mp h7] at hx
      cases hx
    obtain ⟨t, a1, o, b1, b2, b3⟩ := body p e s m args below meth c s₁ B hml ht hP s₁ hh0 (Stand.of_body B)
    exact ⟨t, o, a1, b1, b2, b3⟩
/-- the table of a body with handlers -/
theorem vx_table {p : Program} {x y : MethodName} {S : Spec} {cc bytes : ByteArray} {maxL maxL' : Nat} {ret ret' : Option FieldType} {e : Env} {s s₁ : State} {m : MethodId} {args : Array Value} {below : List Frame} {meth : Method} {c : Code} {hh : List (Nat × Nat × Nat × Nat)}
    (B : BodyLoose p l y S cc maxL ret e s m args below meth c s₁) (h : (Cond.codeWith y bytes maxL' ret' hh).before args s = true) : c.exceptionTable.toList = tableOf hh := by
  obtain ⟨m9, meth9, c9, hn9, h1, h2, -, -, h6, -⟩ := Cond.codeWith_spec h
  cases Option.some.inj (hn9.symm.trans B.named)
  cases Option.some.inj (h1.symm.trans B.method)
  cases Option.some.inj (h2.symm.trans (Stand.of_body B).code)
  rw [← h6, table_eq]
end Bodies
end VXA
/-! ===== END ===== -/
/-! ===== BEGIN a static call of a method with an exception table ===== -/
section VXS
variable {p : Program} {l : Launch} {e : Env} {R : Room} {s : State} {m : MethodId} {args : Array Value} {below : List Frame} {meth : Method} {c : Code} {T : State} {H : Heap} {locs : List Loc} {cells slots : Nat}
abbrev vx_CSW (R : Room) (s : State) (args : Array Value) (own : String) (index : Nat) (y : MethodName) (bytes : ByteArray) (maxL : Nat) (ret : Option FieldType) (hh : List (Nat × Nat × Nat × Nat)) (ws : List Cond) (rm : Room) (mc ms n : Nat) : Prop :=
  (rm.cells = mc ∧ rm.slots = ms ∧ rm.frames + 1 ≤ R.frames ∧ 8 + (maxL + 11) + rm.locals ≤ R.locals ∧ (∀ w ∈ ws, ∀ (a' : Array Value) (U : State), s.WarmedH U.vm → w.before a' U = true) ∧ Cond.codeWith y bytes maxL ret hh ∈ ws) ∧
  (Cond.codeWith y bytes maxL ret hh).before args s = true ∧ (Cond.initialized y.cls).before args s = true ∧ (y.cls ≠ "java/lang/invoke/MethodHandle" ∧ y.cls ≠ "java/lang/invoke/VarHandle") ∧
  (∀ sig, parseMethodDescriptor y.desc = some sig → n = sig.parameters.length) ∧ (Cond.methodLink own index y).before args s = true ∧ (Cond.static y).before args s = true
theorem vx_cwSW {own : String} {index maxL mc ms : Nat} {y : MethodName} {bytes : ByteArray} {ret : Option FieldType} {hh : List (Nat × Nat × Nat × Nat)} {Ts ws ws' : List Cond} {rm : Room} (n : Nat) (ht : ∀ w ∈ Ts, w.before args s = true) (hT : GoodIn Ts (va_wsS own index y ws)) (hw : ws = Cond.codeWith y bytes maxL ret hh :: ws') (hrc : rm.cells = mc) (hrs : rm.slots = ms)
    (hd : y.cls ≠ "java/lang/invoke/MethodHandle" ∧ y.cls ≠ "java/lang/invoke/VarHandle" ∧ (parseMethodDescriptor y.desc).map (fun d => d.parameters.length) = some n) (hR : rm.frames + 1 ≤ R.frames ∧ 8 + (maxL + 11) + rm.locals ≤ R.locals) :
    vx_CSW R s args own index y bytes maxL ret hh ws rm mc ms n := by
  have ok : ∀ w ∈ va_wsS own index y ws, w.before args s = true := fun w h => ht w (hT w h).1
  have hG : GoodIn Ts ws := fun w h => hT w (by unfold va_wsS; exact List.mem_append_right _ h)
  have hc : Cond.codeWith y bytes maxL ret hh ∈ ws := by rw [hw]; exact List.mem_cons_self
  refine ⟨⟨hrc, hrs, hR.1, hR.2, pay_in ht hG, hc⟩, ht _ (hG _ hc).1, ok _ (by simp [va_wsS]), ⟨hd.1, hd.2.1⟩, fun sig h => ?_, ok _ (by simp [va_wsS]), ok _ (by simp [va_wsS])⟩
  have h2 := hd.2.2
  rw [h] at h2
  exact (Option.some.inj h2).symm
theorem vx_callSW (X : Stand p l e R s m args below meth c T locs cells slots) (hexec : p.tables.exec = Jvm.exec) {own : String} {index : Nat} {y : MethodName} {bytes : ByteArray} {maxL : Nat} {ret : Option FieldType} {hh : List (Nat × Nat × Nat × Nat)}
    (hown : s.vm.findClass own = some m.cls) (hlink : (Cond.methodLink own index y).before args s = true) (hstat : (Cond.static y).before args s = true) (hinit : (Cond.initialized y.cls).before args s = true)
    (hcode : (Cond.codeWith y bytes maxL ret hh).before args s = true) (hy : y.cls ≠ "java/lang/invoke/MethodHandle" ∧ y.cls ≠ "java/lang/invoke/VarHandle")
    {W9 : Nat} {Pre : Pt → Array Value → Prop} {Post : Pt → Array Value → Option Value → Pt → Prop} (hK : Back l R p e below s args y 3 W9 Pre Post)
    {g : JFrame} (hg : g.method = m) (hsize : g.locals.size = c.maxLocals) {argsL rest : List Value} (hlen : ∀ sig, parseMethodDescriptor y.desc = some sig → argsL.length = sig.parameters.length)
    (hstack : g.stack = argsL.reverse ++ rest) (hW : 2 * g.monitorRoom + (rest.map fun v => v.category).sum ≤ W9) (hdg : decode c.code g.pc = .ok (.invokestatic index, 3))
    (hpre : ∀ vm₁, s.WarmedH vm₁ → Pre ⟨T.setVm vm₁, locs, cells, slots⟩ argsL.toArray) :
    ∃ (v : Option Value) (vm₁ : Vm) (B : Pt), s.WarmedH vm₁ ∧ Stand p l e R s m args below meth c B.U B.locs B.cells B.slots ∧ Post ⟨T.setVm vm₁, locs, cells, slots⟩ argsL.toArray v B ∧
      ∀ target, Steps p.tables e below (B.U.setTop { g with pc := g.pc + 3, stack := v.toList ++ rest }) target → Steps p.tables e below (T.setTop g) target := by
  obtain ⟨mk, methM, cM, hnamed, hmethM, -, -, -, -, -, -, hsigM⟩ := Cond.codeWith_spec hcode
  have hstatic : methM.isStatic = true := Cond.static_spec hnamed hmethM hstat
  obtain ⟨kP, hkP, -⟩ := className_of_methodNamed hnamed
  have hinitP : kP.init = .initialized := Cond.initialized_spec (findClass_of_methodNamed hnamed) hkP hinit
  obtain ⟨vm₁, X₁, hstep₁⟩ := X.invokestatic hexec hown hlink hnamed hmethM hstatic hkP hinitP hy (g := g) hg (argsL := argsL) (rest := rest) (hlen _ hsigM) hstack hdg
  obtain ⟨v, B, X', hpost, hsteps⟩ := hK m meth c ⟨T.setVm vm₁, locs, cells, slots⟩ { g with stack := rest } (.invokestatic index) mk argsL.toArray X₁ hg hsize hdg hW (X₁.named hnamed) (hpre vm₁ X₁.warmed)
  exact ⟨v, vm₁, B, X₁.warmed, X', hpost, fun target h => hstep₁ _ fun acts => by rw [doInvoke_state]; exact hsteps.trans h⟩
theorem vx_runSW {y : MethodName} {bytes cc : ByteArray} {maxL nL mc ms n index : Nat} {ret : Option FieldType} {hh : List (Nat × Nat × Nat × Nat)} {ws : List Cond} {rm : Room} {Pc : Array Value → State → Prop} {Qc : Array Value → State → Outcome → State → Prop} {free : Addr → Prop} {Ts : List Cond} {own : String} {As rest : List Value} {g : JFrame}
    (S : CallFix p m c cc nL s args Ts own) (hM : Met l y ws rm Pc Qc mc ms free) (cw : vx_CSW R s args own index y bytes maxL ret hh ws rm mc ms n) (hp : PreS s H Pc As)
    (hg : g.method = m) (hn : As.length = n) (hsize : g.locals.size = nL) (hstack : g.stack = As.reverse ++ rest) (hW : 2 * g.monitorRoom + (rest.map fun v => v.category).sum ≤ 8) (hdg : decode cc g.pc = .ok (.invokestatic index, 3)) (hf : cells + mc ≤ R.cells ∧ slots + ms ≤ R.slots) :
    va_Run p l e R s m args below meth c H locs cells slots mc ms g rest (Qc As.toArray) (free) := by
  obtain ⟨⟨hrc, hrs, hfr, hlo, hws, hcw⟩, hcode, hini, hy, hlen, hl, hstt⟩ := cw
  have hK : Back l R p e below s args y 3 8 (PreOf R mc ms Pc) (PostOf Qc mc ms free) := va_backW (hh := hh) (bytes := bytes) (maxL := maxL) (ret := ret) hM hp.1 hrc hrs hfr hlo hws hcw (fun a' U hW => word_at hW (Or.inl (by first | rfl | simp [Cond.onTables, Cond.keeps, Cond.steady])) hini)
  obtain ⟨hx, hb, hml, ho, -⟩ := S
  intro T hT X
  obtain ⟨v, vm₁, ⟨U', l2, c2, s2⟩, hW₁, X', ⟨g', mk, t, L, e1, e2, hq, h1, hL, h2, h3⟩, st⟩ := vx_callSW X hx (hh := hh) (bytes := bytes) (maxL := maxL) (ret := ret) ho hl hstt hini hcode hy hK hg (hsize.trans hml.symm) (argsL := As) (rest := rest) (fun sig h => hn.trans (hlen sig h)) hstack hW (by rw [hb]; exact hdg)
    (fun vm₁ hW₁ => ⟨hf.1, hf.2, hp.2 (T.setVm vm₁) hT hW₁⟩)
  dsimp only [Pt.U, Pt.locs, Pt.cells, Pt.slots] at X' e1 e2 h1 h2 h3 st
  subst h1; subst h2; subst h3
  exact ⟨v, (T.setVm vm₁).calling g' mk As.toArray, t, U', L, hT, X', hL, e1, e2, hq, st⟩
/-- not caught here, past rows that name other classes: it goes on to the caller -/
theorem vx_outP {p : Program} {l : Launch} {e : Env} {R : Room} {s : State} {m : MethodId} {args : Array Value} {below : List Frame} {meth : Method} {c : Code} {H : Heap} {locs : List Loc} {cells slots : Nat} {free : Addr → Prop} {ls : Array Slot} {rest : List Value} {Qc : Array Value → State → Outcome → State → Prop} {XC : String → State → State → Prop}
    {pc : Nat} {own E : String} {ce : Cell} {q : Addr} {mc ms : Nat} (hown : s.vm.findClass own = some m.cls) (hlocks : meth.locks = false)
    (hpass : ∀ z ∈ c.exceptionTable.toList, covers z pc = false ∨ (z.catchType ≠ 0 ∧ ∃ nm : String, (Cond.classLink own z.catchType nm).before args s = true ∧ va_Nc E nm s)) (hcell : H[q]? = some ce) (hv : ce.vm = .none) (hcl : s.vm.findClass E = some ce.cls)
    (hx : ∀ t : State, t.heap = H → s.vm.Alike t.vm → XC E s t) (hf : ∀ z ∈ locs, free z.base) (hc : cells ≤ mc) (hs : slots ≤ ms) :
    vx_W p l e R s m args below meth c H locs cells slots (vx_MQ below Qc XC args s mc ms free) (F0 m pc ls rest) q := by
  intro T hT X
  have hpl : e.platform.magicAccessors = ({} : Platform).magicAccessors := by rw [X.admits.platform]
  obtain ⟨vm', hW', X', st⟩ := X.outThrough hlocks q (g := F0 m pc ls rest) rfl rfl rfl (cell := ce) (by rw [hT]; exact hcell) (by rw [hv]; rfl)
    (by obtain ⟨k9, h9, -⟩ := Vm.findClass_spec hcl; exact ⟨k9, h9⟩) (fun z hz => by
      rcases hpass z hz with h | ⟨hz0, nm, hl1, hn1⟩
      · exact Or.inl h
      · obtain ⟨c6, hc6, hcl6⟩ := Cond.classLink_spec hown hl1 e.platform hpl
        obtain ⟨a8, b8, h1, h2, h3⟩ := hn1
        cases Option.some.inj (h1.symm.trans hcl)
        cases Option.some.inj (h2.symm.trans hc6)
        exact Or.inr ⟨hz0, _, hcl6, h3⟩)
  obtain ⟨g₀, hfr⟩ := X'.frames_eq
  have hcell9 : ((T.setVm vm').setFrames (.throwing q :: below)).heap[q]? = some ce := by
    show T.heap[q]? = some ce
    rw [hT]; exact hcell
  have hend : Ended ((T.setVm vm').setFrames (.throwing q :: below)) below (.threw q) := State.frames_setFrames _ (State.cur_lt_of_frames hfr)
  refine ⟨(T.setVm vm').setFrames (.throwing q :: below), ?_, .threw q, X'.here.running, hend, Or.inr ⟨q, rfl, E, ce, locs, hx _ hT (X'.ends _).1.alike, hcell9, hv, hcl, (X'.ends _).1, (X'.ends _).2.mono hc hs, hf⟩⟩
  rw [X.pushThrowing_eq]
  exact st
/-- a thing of a world lies in the heap -/
theorem vx_lt {D : va_G} {cl : List vw_C} {ws : va_W} {H1 : Heap} (h : va_P D cl ws H1) {k : Nat} {q : Nat × va_E} (hk : ws[k]? = some q) : q.1 < H1.size := (h k q hk).lt
end VXS
/-! ===== END ===== -/
/-! ===== BEGIN methods with a table of their own: called by a name, returning or throwing ===== -/
section VXH
/-! vx_backW, vx_callVX, vx_callSX, vx_callVW, vx_runVW, vx_runVX, vx_runSX, vx_ofWH follow the same proofs as their sisters above (Free/Laws.lean, Shelf42/LK1.lean); vx_outP calls Shelf42/NT130.lean (outThrough). -/
section
variable {l : Launch} {R : Room} {p : Program} {e : Env} {below : List Frame} {s : State} {sargs : Array Value} {y : MethodName} {len W9 : Nat}
theorem vx_backW {ws : List Cond} {rm : Room} {Pc : Array Value → State → Prop} {Qc : Array Value → State → Outcome → State → Prop} {XC : String → State → State → Prop} {mc ms : Nat} {free : Addr → Prop} {bytes : ByteArray} {maxL : Nat} {ret : Option FieldType} {hh : List (Nat × Nat × Nat × Nat)}
    (hM : vx_Met l y ws rm Pc Qc XC mc ms free) (hblind : FrameBlind Pc) (hrc : rm.cells = mc) (hrs : rm.slots = ms)
    (hframes : rm.frames + 1 ≤ R.frames) (hlocals : W9 + (maxL + 11) + rm.locals ≤ R.locals)
    (hws : ∀ w ∈ ws, ∀ a' U, s.WarmedH U.vm → w.before a' U = true) (hcode : Cond.codeWith y bytes maxL ret hh ∈ ws) (hinit : ∀ a' U, s.WarmedH U.vm → (Cond.initialized y.cls).before a' U = true) :
    vx_Back l R p e below s sargs y len W9 (PreOf R mc ms Pc) (PostOf Qc mc ms free) (vx_Post XC mc ms free) := by
  intro m meth c A g ig mk a X hg hsize hdg hW hn hp
  have h1 : (headSpec ws rm).pre.before a A.U = true := atoms_intro fun w hw => hws w hw _ _ X.warmed
  have h2 : (Cond.codeWith y bytes maxL ret hh).before a A.U = true := hws _ hcode _ _ X.warmed
  have h3 : (Cond.initialized y.cls).before a A.U = true := hinit _ _ X.warmed
  have h4 : A.cells + (headSpec ws rm).room.cells ≤ R.cells := by rw [show (headSpec ws rm).room.cells = mc from hrc]; exact hp.1
  have h5 : A.slots + (headSpec ws rm).room.slots ≤ R.slots := by rw [show (headSpec ws rm).room.slots = ms from hrs]; exact hp.2.1
  have hPc : Pc a (A.U.calling g mk a) := hblind _ _ _ _ hp.2.2
  obtain ⟨U, Ls, c0, s0⟩ := A
  dsimp only [Pt.U, Pt.locs, Pt.cells, Pt.slots] at h1 h2 h3 h4 h5 X hn hPc ⊢
  obtain ⟨m9, methY, cY, hn9, hmY, hcY, -, hlY, -⟩ := Cond.codeWith_spec h2
  cases Option.some.inj (hn9.symm.trans hn)
  obtain ⟨kY, hkY, -⟩ := className_of_methodNamed hn
  have hinitY : kY.init = .initialized := Cond.initialized_spec (findClass_of_methodNamed hn) hkY h3
  have h : At U g.method c below := by rw [hg]; exact X.here
  have hlocals9 : W9 + (maxL + 11) + (headSpec ws rm).room.locals ≤ R.locals := hlocals
  have happ : (headSpec ws rm).appliesLoose y e.platform (U.calling g mk a) = true :=
    Spec.appliesLoose_calling (g := g) h hdg hn hkY hinitY
      (X.room_calling (g := g) (R' := (headSpec ws rm).room) hsize hmY hcY hframes (by rw [hlY]; omega) h4 h5) h1
  obtain ⟨mid, hmid⟩ := h.above
  have hfr : (U.setTop g).frames = (.java g :: mid) ++ below := by rw [State.frames_setTop' g h.top, hmid]; rfl
  obtain ⟨o, s₂, hsteps, -, hend, hq⟩ := Steps.callFree hM p X.admits X.cas X.clock (acts := []) hfr happ hPc trivial
  have hq' : vx_Q Qc XC mc ms free a (U.calling g mk a) o s₂ := hq
  rw [State.frames_setTop' g h.top] at hend
  obtain ⟨g₀, hg0⟩ := Option.isSome_iff_exists.mp h.top
  obtain ⟨r, hr⟩ := State.topJava?_eq_some.mp hg0
  have hr' : (({ U with heap := s₂.heap, slotsUsed := s₂.slotsUsed } : State).setVm s₂.vm).frames = .java g₀ :: r := hr
  rcases hq' with ⟨hqc, L, hfe, hL⟩ | ⟨q, rfl, E, ce, L, hx, hce, hcv, hcl, hW₂, hsm, hL⟩
  · obtain ⟨⟨v, rfl⟩, hW₂, e2, q2, q3, q4, q5, q6⟩ := id hfe
    have e3 : s₂ = ({ (U.calling g mk a).setFrames s₂.frames with heap := s₂.heap, slotsUsed := s₂.slotsUsed } : State).setVm s₂.vm := by
      have : s₂ = ({ s₂ with vm := (U.calling g mk a).vm } : State).setVm s₂.vm := rfl
      rw [e2] at this
      exact this
    obtain ⟨c₂, i₂, len₂, hc₂, hd₂, hf₂⟩ := hend
    have hW' : U.WarmedH s₂.vm := hW₂
    have hcc : c₂ = c := by
      have h1 : s₂.code? g.method = U.code? g.method := by
        rw [State.code?_eq, State.code?_eq, hW'.alike.method?]
      exact Option.some.inj (hc₂.symm.trans (h1.trans h.code))
    subst hcc
    have hlen : len₂ = len := by rw [hdg] at hd₂; cases hd₂; rfl
    subst hlen
    have hs₂ : s₂ = (({ U with heap := s₂.heap, slotsUsed := s₂.slotsUsed } : State).setVm s₂.vm).setTop { g with pc := g.pc + len₂, stack := v.toList ++ g.stack } := by
      refine e3.trans ?_
      rw [hf₂, State.calling_eq h.top, State.setFrames_setFrames, State.setTop_of_frames _ hr', hr]
      rfl
    have hsame : U.sameButNew ({ U with heap := s₂.heap, slotsUsed := s₂.slotsUsed } : State) L mc ms := by
      refine ⟨?_, q2, q3, q4, q5, q6⟩
      obtain ⟨t, ht, -⟩ := State.frames_cons hr
      show ({ U with heap := s₂.heap, slotsUsed := s₂.slotsUsed } : State) = { U.setFrames U.frames with heap := s₂.heap, slotsUsed := s₂.slotsUsed }
      rw [State.setFrames_self ht]
    subst hg
    refine Or.inl ⟨v, ⟨(({ U with heap := s₂.heap, slotsUsed := s₂.slotsUsed } : State).setVm s₂.vm), Ls ++ L, c0 + mc, s0 + ms⟩,
      ⟨X.admits, X.cas, X.clock, X.frames, X.room, X.hears, X.method, X.code, (X.here.setHeapUsed s₂.heap s₂.slotsUsed).setVm hW'.alike, X.tail, State.WarmedH.trans X.warmed hW', X.limits, X.bytes, X.same.trans (hsame.setVm s.vm)⟩,
      ⟨g, mk, s₂, L, rfl, rfl, hqc, rfl, hL, rfl, rfl⟩, ?_⟩
    show Steps p.tables e below _ ((({ U with heap := s₂.heap, slotsUsed := s₂.slotsUsed } : State).setVm s₂.vm).setTop { g with pc := g.pc + len₂, stack := v.toList ++ g.stack })
    rw [← hs₂]
    exact hsteps
  · obtain ⟨e2, q2, q3, q4, q5, q6⟩ := id hsm
    have e3 : s₂ = ({ (U.calling g mk a).setFrames s₂.frames with heap := s₂.heap, slotsUsed := s₂.slotsUsed } : State).setVm s₂.vm := by
      have : s₂ = ({ s₂ with vm := (U.calling g mk a).vm } : State).setVm s₂.vm := rfl
      rw [e2] at this
      exact this
    have hf₂ : s₂.frames = .throwing q :: .java g :: U.frames.tail := hend
    have hW' : U.WarmedH s₂.vm := hW₂
    have hs₂ : s₂ = ((({ U with heap := s₂.heap, slotsUsed := s₂.slotsUsed } : State).setVm s₂.vm).setTop g).pushFrame (.throwing q) := by
      refine e3.trans ?_
      rw [hf₂, State.calling_eq h.top, State.setFrames_setFrames, State.pushFrame, State.frames_setTop _ hr', State.setTop_of_frames _ hr', State.setFrames_setFrames, hr]
      rfl
    have hsame : U.sameButNew ({ U with heap := s₂.heap, slotsUsed := s₂.slotsUsed } : State) L mc ms := by
      refine ⟨?_, q2, q3, q4, q5, q6⟩
      obtain ⟨t, ht, -⟩ := State.frames_cons hr
      show ({ U with heap := s₂.heap, slotsUsed := s₂.slotsUsed } : State) = { U.setFrames U.frames with heap := s₂.heap, slotsUsed := s₂.slotsUsed }
      rw [State.setFrames_self ht]
    subst hg
    refine Or.inr ⟨q, ⟨(({ U with heap := s₂.heap, slotsUsed := s₂.slotsUsed } : State).setVm s₂.vm), Ls ++ L, c0 + mc, s0 + ms⟩,
      ⟨X.admits, X.cas, X.clock, X.frames, X.room, X.hears, X.method, X.code, (X.here.setHeapUsed s₂.heap s₂.slotsUsed).setVm hW'.alike, X.tail, State.WarmedH.trans X.warmed hW', X.limits, X.bytes, X.same.trans (hsame.setVm s.vm)⟩,
      ⟨g, mk, s₂, L, E, ce, rfl, rfl, hx, hce, hcv, hcl, rfl, hL, rfl, rfl⟩, ?_⟩
    show Steps p.tables e below _ (((({ U with heap := s₂.heap, slotsUsed := s₂.slotsUsed } : State).setVm s₂.vm).setTop g).pushFrame (.throwing q))
    rw [← hs₂]
    exact hsteps
end
variable {p : Program} {l : Launch} {e : Env} {R : Room} {s : State} {m : MethodId} {args : Array Value} {below : List Frame} {meth : Method} {c : Code} {T : State} {H : Heap} {locs : List Loc} {cells slots : Nat}
theorem vx_callVX (X : Stand p l e R s m args below meth c T locs cells slots) (hexec : p.tables.exec = Jvm.exec) {own C : String} {index : Nat} {y : MethodName} {bytes : ByteArray} {maxL : Nat} {ret : Option FieldType} {hh : List (Nat × Nat × Nat × Nat)}
    (hown : s.vm.findClass own = some m.cls) (hlink : (Cond.methodLink own index y).before args s = true) (hinst : (Cond.instanceMethod y).before args s = true) (hsel : (Cond.selects C y y).before args s = true)
    (hcode : (Cond.codeWith y bytes maxL ret hh).before args s = true) (hy : y.cls ≠ "java/lang/invoke/MethodHandle" ∧ y.cls ≠ "java/lang/invoke/VarHandle")
    {W9 : Nat} {Pre : Pt → Array Value → Prop} {Post : Pt → Array Value → Option Value → Pt → Prop} {PostX : Pt → Array Value → Addr → Pt → Prop} (hK : vx_Back l R p e below s args y 3 W9 Pre Post PostX)
    {b : Addr} {cellB : Cell} (hcell : T.heap[b]? = some cellB) (hobj : cellB.vm.isStatics = false) (hcls : s.vm.findClass C = some cellB.cls)
    {g : JFrame} (hg : g.method = m) (hsize : g.locals.size = c.maxLocals) {argsL rest : List Value} (hlen : ∀ sig, parseMethodDescriptor y.desc = some sig → argsL.length = sig.parameters.length)
    (hstack : g.stack = argsL.reverse ++ .ref b :: rest) (hW : 2 * g.monitorRoom + (rest.map fun v => v.category).sum ≤ W9) (hdg : decode c.code g.pc = .ok (.invokevirtual index, 3))
    (hpre : ∀ vm₁, s.WarmedH vm₁ → Pre ⟨T.setVm vm₁, locs, cells, slots⟩ (Value.ref b :: argsL).toArray) :
    (∃ (v : Option Value) (vm₁ : Vm) (B : Pt), s.WarmedH vm₁ ∧ Stand p l e R s m args below meth c B.U B.locs B.cells B.slots ∧ Post ⟨T.setVm vm₁, locs, cells, slots⟩ (Value.ref b :: argsL).toArray v B ∧
      ∀ target, Steps p.tables e below (B.U.setTop { g with pc := g.pc + 3, stack := v.toList ++ rest }) target → Steps p.tables e below (T.setTop g) target) ∨
    (∃ (q : Addr) (vm₁ : Vm) (B : Pt), s.WarmedH vm₁ ∧ Stand p l e R s m args below meth c B.U B.locs B.cells B.slots ∧ PostX ⟨T.setVm vm₁, locs, cells, slots⟩ (Value.ref b :: argsL).toArray q B ∧
      Steps p.tables e below (T.setTop g) ((B.U.setTop { g with stack := rest }).pushFrame (.throwing q))) := by
  obtain ⟨mk, methM, hnamed, hmethM, hstM, habM⟩ := Cond.instanceMethod_spec hinst
  obtain ⟨m8, methM', cM, hn8, hmethM', -, -, -, -, -, -, hsigM⟩ := Cond.codeWith_spec hcode
  cases Option.some.inj (hn8.symm.trans hnamed)
  cases hmethM.symm.trans hmethM'
  obtain ⟨c2, r2, m2, q1, q2, q3, q4, kP, hkP, hkPi⟩ := Cond.selects_spec hsel
  cases hcls.symm.trans q1
  cases (State.methodFound?_of_named hnamed hy).symm.trans q2
  cases hnamed.symm.trans q3
  have hselP : selectMethod e.platform s.vm cellB.cls mk = .method mk := by rw [Launch.admits_selectMethod X.admits]; exact q4
  obtain ⟨vm₁, X₁, hstep₁⟩ := X.invokevirtual hexec hown hlink hnamed hmethM hstM hkP hkPi hy (a := b) (cell := cellB) hcell
    (fun z h => by rw [h] at hobj; cases hobj) hselP hmethM habM hkP hkPi (g := g) hg (argsL := argsL) (rest := rest) (hlen _ hsigM) hstack hdg
  rcases hK m meth c ⟨T.setVm vm₁, locs, cells, slots⟩ { g with stack := rest } (.invokevirtual index) mk (Value.ref b :: argsL).toArray X₁ hg hsize hdg hW (X₁.named hnamed) (hpre vm₁ X₁.warmed) with ⟨v, B, X', hpost, hsteps⟩ | ⟨q, B, X', hpost, hsteps⟩
  · exact Or.inl ⟨v, vm₁, B, X₁.warmed, X', hpost, fun target h => hstep₁ _ fun acts => by rw [doInvoke_state]; exact hsteps.trans h⟩
  · exact Or.inr ⟨q, vm₁, B, X₁.warmed, X', hpost, hstep₁ _ fun acts => by rw [doInvoke_state]; exact hsteps⟩
theorem vx_callSX (X : Stand p l e R s m args below meth c T locs cells slots) (hexec : p.tables.exec = Jvm.exec) {own : String} {index : Nat} {y : MethodName} {bytes : ByteArray} {maxL : Nat} {ret : Option FieldType} {hh : List (Nat × Nat × Nat × Nat)}
    (hown : s.vm.findClass own = some m.cls) (hlink : (Cond.methodLink own index y).before args s = true) (hstat : (Cond.static y).before args s = true) (hinit : (Cond.initialized y.cls).before args s = true)
    (hcode : (Cond.codeWith y bytes maxL ret hh).before args s = true) (hy : y.cls ≠ "java/lang/invoke/MethodHandle" ∧ y.cls ≠ "java/lang/invoke/VarHandle")
    {W9 : Nat} {Pre : Pt → Array Value → Prop} {Post : Pt → Array Value → Option Value → Pt → Prop} {PostX : Pt → Array Value → Addr → Pt → Prop} (hK : vx_Back l R p e below s args y 3 W9 Pre Post PostX)
    {g : JFrame} (hg : g.method = m) (hsize : g.locals.size = c.maxLocals) {argsL rest : List Value} (hlen : ∀ sig, parseMethodDescriptor y.desc = some sig → argsL.length = sig.parameters.length)
    (hstack : g.stack = argsL.reverse ++ rest) (hW : 2 * g.monitorRoom + (rest.map fun v => v.category).sum ≤ W9) (hdg : decode c.code g.pc = .ok (.invokestatic index, 3))
    (hpre : ∀ vm₁, s.WarmedH vm₁ → Pre ⟨T.setVm vm₁, locs, cells, slots⟩ argsL.toArray) :
    (∃ (v : Option Value) (vm₁ : Vm) (B : Pt), s.WarmedH vm₁ ∧ Stand p l e R s m args below meth c B.U B.locs B.cells B.slots ∧ Post ⟨T.setVm vm₁, locs, cells, slots⟩ argsL.toArray v B ∧
      ∀ target, Steps p.tables e below (B.U.setTop { g with pc := g.pc + 3, stack := v.toList ++ rest }) target → Steps p.tables e below (T.setTop g) target) ∨
    (∃ (q : Addr) (vm₁ : Vm) (B : Pt), s.WarmedH vm₁ ∧ Stand p l e R s m args below meth c B.U B.locs B.cells B.slots ∧ PostX ⟨T.setVm vm₁, locs, cells, slots⟩ argsL.toArray q B ∧
      Steps p.tables e below (T.setTop g) ((B.U.setTop { g with stack := rest }).pushFrame (.throwing q))) := by
  obtain ⟨mk, methM, cM, hnamed, hmethM, -, -, -, -, -, -, hsigM⟩ := Cond.codeWith_spec hcode
  have hstatic : methM.isStatic = true := Cond.static_spec hnamed hmethM hstat
  obtain ⟨kP, hkP, -⟩ := className_of_methodNamed hnamed
  have hinitP : kP.init = .initialized := Cond.initialized_spec (findClass_of_methodNamed hnamed) hkP hinit
  obtain ⟨vm₁, X₁, hstep₁⟩ := X.invokestatic hexec hown hlink hnamed hmethM hstatic hkP hinitP hy (g := g) hg (argsL := argsL) (rest := rest) (hlen _ hsigM) hstack hdg
  rcases hK m meth c ⟨T.setVm vm₁, locs, cells, slots⟩ { g with stack := rest } (.invokestatic index) mk argsL.toArray X₁ hg hsize hdg hW (X₁.named hnamed) (hpre vm₁ X₁.warmed) with ⟨v, B, X', hpost, hsteps⟩ | ⟨q, B, X', hpost, hsteps⟩
  · exact Or.inl ⟨v, vm₁, B, X₁.warmed, X', hpost, fun target h => hstep₁ _ fun acts => by rw [doInvoke_state]; exact hsteps.trans h⟩
  · exact Or.inr ⟨q, vm₁, B, X₁.warmed, X', hpost, hstep₁ _ fun acts => by rw [doInvoke_state]; exact hsteps⟩
theorem vx_callVW (X : Stand p l e R s m args below meth c T locs cells slots) (hexec : p.tables.exec = Jvm.exec) {own C : String} {index : Nat} {y : MethodName} {bytes : ByteArray} {maxL : Nat} {ret : Option FieldType} {hh : List (Nat × Nat × Nat × Nat)}
    (hown : s.vm.findClass own = some m.cls) (hlink : (Cond.methodLink own index y).before args s = true) (hinst : (Cond.instanceMethod y).before args s = true) (hsel : (Cond.selects C y y).before args s = true)
    (hcode : (Cond.codeWith y bytes maxL ret hh).before args s = true) (hy : y.cls ≠ "java/lang/invoke/MethodHandle" ∧ y.cls ≠ "java/lang/invoke/VarHandle")
    {W9 : Nat} {Pre : Pt → Array Value → Prop} {Post : Pt → Array Value → Option Value → Pt → Prop} (hK : Back l R p e below s args y 3 W9 Pre Post)
    {b : Addr} {cellB : Cell} (hcell : T.heap[b]? = some cellB) (hobj : cellB.vm.isStatics = false) (hcls : s.vm.findClass C = some cellB.cls)
    {g : JFrame} (hg : g.method = m) (hsize : g.locals.size = c.maxLocals) {argsL rest : List Value} (hlen : ∀ sig, parseMethodDescriptor y.desc = some sig → argsL.length = sig.parameters.length)
    (hstack : g.stack = argsL.reverse ++ .ref b :: rest) (hW : 2 * g.monitorRoom + (rest.map fun v => v.category).sum ≤ W9) (hdg : decode c.code g.pc = .ok (.invokevirtual index, 3))
    (hpre : ∀ vm₁, s.WarmedH vm₁ → Pre ⟨T.setVm vm₁, locs, cells, slots⟩ (Value.ref b :: argsL).toArray) :
    ∃ (v : Option Value) (vm₁ : Vm) (B : Pt), s.WarmedH vm₁ ∧ Stand p l e R s m args below meth c B.U B.locs B.cells B.slots ∧ Post ⟨T.setVm vm₁, locs, cells, slots⟩ (Value.ref b :: argsL).toArray v B ∧
      ∀ target, Steps p.tables e below (B.U.setTop { g with pc := g.pc + 3, stack := v.toList ++ rest }) target → Steps p.tables e below (T.setTop g) target := by
  obtain ⟨mk, methM, hnamed, hmethM, hstM, habM⟩ := Cond.instanceMethod_spec hinst
  obtain ⟨m8, methM', cM, hn8, hmethM', -, -, -, -, -, -, hsigM⟩ := Cond.codeWith_spec hcode
  cases Option.some.inj (hn8.symm.trans hnamed)
  cases hmethM.symm.trans hmethM'
  obtain ⟨c2, r2, m2, q1, q2, q3, q4, kP, hkP, hkPi⟩ := Cond.selects_spec hsel
  cases hcls.symm.trans q1
  cases (State.methodFound?_of_named hnamed hy).symm.trans q2
  cases hnamed.symm.trans q3
  have hselP : selectMethod e.platform s.vm cellB.cls mk = .method mk := by rw [Launch.admits_selectMethod X.admits]; exact q4
  obtain ⟨vm₁, X₁, hstep₁⟩ := X.invokevirtual hexec hown hlink hnamed hmethM hstM hkP hkPi hy (a := b) (cell := cellB) hcell
    (fun z h => by rw [h] at hobj; cases hobj) hselP hmethM habM hkP hkPi (g := g) hg (argsL := argsL) (rest := rest) (hlen _ hsigM) hstack hdg
  obtain ⟨v, B, X', hpost, hsteps⟩ := hK m meth c ⟨T.setVm vm₁, locs, cells, slots⟩ { g with stack := rest } (.invokevirtual index) mk (Value.ref b :: argsL).toArray X₁ hg hsize hdg hW (X₁.named hnamed) (hpre vm₁ X₁.warmed)
  exact ⟨v, vm₁, B, X₁.warmed, X', hpost, fun target h => hstep₁ _ fun acts => by rw [doInvoke_state]; exact hsteps.trans h⟩
abbrev vx_CVW (R : Room) (s : State) (args : Array Value) (own C : String) (index : Nat) (y : MethodName) (bytes : ByteArray) (maxL : Nat) (ret : Option FieldType) (hh : List (Nat × Nat × Nat × Nat)) (ws : List Cond) (rm : Room) (mc ms n : Nat) : Prop :=
  (rm.cells = mc ∧ rm.slots = ms ∧ rm.frames + 1 ≤ R.frames ∧ 8 + (maxL + 11) + rm.locals ≤ R.locals ∧ (∀ w ∈ ws, ∀ (a' : Array Value) (U : State), s.WarmedH U.vm → w.before a' U = true) ∧ Cond.codeWith y bytes maxL ret hh ∈ ws) ∧
  (Cond.codeWith y bytes maxL ret hh).before args s = true ∧ (Cond.initialized y.cls).before args s = true ∧ (y.cls ≠ "java/lang/invoke/MethodHandle" ∧ y.cls ≠ "java/lang/invoke/VarHandle") ∧
  (∀ sig, parseMethodDescriptor y.desc = some sig → n = sig.parameters.length) ∧ (Cond.methodLink own index y).before args s = true ∧ (Cond.instanceMethod y).before args s = true ∧ (Cond.selects C y y).before args s = true
theorem vx_cwVW {own C : String} {index maxL mc ms : Nat} {y : MethodName} {bytes : ByteArray} {ret : Option FieldType} {hh : List (Nat × Nat × Nat × Nat)} {Ts ws ws' : List Cond} {rm : Room} (n : Nat) (ht : ∀ w ∈ Ts, w.before args s = true) (hT : GoodIn Ts (wsV own index C y ws)) (hw : ws = Cond.codeWith y bytes maxL ret hh :: ws') (hrc : rm.cells = mc) (hrs : rm.slots = ms)
    (hd : y.cls = C ∧ y.cls ≠ "java/lang/invoke/MethodHandle" ∧ y.cls ≠ "java/lang/invoke/VarHandle" ∧ (parseMethodDescriptor y.desc).map (fun d => d.parameters.length) = some n) (hR : rm.frames + 1 ≤ R.frames ∧ 8 + (maxL + 11) + rm.locals ≤ R.locals) :
    vx_CVW R s args own C index y bytes maxL ret hh ws rm mc ms n := by
  obtain ⟨hC, hd⟩ := hd
  subst hC
  have ok : ∀ w ∈ wsV own index y.cls y ws, w.before args s = true := fun w h => ht w (hT w h).1
  have hG : GoodIn Ts ws := fun w h => hT w (by unfold wsV; exact List.mem_append_right _ h)
  have hc : Cond.codeWith y bytes maxL ret hh ∈ ws := by rw [hw]; exact List.mem_cons_self
  refine ⟨⟨hrc, hrs, hR.1, hR.2, pay_in ht hG, hc⟩, ht _ (hG _ hc).1, ok _ (by simp [wsV]), ⟨hd.1, hd.2.1⟩, fun sig h => ?_, ok _ (by simp [wsV]), ok _ (by simp [wsV]), ok _ (by simp [wsV])⟩
  have h2 := hd.2.2
  rw [h] at h2
  exact (Option.some.inj h2).symm
theorem vx_runVW {y : MethodName} {bytes cc : ByteArray} {maxL nL mc ms n index : Nat} {ret : Option FieldType} {hh : List (Nat × Nat × Nat × Nat)} {ws : List Cond} {rm : Room} {Pc : Array Value → State → Prop} {Qc : Array Value → State → Outcome → State → Prop} {free : Addr → Prop} {Ts : List Cond} {own C : String} {b : Addr} {As rest : List Value} {g : JFrame}
    (S : CallFix p m c cc nL s args Ts own) (hM : Met l y ws rm Pc Qc mc ms free) (cw : vx_CVW R s args own C index y bytes maxL ret hh ws rm mc ms n) (hp : PreV s H C b Pc As)
    (hg : g.method = m) (hn : As.length = n) (hsize : g.locals.size = nL) (hstack : g.stack = As.reverse ++ .ref b :: rest) (hW : 2 * g.monitorRoom + (rest.map fun v => v.category).sum ≤ 8) (hdg : decode cc g.pc = .ok (.invokevirtual index, 3)) (hf : cells + mc ≤ R.cells ∧ slots + ms ≤ R.slots) :
    va_Run p l e R s m args below meth c H locs cells slots mc ms g rest (Qc (Value.ref b :: As).toArray) free := by
  obtain ⟨⟨hrc, hrs, hfr, hlo, hws, hcw⟩, hcode, hini, hy, hlen, hl, hin, hse⟩ := cw
  have hK : Back l R p e below s args y 3 8 (PreOf R mc ms Pc) (PostOf Qc mc ms free) := va_backW (hh := hh) (bytes := bytes) (maxL := maxL) (ret := ret) hM hp.1 hrc hrs hfr hlo hws hcw (fun a' U hW => word_at hW (Or.inl (by first | rfl | simp [Cond.onTables, Cond.keeps, Cond.steady])) hini)
  obtain ⟨hx, hb, hml, ho, -⟩ := S
  obtain ⟨-, ⟨cellB, hcB, hoB, hclB⟩, hPc⟩ := hp
  intro T hT X
  obtain ⟨v, vm₁, ⟨U', l2, c2, s2⟩, hW₁, X', ⟨g', mk, t, L, e1, e2, hq, h1, hL, h2, h3⟩, st⟩ := vx_callVW X hx (C := C) (hh := hh) (bytes := bytes) (maxL := maxL) (ret := ret) ho hl hin hse hcode hy hK (by rw [hT]; exact hcB) hoB hclB hg (hsize.trans hml.symm) (argsL := As) (rest := rest) (fun sig h => hn.trans (hlen sig h)) hstack hW (by rw [hb]; exact hdg)
    (fun vm₁ hW₁ => ⟨hf.1, hf.2, hPc (T.setVm vm₁) hT hW₁⟩)
  dsimp only [Pt.U, Pt.locs, Pt.cells, Pt.slots] at X' e1 e2 h1 h2 h3 st
  subst h1; subst h2; subst h3
  exact ⟨v, (T.setVm vm₁).calling g' mk (Value.ref b :: As).toArray, t, U', L, hT, X', hL, e1, e2, hq, st⟩
section
variable {y : MethodName} {bytes cc : ByteArray} {maxL nL mc ms n index : Nat} {ret : Option FieldType} {ws : List Cond} {rm : Room} {Pc : Array Value → State → Prop} {Qc : Array Value → State → Outcome → State → Prop} {XC : String → State → State → Prop} {free : Addr → Prop} {Ts : List Cond} {own C : String} {b : Addr} {As rest : List Value} {g : JFrame}
theorem vx_runVX {hh : List (Nat × Nat × Nat × Nat)} (S : CallFix p m c cc nL s args Ts own) (hM : vx_Met l y ws rm Pc Qc XC mc ms free) (cw : vx_CVW R s args own C index y bytes maxL ret hh ws rm mc ms n) (hp : PreV s H C b Pc As)
    (hg : g.method = m) (hn : As.length = n) (hsize : g.locals.size = nL) (hstack : g.stack = As.reverse ++ .ref b :: rest) (hW : 2 * g.monitorRoom + (rest.map fun v => v.category).sum ≤ 8) (hdg : decode cc g.pc = .ok (.invokevirtual index, 3)) (hf : cells + mc ≤ R.cells ∧ slots + ms ≤ R.slots) :
    vx_Run p l e R s m args below meth c H locs cells slots mc ms g rest (Qc (Value.ref b :: As).toArray) XC free := by
  obtain ⟨⟨hrc, hrs, hfr, hlo, hws, hcw⟩, hcode, hini, hy, hlen, hl, hin, hse⟩ := cw
  have hK : vx_Back l R p e below s args y 3 8 (PreOf R mc ms Pc) (PostOf Qc mc ms free) (vx_Post XC mc ms free) := vx_backW (hh := hh) (bytes := bytes) (maxL := maxL) (ret := ret) hM hp.1 hrc hrs hfr hlo hws hcw (fun a' U hW => word_at hW (Or.inl (by first | rfl | simp [Cond.onTables, Cond.keeps, Cond.steady])) hini)
  obtain ⟨hx, hb, hml, ho, -⟩ := S
  obtain ⟨-, ⟨cellB, hcB, hoB, hclB⟩, hPc⟩ := hp
  intro T hT X
  rcases vx_callVX X hx (C := C) (hh := hh) (bytes := bytes) (maxL := maxL) (ret := ret) ho hl hin hse hcode hy hK (by rw [hT]; exact hcB) hoB hclB hg (hsize.trans hml.symm) (argsL := As) (rest := rest) (fun sig h => hn.trans (hlen sig h)) hstack hW (by rw [hb]; exact hdg)
    (fun vm₁ hW₁ => ⟨hf.1, hf.2, hPc (T.setVm vm₁) hT hW₁⟩) with ⟨v, vm₁, ⟨U', l2, c2, s2⟩, hW₁, X', ⟨g', mk, t, L, e1, e2, hq, h1, hL, h2, h3⟩, st⟩ | ⟨q, vm₁, ⟨U', l2, c2, s2⟩, hW₁, X', ⟨g', mk, t, L, E, ce, e1, e2, hq, hce, hcv, hcl, h1, hL, h2, h3⟩, st⟩
  · dsimp only [Pt.U, Pt.locs, Pt.cells, Pt.slots] at X' e1 e2 h1 h2 h3 st
    subst h1; subst h2; subst h3
    exact Or.inl ⟨v, (T.setVm vm₁).calling g' mk (Value.ref b :: As).toArray, t, U', L, hT, X', hL, e1, e2, hq, st⟩
  · dsimp only [Pt.U, Pt.locs, Pt.cells, Pt.slots] at X' e1 e2 h1 h2 h3 st hcl
    subst h1; subst h2; subst h3
    exact Or.inr ⟨q, (T.setVm vm₁).calling g' mk (Value.ref b :: As).toArray, t, U', L, E, ce, hT, X', hL, e1, e2, hq, hce, hcv, vx_cls hW₁ hcl, st⟩
theorem vx_runSX {hh : List (Nat × Nat × Nat × Nat)} (S : CallFix p m c cc nL s args Ts own) (hM : vx_Met l y ws rm Pc Qc XC mc ms free) (cw : vx_CSW R s args own index y bytes maxL ret hh ws rm mc ms n) (hp : PreS s H Pc As)
    (hg : g.method = m) (hn : As.length = n) (hsize : g.locals.size = nL) (hstack : g.stack = As.reverse ++ rest) (hW : 2 * g.monitorRoom + (rest.map fun v => v.category).sum ≤ 8) (hdg : decode cc g.pc = .ok (.invokestatic index, 3)) (hf : cells + mc ≤ R.cells ∧ slots + ms ≤ R.slots) :
    vx_Run p l e R s m args below meth c H locs cells slots mc ms g rest (Qc As.toArray) XC free := by
  obtain ⟨⟨hrc, hrs, hfr, hlo, hws, hcw⟩, hcode, hini, hy, hlen, hl, hstt⟩ := cw
  have hK : vx_Back l R p e below s args y 3 8 (PreOf R mc ms Pc) (PostOf Qc mc ms free) (vx_Post XC mc ms free) := vx_backW (hh := hh) (bytes := bytes) (maxL := maxL) (ret := ret) hM hp.1 hrc hrs hfr hlo hws hcw (fun a' U hW => word_at hW (Or.inl (by first | rfl | simp [Cond.onTables, Cond.keeps, Cond.steady])) hini)
  obtain ⟨hx, hb, hml, ho, -⟩ := S
  intro T hT X
  rcases vx_callSX X hx (hh := hh) (bytes := bytes) (maxL := maxL) (ret := ret) ho hl hstt hini hcode hy hK hg (hsize.trans hml.symm) (argsL := As) (rest := rest) (fun sig h => hn.trans (hlen sig h)) hstack hW (by rw [hb]; exact hdg)
    (fun vm₁ hW₁ => ⟨hf.1, hf.2, hp.2 (T.setVm vm₁) hT hW₁⟩) with ⟨v, vm₁, ⟨U', l2, c2, s2⟩, hW₁, X', ⟨g', mk, t, L, e1, e2, hq, h1, hL, h2, h3⟩, st⟩ | ⟨q, vm₁, ⟨U', l2, c2, s2⟩, hW₁, X', ⟨g', mk, t, L, E, ce, e1, e2, hq, hce, hcv, hcl, h1, hL, h2, h3⟩, st⟩
  · dsimp only [Pt.U, Pt.locs, Pt.cells, Pt.slots] at X' e1 e2 h1 h2 h3 st
    subst h1; subst h2; subst h3
    exact Or.inl ⟨v, (T.setVm vm₁).calling g' mk As.toArray, t, U', L, hT, X', hL, e1, e2, hq, st⟩
  · dsimp only [Pt.U, Pt.locs, Pt.cells, Pt.slots] at X' e1 e2 h1 h2 h3 st hcl
    subst h1; subst h2; subst h3
    exact Or.inr ⟨q, (T.setVm vm₁).calling g' mk As.toArray, t, U', L, E, ce, hT, X', hL, e1, e2, hq, hce, hcv, vx_cls hW₁ hcl, st⟩
end
end VXH
theorem vx_ofWH {l : Launch} {y : MethodName} {ws ws' : List Cond} {rm : Room} {Pc : Array Value → State → Prop} {Qc : Array Value → State → Outcome → State → Prop} {XC : String → State → State → Prop} {mc ms : Nat} {free : Addr → Prop} {cc : ByteArray} {maxL : Nat} {ret : Option FieldType} {hh : List (Nat × Nat × Nat × Nat)}
    (hy : plainName y.cls = true) (hw : ws = Cond.codeWith y cc maxL ret hh :: ws')
    (body : ∀ p e s m args below meth c s₁, BodyLoose p l y (headSpec ws rm) cc maxL ret e s m args below meth c s₁ → c.maxLocals = maxL → Pc args s →
      W p l e (headSpec ws rm).room s m args below meth c s.heap [] 0 0 (vx_MQ below Qc XC args s mc ms free) (entryFrame m args maxL)) : vx_Met l y ws rm Pc Qc XC mc ms free := by
  refine MetFree.of_bodyS (code := cc) (maxLocals := maxL) (ret := ret) hy ?_ ?_
  · intro args s m h hn
    obtain ⟨m9, meth, c, hn9, h1, h2, h3, h4, -, h5, h6, -⟩ := Cond.codeWith_spec (atoms_spec (ws := ws) h _ (by rw [hw]; exact List.mem_cons_self))
    cases hn.symm.trans hn9
    exact ⟨meth, c, h1, h2, h3, h4, h5, h6⟩
  · intro p e s m args below meth c s₁ B hml hP _
    have hh0 : s₁.heap = s.heap := by rw [B.state]; rfl
    obtain ⟨t, a1, o, b1, b2, b3⟩ := body p e s m args below meth c s₁ B hml hP s₁ hh0 (Stand.of_body B)
    exact ⟨t, o, a1, b1, b2, b3⟩
/-! ===== END ===== -/

/-! ===== BEGIN printed: names, fields, word lists, decode rows ===== -/
def RX0 : String := "MapSongs"
def TX0 : u_T := fun k => match k with
  | 0 => ("MapSongs", "turns", "[I", true)
  | 1 => ("MapSongs", "lengths", "[I", true)
  | 2 => ("MapSongs", "landmarks", "[I", true)
  | 3 => ("MapSongs", "marked", "[Z", true)
  | 4 => ("MapSongs", "words", "[I", true)
  | 5 => ("MapSongs", "legCount", "I", false)
  | 6 => ("MapSongs", "songStep", "I", false)
  | 7 => ("MapSongs", "headings", "[I", true)
  | 8 => ("MapSongs", "xs", "[I", true)
  | 9 => ("MapSongs", "ys", "[I", true)
  | _ => ("MapSongs", "notes", "[I", true)
def tyX0 : Nat → FieldType := fun k => match k with
  | 0 => .array .int
  | 1 => .array .int
  | 2 => .array .int
  | 3 => .array .boolean
  | 4 => .array .int
  | 5 => .int
  | 6 => .int
  | 7 => .array .int
  | 8 => .array .int
  | 9 => .array .int
  | _ => .array .int
abbrev wsX00 : List Cond := u_ws RX0 TX0 11
theorem nmX0 : ∀ a, a < 11 → ∀ b, b < 11 → a ≠ b → (TX0 a).2.1 ≠ (TX0 b).2.1 := by decide +kernel
theorem tyX0_ok : ∀ k, k < 11 → parseFieldDescriptor (TX0 k).2.2.1 = some (tyX0 k) := by decide +kernel
abbrev cX0_init : ByteArray := prog_1_method_1_code
def yX0_init : MethodName := ⟨RX0, "<init>", "()V"⟩
abbrev cX0_addLeg : ByteArray := prog_1_method_2_code
def yX0_addLeg : MethodName := ⟨RX0, "addLeg", "(III)I"⟩
abbrev cX0_strikeLeg : ByteArray := prog_1_method_3_code
def yX0_strikeLeg : MethodName := ⟨RX0, "strikeLeg", "()I"⟩
abbrev cX0_bend : ByteArray := prog_1_method_4_code
def yX0_bend : MethodName := ⟨RX0, "bend", "(II)I"⟩
abbrev cX0_setWord : ByteArray := prog_1_method_5_code
def yX0_setWord : MethodName := ⟨RX0, "setWord", "(II)I"⟩
abbrev cX0_setStep : ByteArray := prog_1_method_6_code
def yX0_setStep : MethodName := ⟨RX0, "setStep", "(I)I"⟩
abbrev cX0_legs : ByteArray := prog_1_method_7_code
def yX0_legs : MethodName := ⟨RX0, "legs", "()I"⟩
abbrev cX0_step : ByteArray := prog_1_method_8_code
def yX0_step : MethodName := ⟨RX0, "step", "()I"⟩
abbrev cX0_endX : ByteArray := prog_1_method_9_code
def yX0_endX : MethodName := ⟨RX0, "endX", "()I"⟩
abbrev cX0_endY : ByteArray := prog_1_method_10_code
def yX0_endY : MethodName := ⟨RX0, "endY", "()I"⟩
abbrev cX0_stepsHome : ByteArray := prog_1_method_11_code
def yX0_stepsHome : MethodName := ⟨RX0, "stepsHome", "()I"⟩
abbrev cX0_returns : ByteArray := prog_1_method_12_code
def yX0_returns : MethodName := ⟨RX0, "returns", "()I"⟩
abbrev cX0_turnOf : ByteArray := prog_1_method_13_code
def yX0_turnOf : MethodName := ⟨RX0, "turnOf", "(I)I"⟩
abbrev cX0_headingOf : ByteArray := prog_1_method_14_code
def yX0_headingOf : MethodName := ⟨RX0, "headingOf", "(I)I"⟩
abbrev cX0_landmarkOf : ByteArray := prog_1_method_15_code
def yX0_landmarkOf : MethodName := ⟨RX0, "landmarkOf", "(I)I"⟩
abbrev cX0_noteOf : ByteArray := prog_1_method_16_code
def yX0_noteOf : MethodName := ⟨RX0, "noteOf", "(I)I"⟩
abbrev cX0_isFolded : ByteArray := prog_1_method_17_code
def yX0_isFolded : MethodName := ⟨RX0, "isFolded", "(I)Z"⟩
abbrev cX0_wordIn : ByteArray := prog_1_method_18_code
def yX0_wordIn : MethodName := ⟨RX0, "wordIn", "(I)I"⟩
abbrev cX0_wordOf : ByteArray := prog_1_method_19_code
def yX0_wordOf : MethodName := ⟨RX0, "wordOf", "(I)I"⟩
abbrev cX0_beats : ByteArray := prog_1_method_20_code
def yX0_beats : MethodName := ⟨RX0, "beats", "()I"⟩
abbrev cX0_folded : ByteArray := prog_1_method_21_code
def yX0_folded : MethodName := ⟨RX0, "folded", "()I"⟩
abbrev cX0_range : ByteArray := prog_1_method_22_code
def yX0_range : MethodName := ⟨RX0, "range", "()I"⟩
abbrev cX0_sungWith : ByteArray := prog_1_method_23_code
def yX0_sungWith : MethodName := ⟨RX0, "sungWith", "(I)I"⟩
abbrev cX0_readings : ByteArray := prog_1_method_24_code
def yX0_readings : MethodName := ⟨RX0, "readings", "(I)I"⟩
abbrev cX0_rightReading : ByteArray := prog_1_method_25_code
def yX0_rightReading : MethodName := ⟨RX0, "rightReading", "(I)I"⟩
abbrev cX0_isAmbiguous : ByteArray := prog_1_method_26_code
def yX0_isAmbiguous : MethodName := ⟨RX0, "isAmbiguous", "(I)Z"⟩
abbrev cX0_isMended : ByteArray := prog_1_method_27_code
def yX0_isMended : MethodName := ⟨RX0, "isMended", "(I)Z"⟩
abbrev cX0_mend : ByteArray := prog_1_method_28_code
def yX0_mend : MethodName := ⟨RX0, "mend", "(I)I"⟩
abbrev cX0_mendTo : ByteArray := prog_1_method_29_code
def yX0_mendTo : MethodName := ⟨RX0, "mendTo", "(I)I"⟩
abbrev cX0_ambiguous : ByteArray := prog_1_method_30_code
def yX0_ambiguous : MethodName := ⟨RX0, "ambiguous", "()I"⟩
abbrev cX0_ways : ByteArray := prog_1_method_31_code
def yX0_ways : MethodName := ⟨RX0, "ways", "()J"⟩
abbrev cX0_firstAmbiguous : ByteArray := prog_1_method_32_code
def yX0_firstAmbiguous : MethodName := ⟨RX0, "firstAmbiguous", "()I"⟩
abbrev cX0_ambiguousWith : ByteArray := prog_1_method_33_code
def yX0_ambiguousWith : MethodName := ⟨RX0, "ambiguousWith", "(II)I"⟩
abbrev cX0_bestWord : ByteArray := prog_1_method_34_code
def yX0_bestWord : MethodName := ⟨RX0, "bestWord", "(I)I"⟩
abbrev cX0_bestStep : ByteArray := prog_1_method_35_code
def yX0_bestStep : MethodName := ⟨RX0, "bestStep", "()I"⟩
abbrev cX0_meanNote : ByteArray := prog_1_method_36_code
def yX0_meanNote : MethodName := ⟨RX0, "meanNote", "()D"⟩
abbrev cX0_digest : ByteArray := prog_1_method_37_code
def yX0_digest : MethodName := ⟨RX0, "digest", "()J"⟩
abbrev cX0_isLandmark : ByteArray := prog_1_method_38_code
def yX0_isLandmark : MethodName := ⟨RX0, "isLandmark", "(I)Z"⟩
abbrev cX0_isWord : ByteArray := prog_1_method_39_code
def yX0_isWord : MethodName := ⟨RX0, "isWord", "(I)Z"⟩
abbrev cX0_checkTurn : ByteArray := prog_1_method_40_code
def yX0_checkTurn : MethodName := ⟨RX0, "checkTurn", "(I)V"⟩
abbrev cX0_checkLandmark : ByteArray := prog_1_method_41_code
def yX0_checkLandmark : MethodName := ⟨RX0, "checkLandmark", "(I)V"⟩
abbrev cX0_checkWord : ByteArray := prog_1_method_42_code
def yX0_checkWord : MethodName := ⟨RX0, "checkWord", "(I)V"⟩
abbrev cX0_checkLeg : ByteArray := prog_1_method_43_code
def yX0_checkLeg : MethodName := ⟨RX0, "checkLeg", "(I)V"⟩
abbrev cX0_headingAhead : ByteArray := prog_1_method_44_code
def yX0_headingAhead : MethodName := ⟨RX0, "headingAhead", "(I)I"⟩
abbrev cX0_xAhead : ByteArray := prog_1_method_45_code
def yX0_xAhead : MethodName := ⟨RX0, "xAhead", "(I)I"⟩
abbrev cX0_yAhead : ByteArray := prog_1_method_46_code
def yX0_yAhead : MethodName := ⟨RX0, "yAhead", "(I)I"⟩
abbrev cX0_noteAhead : ByteArray := prog_1_method_47_code
def yX0_noteAhead : MethodName := ⟨RX0, "noteAhead", "(I)I"⟩
abbrev cX0_follow : ByteArray := prog_1_method_48_code
def yX0_follow : MethodName := ⟨RX0, "follow", "(I)V"⟩
abbrev cX0_endsWhereItWas : ByteArray := prog_1_method_49_code
def yX0_endsWhereItWas : MethodName := ⟨RX0, "endsWhereItWas", "(I)Z"⟩
abbrev cX0_leavesVoice : ByteArray := prog_1_method_50_code
def yX0_leavesVoice : MethodName := ⟨RX0, "leavesVoice", "(I)Z"⟩
abbrev cX0_noteBehind : ByteArray := prog_1_method_51_code
def yX0_noteBehind : MethodName := ⟨RX0, "noteBehind", "(II)I"⟩
abbrev cX0_dropMarks : ByteArray := prog_1_method_52_code
def yX0_dropMarks : MethodName := ⟨RX0, "dropMarks", "()V"⟩
abbrev cX0_turnsSungAs : ByteArray := prog_1_method_53_code
def yX0_turnsSungAs : MethodName := ⟨RX0, "turnsSungAs", "(IIII)I"⟩
abbrev cX0_landmarksNamed : ByteArray := prog_1_method_54_code
def yX0_landmarksNamed : MethodName := ⟨RX0, "landmarksNamed", "(II)I"⟩
abbrev cX0_mostAmbiguous : ByteArray := prog_1_method_55_code
def yX0_mostAmbiguous : MethodName := ⟨RX0, "mostAmbiguous", "()I"⟩
abbrev cX0_unmendedWith : ByteArray := prog_1_method_56_code
def yX0_unmendedWith : MethodName := ⟨RX0, "unmendedWith", "(III)I"⟩
abbrev cX0_sharesWordIf : ByteArray := prog_1_method_57_code
def yX0_sharesWordIf : MethodName := ⟨RX0, "sharesWordIf", "(III)Z"⟩
abbrev cX0_wordIf : ByteArray := prog_1_method_58_code
def yX0_wordIf : MethodName := ⟨RX0, "wordIf", "(III)I"⟩
abbrev cX0_digested : ByteArray := prog_1_method_59_code
def yX0_digested : MethodName := ⟨RX0, "digested", "(JJ)J"⟩
abbrev cX0_digestOfLeg : ByteArray := prog_1_method_60_code
def yX0_digestOfLeg : MethodName := ⟨RX0, "digestOfLeg", "(JI)J"⟩
def RX1 : String := "MapSongsLaw$Sim"
def TX1 : u_T := fun k => match k with
  | 0 => ("MapSongsLaw$Sim", "legs", "[[I", false)
  | 1 => ("MapSongsLaw$Sim", "word", "[I", false)
  | _ => ("MapSongsLaw$Sim", "step", "I", false)
def tyX1 : Nat → FieldType := fun k => match k with
  | 0 => .array (.array .int)
  | 1 => .array .int
  | _ => .int
abbrev wsX10 : List Cond := u_ws RX1 TX1 3
theorem nmX1 : ∀ a, a < 3 → ∀ b, b < 3 → a ≠ b → (TX1 a).2.1 ≠ (TX1 b).2.1 := by decide +kernel
theorem tyX1_ok : ∀ k, k < 3 → parseFieldDescriptor (TX1 k).2.2.1 = some (tyX1 k) := by decide +kernel
abbrev cX1_init : ByteArray := prog_3_method_1_code
def yX1_init : MethodName := ⟨RX1, "<init>", "()V"⟩
abbrev cX1_with : ByteArray := prog_3_method_2_code
def yX1_with : MethodName := ⟨RX1, "with", "([[I[I)[[I"⟩
abbrev cX1_less : ByteArray := prog_3_method_3_code
def yX1_less : MethodName := ⟨RX1, "less", "([[I)[[I"⟩
abbrev cX1_copy : ByteArray := prog_3_method_4_code
def yX1_copy : MethodName := ⟨RX1, "copy", "()LMapSongsLaw$Sim;"⟩
abbrev cX1_sung : ByteArray := prog_3_method_5_code
def yX1_sung : MethodName := ⟨RX1, "sung", "(II)I"⟩
abbrev cX1_ahead : ByteArray := prog_3_method_6_code
def yX1_ahead : MethodName := ⟨RX1, "ahead", "(I)I"⟩
abbrev cX1_sing : ByteArray := prog_3_method_7_code
def yX1_sing : MethodName := ⟨RX1, "sing", "(Z)V"⟩
abbrev cX1_readings : ByteArray := prog_3_method_8_code
def yX1_readings : MethodName := ⟨RX1, "readings", "(I)[I"⟩
abbrev cX1_isOpen : ByteArray := prog_3_method_9_code
def yX1_isOpen : MethodName := ⟨RX1, "isOpen", "(I)Z"⟩
abbrev cX1_open : ByteArray := prog_3_method_10_code
def yX1_open : MethodName := ⟨RX1, "open", "()I"⟩
abbrev cX1_ways : ByteArray := prog_3_method_11_code
def yX1_ways : MethodName := ⟨RX1, "ways", "()J"⟩
abbrev cX1_openBy : ByteArray := prog_3_method_13_code
def yX1_openBy : MethodName := ⟨RX1, "openBy", "(I)I"⟩
abbrev cX1_isSame : ByteArray := prog_3_method_14_code
def yX1_isSame : MethodName := ⟨RX1, "isSame", "(LMapSongs;)Z"⟩
def RX2 : String := "MapSongsModel"
def TX2 : u_T := fun k => match k with
  | _ => ("", "", "", false)
def tyX2 : Nat → FieldType := fun k => match k with
  | _ => .int
abbrev wsX20 : List Cond := u_ws RX2 TX2 0
theorem nmX2 : ∀ a, a < 0 → ∀ b, b < 0 → a ≠ b → (TX2 a).2.1 ≠ (TX2 b).2.1 := by decide +kernel
theorem tyX2_ok : ∀ k, k < 0 → parseFieldDescriptor (TX2 k).2.2.1 = some (tyX2 k) := by decide +kernel
def RJ9 : String := "java/lang/Math"
def TJ9 : u_T := fun k => match k with
  | _ => ("", "", "", false)
def tyJ9 : Nat → FieldType := fun k => match k with
  | _ => .int
abbrev wsJ90 : List Cond := u_ws RJ9 TJ9 0
theorem nmJ9 : ∀ a, a < 0 → ∀ b, b < 0 → a ≠ b → (TJ9 a).2.1 ≠ (TJ9 b).2.1 := by decide +kernel
theorem tyJ9_ok : ∀ k, k < 0 → parseFieldDescriptor (TJ9 k).2.2.1 = some (tyJ9 k) := by decide +kernel
abbrev cJ9_floorMod_7cf53 : ByteArray := prog_9_method_50_code
def yJ9_floorMod_7cf53 : MethodName := ⟨RJ9, "floorMod", "(II)I"⟩
abbrev cJ9_abs_0f7a4 : ByteArray := prog_9_method_59_code
def yJ9_abs_0f7a4 : MethodName := ⟨RJ9, "abs", "(I)I"⟩
abbrev cJ9_max_7cf53 : ByteArray := prog_9_method_65_code
def yJ9_max_7cf53 : MethodName := ⟨RJ9, "max", "(II)I"⟩
abbrev cJ9_min_7cf53 : ByteArray := prog_9_method_69_code
def yJ9_min_7cf53 : MethodName := ⟨RJ9, "min", "(II)I"⟩
abbrev cJ9_min_f86c9 : ByteArray := prog_9_method_70_code
def yJ9_min_f86c9 : MethodName := ⟨RJ9, "min", "(JJ)J"⟩
def RJ0 : String := "java/lang/String"
def TJ0 : u_T := fun k => match k with
  | _ => ("", "", "", false)
def tyJ0 : Nat → FieldType := fun k => match k with
  | _ => .int
abbrev wsJ00 : List Cond := u_ws RJ0 TJ0 0
theorem nmJ0 : ∀ a, a < 0 → ∀ b, b < 0 → a ≠ b → (TJ0 a).2.1 ≠ (TJ0 b).2.1 := by decide +kernel
theorem tyJ0_ok : ∀ k, k < 0 → parseFieldDescriptor (TJ0 k).2.2.1 = some (tyJ0 k) := by decide +kernel
def RL : String := "MapSongsLaw"
abbrev cL_below : ByteArray := method_2_code
def yL_below : MethodName := ⟨RL, "below", "(II)I"⟩
abbrev cL_cell : ByteArray := method_3_code
def yL_cell : MethodName := ⟨RL, "cell", "([II)I"⟩
abbrev cL_act : ByteArray := method_4_code
def yL_act : MethodName := ⟨RL, "act", "(LMapSongs;LMapSongsLaw$Sim;I)Z"⟩
abbrev cL_build : ByteArray := method_5_code
def yL_build : MethodName := ⟨RL, "build", "(LMapSongs;[I)LMapSongsLaw$Sim;"⟩
abbrev cL_law : ByteArray := code
def yL_law : MethodName := ⟨RL, "law", "([I)Z"⟩
abbrev vwCl : List vw_C := [(RX0, TX0, 11), (RX1, TX1, 3)]
/-! ===== END printed: names ===== -/
end
section
theorem dX0_init_0 : decode cX0_init 0 = .ok (.aload_n 0, 1) := by decide +kernel
theorem dX0_init_1 : decode cX0_init 1 = .ok (.invokespecial 1, 3) := by decide +kernel
theorem dX0_init_4 : decode cX0_init 4 = .ok (.aload_n 0, 1) := by decide +kernel
theorem dX0_init_5 : decode cX0_init 5 = .ok (.bipush 16, 2) := by decide +kernel
theorem dX0_init_7 : decode cX0_init 7 = .ok (.newarray .int, 2) := by decide +kernel
theorem dX0_init_9 : decode cX0_init 9 = .ok (.putfield 9, 3) := by decide +kernel
theorem dX0_init_12 : decode cX0_init 12 = .ok (.aload_n 0, 1) := by decide +kernel
theorem dX0_init_13 : decode cX0_init 13 = .ok (.bipush 16, 2) := by decide +kernel
theorem dX0_init_15 : decode cX0_init 15 = .ok (.newarray .int, 2) := by decide +kernel
theorem dX0_init_17 : decode cX0_init 17 = .ok (.putfield 13, 3) := by decide +kernel
theorem dX0_init_20 : decode cX0_init 20 = .ok (.aload_n 0, 1) := by decide +kernel
theorem dX0_init_21 : decode cX0_init 21 = .ok (.bipush 16, 2) := by decide +kernel
theorem dX0_init_23 : decode cX0_init 23 = .ok (.newarray .int, 2) := by decide +kernel
theorem dX0_init_25 : decode cX0_init 25 = .ok (.putfield 16, 3) := by decide +kernel
theorem dX0_init_28 : decode cX0_init 28 = .ok (.aload_n 0, 1) := by decide +kernel
theorem dX0_init_29 : decode cX0_init 29 = .ok (.bipush 16, 2) := by decide +kernel
theorem dX0_init_31 : decode cX0_init 31 = .ok (.newarray .boolean, 2) := by decide +kernel
theorem dX0_init_33 : decode cX0_init 33 = .ok (.putfield 19, 3) := by decide +kernel
theorem dX0_init_36 : decode cX0_init 36 = .ok (.aload_n 0, 1) := by decide +kernel
theorem dX0_init_37 : decode cX0_init 37 = .ok (.bipush 10, 2) := by decide +kernel
theorem dX0_init_39 : decode cX0_init 39 = .ok (.newarray .int, 2) := by decide +kernel
theorem dX0_init_41 : decode cX0_init 41 = .ok (.putfield 23, 3) := by decide +kernel
theorem dX0_init_44 : decode cX0_init 44 = .ok (.aload_n 0, 1) := by decide +kernel
theorem dX0_init_45 : decode cX0_init 45 = .ok (.bipush 16, 2) := by decide +kernel
theorem dX0_init_47 : decode cX0_init 47 = .ok (.newarray .int, 2) := by decide +kernel
theorem dX0_init_49 : decode cX0_init 49 = .ok (.putfield 26, 3) := by decide +kernel
theorem dX0_init_52 : decode cX0_init 52 = .ok (.aload_n 0, 1) := by decide +kernel
theorem dX0_init_53 : decode cX0_init 53 = .ok (.bipush 16, 2) := by decide +kernel
theorem dX0_init_55 : decode cX0_init 55 = .ok (.newarray .int, 2) := by decide +kernel
theorem dX0_init_57 : decode cX0_init 57 = .ok (.putfield 29, 3) := by decide +kernel
theorem dX0_init_60 : decode cX0_init 60 = .ok (.aload_n 0, 1) := by decide +kernel
theorem dX0_init_61 : decode cX0_init 61 = .ok (.bipush 16, 2) := by decide +kernel
theorem dX0_init_63 : decode cX0_init 63 = .ok (.newarray .int, 2) := by decide +kernel
theorem dX0_init_65 : decode cX0_init 65 = .ok (.putfield 32, 3) := by decide +kernel
theorem dX0_init_68 : decode cX0_init 68 = .ok (.aload_n 0, 1) := by decide +kernel
theorem dX0_init_69 : decode cX0_init 69 = .ok (.bipush 16, 2) := by decide +kernel
theorem dX0_init_71 : decode cX0_init 71 = .ok (.newarray .int, 2) := by decide +kernel
theorem dX0_init_73 : decode cX0_init 73 = .ok (.putfield 35, 3) := by decide +kernel
theorem dX0_init_76 : decode cX0_init 76 = .ok (.aload_n 0, 1) := by decide +kernel
theorem dX0_init_77 : decode cX0_init 77 = .ok (.iconst 2, 1) := by decide +kernel
theorem dX0_init_78 : decode cX0_init 78 = .ok (.putfield 38, 3) := by decide +kernel
theorem dX0_init_81 : decode cX0_init 81 = .ok (.iconst 0, 1) := by decide +kernel
theorem dX0_init_82 : decode cX0_init 82 = .ok (.istore_n 1, 1) := by decide +kernel
theorem dX0_init_83 : decode cX0_init 83 = .ok (.iload_n 1, 1) := by decide +kernel
theorem dX0_init_84 : decode cX0_init 84 = .ok (.bipush 10, 2) := by decide +kernel
theorem dX0_init_86 : decode cX0_init 86 = .ok (.if_icmp .ge 16, 3) := by decide +kernel
theorem dX0_init_89 : decode cX0_init 89 = .ok (.aload_n 0, 1) := by decide +kernel
theorem dX0_init_90 : decode cX0_init 90 = .ok (.getfield 23, 3) := by decide +kernel
theorem dX0_init_93 : decode cX0_init 93 = .ok (.iload_n 1, 1) := by decide +kernel
theorem dX0_init_94 : decode cX0_init 94 = .ok (.iload_n 1, 1) := by decide +kernel
theorem dX0_init_95 : decode cX0_init 95 = .ok (.iastore, 1) := by decide +kernel
theorem dX0_init_96 : decode cX0_init 96 = .ok (.iinc 1 1, 3) := by decide +kernel
theorem dX0_init_99 : decode cX0_init 99 = .ok (.goto (-16), 3) := by decide +kernel
theorem dX0_init_102 : decode cX0_init 102 = .ok (.return_, 1) := by decide +kernel
theorem dX0_addLeg_0 : decode cX0_addLeg 0 = .ok (.iload_n 1, 1) := by decide +kernel
theorem dX0_addLeg_1 : decode cX0_addLeg 1 = .ok (.invokestatic 42, 3) := by decide +kernel
theorem dX0_addLeg_4 : decode cX0_addLeg 4 = .ok (.iload_n 2, 1) := by decide +kernel
theorem dX0_addLeg_5 : decode cX0_addLeg 5 = .ok (.iconst 1, 1) := by decide +kernel
theorem dX0_addLeg_6 : decode cX0_addLeg 6 = .ok (.if_icmp .lt 9, 3) := by decide +kernel
theorem dX0_addLeg_9 : decode cX0_addLeg 9 = .ok (.iload_n 2, 1) := by decide +kernel
theorem dX0_addLeg_10 : decode cX0_addLeg 10 = .ok (.bipush 9, 2) := by decide +kernel
theorem dX0_addLeg_12 : decode cX0_addLeg 12 = .ok (.if_icmp .le 13, 3) := by decide +kernel
theorem dX0_addLeg_15 : decode cX0_addLeg 15 = .ok (.new 46, 3) := by decide +kernel
theorem dX0_addLeg_18 : decode cX0_addLeg 18 = .ok (.dup, 1) := by decide +kernel
theorem dX0_addLeg_19 : decode cX0_addLeg 19 = .ok (.ldc 48, 2) := by decide +kernel
theorem dX0_addLeg_21 : decode cX0_addLeg 21 = .ok (.invokespecial 50, 3) := by decide +kernel
theorem dX0_addLeg_24 : decode cX0_addLeg 24 = .ok (.athrow, 1) := by decide +kernel
theorem dX0_addLeg_25 : decode cX0_addLeg 25 = .ok (.iload_n 3, 1) := by decide +kernel
theorem dX0_addLeg_26 : decode cX0_addLeg 26 = .ok (.invokestatic 53, 3) := by decide +kernel
theorem dX0_addLeg_29 : decode cX0_addLeg 29 = .ok (.ifCond .ne 13, 3) := by decide +kernel
theorem dX0_addLeg_32 : decode cX0_addLeg 32 = .ok (.new 46, 3) := by decide +kernel
theorem dX0_addLeg_35 : decode cX0_addLeg 35 = .ok (.dup, 1) := by decide +kernel
theorem dX0_addLeg_36 : decode cX0_addLeg 36 = .ok (.ldc 57, 2) := by decide +kernel
theorem dX0_addLeg_38 : decode cX0_addLeg 38 = .ok (.invokespecial 50, 3) := by decide +kernel
theorem dX0_addLeg_41 : decode cX0_addLeg 41 = .ok (.athrow, 1) := by decide +kernel
theorem dX0_addLeg_42 : decode cX0_addLeg 42 = .ok (.aload_n 0, 1) := by decide +kernel
theorem dX0_addLeg_43 : decode cX0_addLeg 43 = .ok (.getfield 59, 3) := by decide +kernel
theorem dX0_addLeg_46 : decode cX0_addLeg 46 = .ok (.bipush 16, 2) := by decide +kernel
theorem dX0_addLeg_48 : decode cX0_addLeg 48 = .ok (.if_icmp .lt 13, 3) := by decide +kernel
theorem dX0_addLeg_51 : decode cX0_addLeg 51 = .ok (.new 62, 3) := by decide +kernel
theorem dX0_addLeg_54 : decode cX0_addLeg 54 = .ok (.dup, 1) := by decide +kernel
theorem dX0_addLeg_55 : decode cX0_addLeg 55 = .ok (.ldc 64, 2) := by decide +kernel
theorem dX0_addLeg_57 : decode cX0_addLeg 57 = .ok (.invokespecial 66, 3) := by decide +kernel
theorem dX0_addLeg_60 : decode cX0_addLeg 60 = .ok (.athrow, 1) := by decide +kernel
theorem dX0_addLeg_61 : decode cX0_addLeg 61 = .ok (.aload_n 0, 1) := by decide +kernel
theorem dX0_addLeg_62 : decode cX0_addLeg 62 = .ok (.getfield 59, 3) := by decide +kernel
theorem dX0_addLeg_65 : decode cX0_addLeg 65 = .ok (.istore 4, 2) := by decide +kernel
theorem dX0_addLeg_67 : decode cX0_addLeg 67 = .ok (.aload_n 0, 1) := by decide +kernel
theorem dX0_addLeg_68 : decode cX0_addLeg 68 = .ok (.getfield 9, 3) := by decide +kernel
theorem dX0_addLeg_71 : decode cX0_addLeg 71 = .ok (.iload 4, 2) := by decide +kernel
theorem dX0_addLeg_73 : decode cX0_addLeg 73 = .ok (.iload_n 1, 1) := by decide +kernel
theorem dX0_addLeg_74 : decode cX0_addLeg 74 = .ok (.iastore, 1) := by decide +kernel
theorem dX0_addLeg_75 : decode cX0_addLeg 75 = .ok (.aload_n 0, 1) := by decide +kernel
theorem dX0_addLeg_76 : decode cX0_addLeg 76 = .ok (.getfield 13, 3) := by decide +kernel
theorem dX0_addLeg_79 : decode cX0_addLeg 79 = .ok (.iload 4, 2) := by decide +kernel
theorem dX0_addLeg_81 : decode cX0_addLeg 81 = .ok (.iload_n 2, 1) := by decide +kernel
theorem dX0_addLeg_82 : decode cX0_addLeg 82 = .ok (.iastore, 1) := by decide +kernel
theorem dX0_addLeg_83 : decode cX0_addLeg 83 = .ok (.aload_n 0, 1) := by decide +kernel
theorem dX0_addLeg_84 : decode cX0_addLeg 84 = .ok (.getfield 16, 3) := by decide +kernel
theorem dX0_addLeg_87 : decode cX0_addLeg 87 = .ok (.iload 4, 2) := by decide +kernel
theorem dX0_addLeg_89 : decode cX0_addLeg 89 = .ok (.iload_n 3, 1) := by decide +kernel
theorem dX0_addLeg_90 : decode cX0_addLeg 90 = .ok (.iastore, 1) := by decide +kernel
theorem dX0_addLeg_91 : decode cX0_addLeg 91 = .ok (.aload_n 0, 1) := by decide +kernel
theorem dX0_addLeg_92 : decode cX0_addLeg 92 = .ok (.getfield 19, 3) := by decide +kernel
theorem dX0_addLeg_95 : decode cX0_addLeg 95 = .ok (.iload 4, 2) := by decide +kernel
theorem dX0_addLeg_97 : decode cX0_addLeg 97 = .ok (.iconst 0, 1) := by decide +kernel
theorem dX0_addLeg_98 : decode cX0_addLeg 98 = .ok (.bastore, 1) := by decide +kernel
theorem dX0_addLeg_99 : decode cX0_addLeg 99 = .ok (.aload_n 0, 1) := by decide +kernel
theorem dX0_addLeg_100 : decode cX0_addLeg 100 = .ok (.iload 4, 2) := by decide +kernel
theorem dX0_addLeg_102 : decode cX0_addLeg 102 = .ok (.iconst 1, 1) := by decide +kernel
theorem dX0_addLeg_103 : decode cX0_addLeg 103 = .ok (.iadd, 1) := by decide +kernel
theorem dX0_addLeg_104 : decode cX0_addLeg 104 = .ok (.putfield 59, 3) := by decide +kernel
theorem dX0_addLeg_107 : decode cX0_addLeg 107 = .ok (.aload_n 0, 1) := by decide +kernel
theorem dX0_addLeg_108 : decode cX0_addLeg 108 = .ok (.iload 4, 2) := by decide +kernel
theorem dX0_addLeg_110 : decode cX0_addLeg 110 = .ok (.invokevirtual 67, 3) := by decide +kernel
theorem dX0_addLeg_113 : decode cX0_addLeg 113 = .ok (.iload 4, 2) := by decide +kernel
theorem dX0_addLeg_115 : decode cX0_addLeg 115 = .ok (.ireturn, 1) := by decide +kernel
theorem dX0_strikeLeg_0 : decode cX0_strikeLeg 0 = .ok (.aload_n 0, 1) := by decide +kernel
theorem dX0_strikeLeg_1 : decode cX0_strikeLeg 1 = .ok (.getfield 59, 3) := by decide +kernel
theorem dX0_strikeLeg_4 : decode cX0_strikeLeg 4 = .ok (.ifCond .gt 13, 3) := by decide +kernel
theorem dX0_strikeLeg_7 : decode cX0_strikeLeg 7 = .ok (.new 62, 3) := by decide +kernel
theorem dX0_strikeLeg_10 : decode cX0_strikeLeg 10 = .ok (.dup, 1) := by decide +kernel
theorem dX0_strikeLeg_11 : decode cX0_strikeLeg 11 = .ok (.ldc 70, 2) := by decide +kernel
theorem dX0_strikeLeg_13 : decode cX0_strikeLeg 13 = .ok (.invokespecial 66, 3) := by decide +kernel
theorem dX0_strikeLeg_16 : decode cX0_strikeLeg 16 = .ok (.athrow, 1) := by decide +kernel
theorem dX0_strikeLeg_17 : decode cX0_strikeLeg 17 = .ok (.aload_n 0, 1) := by decide +kernel
theorem dX0_strikeLeg_18 : decode cX0_strikeLeg 18 = .ok (.aload_n 0, 1) := by decide +kernel
theorem dX0_strikeLeg_19 : decode cX0_strikeLeg 19 = .ok (.getfield 59, 3) := by decide +kernel
theorem dX0_strikeLeg_22 : decode cX0_strikeLeg 22 = .ok (.iconst 1, 1) := by decide +kernel
theorem dX0_strikeLeg_23 : decode cX0_strikeLeg 23 = .ok (.isub, 1) := by decide +kernel
theorem dX0_strikeLeg_24 : decode cX0_strikeLeg 24 = .ok (.putfield 59, 3) := by decide +kernel
theorem dX0_strikeLeg_27 : decode cX0_strikeLeg 27 = .ok (.aload_n 0, 1) := by decide +kernel
theorem dX0_strikeLeg_28 : decode cX0_strikeLeg 28 = .ok (.getfield 16, 3) := by decide +kernel
theorem dX0_strikeLeg_31 : decode cX0_strikeLeg 31 = .ok (.aload_n 0, 1) := by decide +kernel
theorem dX0_strikeLeg_32 : decode cX0_strikeLeg 32 = .ok (.getfield 59, 3) := by decide +kernel
theorem dX0_strikeLeg_35 : decode cX0_strikeLeg 35 = .ok (.iaload, 1) := by decide +kernel
theorem dX0_strikeLeg_36 : decode cX0_strikeLeg 36 = .ok (.ireturn, 1) := by decide +kernel
theorem dX0_bend_0 : decode cX0_bend 0 = .ok (.aload_n 0, 1) := by decide +kernel
theorem dX0_bend_1 : decode cX0_bend 1 = .ok (.iload_n 1, 1) := by decide +kernel
theorem dX0_bend_2 : decode cX0_bend 2 = .ok (.invokevirtual 72, 3) := by decide +kernel
theorem dX0_bend_5 : decode cX0_bend 5 = .ok (.iload_n 2, 1) := by decide +kernel
theorem dX0_bend_6 : decode cX0_bend 6 = .ok (.invokestatic 42, 3) := by decide +kernel
theorem dX0_bend_9 : decode cX0_bend 9 = .ok (.aload_n 0, 1) := by decide +kernel
theorem dX0_bend_10 : decode cX0_bend 10 = .ok (.getfield 9, 3) := by decide +kernel
theorem dX0_bend_13 : decode cX0_bend 13 = .ok (.iload_n 1, 1) := by decide +kernel
theorem dX0_bend_14 : decode cX0_bend 14 = .ok (.iaload, 1) := by decide +kernel
theorem dX0_bend_15 : decode cX0_bend 15 = .ok (.istore_n 3, 1) := by decide +kernel
theorem dX0_bend_16 : decode cX0_bend 16 = .ok (.aload_n 0, 1) := by decide +kernel
theorem dX0_bend_17 : decode cX0_bend 17 = .ok (.getfield 9, 3) := by decide +kernel
theorem dX0_bend_20 : decode cX0_bend 20 = .ok (.iload_n 1, 1) := by decide +kernel
theorem dX0_bend_21 : decode cX0_bend 21 = .ok (.iload_n 2, 1) := by decide +kernel
theorem dX0_bend_22 : decode cX0_bend 22 = .ok (.iastore, 1) := by decide +kernel
theorem dX0_bend_23 : decode cX0_bend 23 = .ok (.aload_n 0, 1) := by decide +kernel
theorem dX0_bend_24 : decode cX0_bend 24 = .ok (.iload_n 1, 1) := by decide +kernel
theorem dX0_bend_25 : decode cX0_bend 25 = .ok (.invokevirtual 67, 3) := by decide +kernel
theorem dX0_bend_28 : decode cX0_bend 28 = .ok (.aload_n 0, 1) := by decide +kernel
theorem dX0_bend_29 : decode cX0_bend 29 = .ok (.invokevirtual 75, 3) := by decide +kernel
theorem dX0_bend_32 : decode cX0_bend 32 = .ok (.iload_n 3, 1) := by decide +kernel
theorem dX0_bend_33 : decode cX0_bend 33 = .ok (.ireturn, 1) := by decide +kernel
theorem dX0_setWord_0 : decode cX0_setWord 0 = .ok (.iload_n 1, 1) := by decide +kernel
theorem dX0_setWord_1 : decode cX0_setWord 1 = .ok (.invokestatic 78, 3) := by decide +kernel
theorem dX0_setWord_4 : decode cX0_setWord 4 = .ok (.iload_n 2, 1) := by decide +kernel
theorem dX0_setWord_5 : decode cX0_setWord 5 = .ok (.invokestatic 81, 3) := by decide +kernel
theorem dX0_setWord_8 : decode cX0_setWord 8 = .ok (.ifCond .ne 13, 3) := by decide +kernel
theorem dX0_setWord_11 : decode cX0_setWord 11 = .ok (.new 46, 3) := by decide +kernel
theorem dX0_setWord_14 : decode cX0_setWord 14 = .ok (.dup, 1) := by decide +kernel
theorem dX0_setWord_15 : decode cX0_setWord 15 = .ok (.ldc 84, 2) := by decide +kernel
theorem dX0_setWord_17 : decode cX0_setWord 17 = .ok (.invokespecial 50, 3) := by decide +kernel
theorem dX0_setWord_20 : decode cX0_setWord 20 = .ok (.athrow, 1) := by decide +kernel
theorem dX0_setWord_21 : decode cX0_setWord 21 = .ok (.aload_n 0, 1) := by decide +kernel
theorem dX0_setWord_22 : decode cX0_setWord 22 = .ok (.getfield 23, 3) := by decide +kernel
theorem dX0_setWord_25 : decode cX0_setWord 25 = .ok (.iload_n 1, 1) := by decide +kernel
theorem dX0_setWord_26 : decode cX0_setWord 26 = .ok (.iaload, 1) := by decide +kernel
theorem dX0_setWord_27 : decode cX0_setWord 27 = .ok (.istore_n 3, 1) := by decide +kernel
theorem dX0_setWord_28 : decode cX0_setWord 28 = .ok (.aload_n 0, 1) := by decide +kernel
theorem dX0_setWord_29 : decode cX0_setWord 29 = .ok (.getfield 23, 3) := by decide +kernel
theorem dX0_setWord_32 : decode cX0_setWord 32 = .ok (.iload_n 1, 1) := by decide +kernel
theorem dX0_setWord_33 : decode cX0_setWord 33 = .ok (.iload_n 2, 1) := by decide +kernel
theorem dX0_setWord_34 : decode cX0_setWord 34 = .ok (.iastore, 1) := by decide +kernel
theorem dX0_setWord_35 : decode cX0_setWord 35 = .ok (.aload_n 0, 1) := by decide +kernel
theorem dX0_setWord_36 : decode cX0_setWord 36 = .ok (.invokevirtual 75, 3) := by decide +kernel
theorem dX0_setWord_39 : decode cX0_setWord 39 = .ok (.iload_n 3, 1) := by decide +kernel
theorem dX0_setWord_40 : decode cX0_setWord 40 = .ok (.ireturn, 1) := by decide +kernel
theorem dX0_setStep_0 : decode cX0_setStep 0 = .ok (.iload_n 1, 1) := by decide +kernel
theorem dX0_setStep_1 : decode cX0_setStep 1 = .ok (.iconst 1, 1) := by decide +kernel
theorem dX0_setStep_2 : decode cX0_setStep 2 = .ok (.if_icmp .lt 8, 3) := by decide +kernel
theorem dX0_setStep_5 : decode cX0_setStep 5 = .ok (.iload_n 1, 1) := by decide +kernel
theorem dX0_setStep_6 : decode cX0_setStep 6 = .ok (.iconst 4, 1) := by decide +kernel
theorem dX0_setStep_7 : decode cX0_setStep 7 = .ok (.if_icmp .le 13, 3) := by decide +kernel
theorem dX0_setStep_10 : decode cX0_setStep 10 = .ok (.new 46, 3) := by decide +kernel
theorem dX0_setStep_13 : decode cX0_setStep 13 = .ok (.dup, 1) := by decide +kernel
theorem dX0_setStep_14 : decode cX0_setStep 14 = .ok (.ldc 86, 2) := by decide +kernel
theorem dX0_setStep_16 : decode cX0_setStep 16 = .ok (.invokespecial 50, 3) := by decide +kernel
theorem dX0_setStep_19 : decode cX0_setStep 19 = .ok (.athrow, 1) := by decide +kernel
theorem dX0_setStep_20 : decode cX0_setStep 20 = .ok (.aload_n 0, 1) := by decide +kernel
theorem dX0_setStep_21 : decode cX0_setStep 21 = .ok (.getfield 38, 3) := by decide +kernel
theorem dX0_setStep_24 : decode cX0_setStep 24 = .ok (.istore_n 2, 1) := by decide +kernel
theorem dX0_setStep_25 : decode cX0_setStep 25 = .ok (.aload_n 0, 1) := by decide +kernel
theorem dX0_setStep_26 : decode cX0_setStep 26 = .ok (.iload_n 1, 1) := by decide +kernel
theorem dX0_setStep_27 : decode cX0_setStep 27 = .ok (.putfield 38, 3) := by decide +kernel
theorem dX0_setStep_30 : decode cX0_setStep 30 = .ok (.aload_n 0, 1) := by decide +kernel
theorem dX0_setStep_31 : decode cX0_setStep 31 = .ok (.iconst 0, 1) := by decide +kernel
theorem dX0_setStep_32 : decode cX0_setStep 32 = .ok (.invokevirtual 67, 3) := by decide +kernel
theorem dX0_setStep_35 : decode cX0_setStep 35 = .ok (.aload_n 0, 1) := by decide +kernel
theorem dX0_setStep_36 : decode cX0_setStep 36 = .ok (.invokevirtual 75, 3) := by decide +kernel
theorem dX0_setStep_39 : decode cX0_setStep 39 = .ok (.iload_n 2, 1) := by decide +kernel
theorem dX0_setStep_40 : decode cX0_setStep 40 = .ok (.ireturn, 1) := by decide +kernel
theorem dX0_legs_0 : decode cX0_legs 0 = .ok (.aload_n 0, 1) := by decide +kernel
theorem dX0_legs_1 : decode cX0_legs 1 = .ok (.getfield 59, 3) := by decide +kernel
theorem dX0_legs_4 : decode cX0_legs 4 = .ok (.ireturn, 1) := by decide +kernel
theorem dX0_step_0 : decode cX0_step 0 = .ok (.aload_n 0, 1) := by decide +kernel
theorem dX0_step_1 : decode cX0_step 1 = .ok (.getfield 38, 3) := by decide +kernel
theorem dX0_step_4 : decode cX0_step 4 = .ok (.ireturn, 1) := by decide +kernel
theorem dX0_endX_0 : decode cX0_endX 0 = .ok (.aload_n 0, 1) := by decide +kernel
theorem dX0_endX_1 : decode cX0_endX 1 = .ok (.aload_n 0, 1) := by decide +kernel
theorem dX0_endX_2 : decode cX0_endX 2 = .ok (.getfield 59, 3) := by decide +kernel
theorem dX0_endX_5 : decode cX0_endX 5 = .ok (.invokevirtual 88, 3) := by decide +kernel
theorem dX0_endX_8 : decode cX0_endX 8 = .ok (.ireturn, 1) := by decide +kernel
theorem dX0_endY_0 : decode cX0_endY 0 = .ok (.aload_n 0, 1) := by decide +kernel
theorem dX0_endY_1 : decode cX0_endY 1 = .ok (.aload_n 0, 1) := by decide +kernel
theorem dX0_endY_2 : decode cX0_endY 2 = .ok (.getfield 59, 3) := by decide +kernel
theorem dX0_endY_5 : decode cX0_endY 5 = .ok (.invokevirtual 92, 3) := by decide +kernel
theorem dX0_endY_8 : decode cX0_endY 8 = .ok (.ireturn, 1) := by decide +kernel
theorem dX0_stepsHome_0 : decode cX0_stepsHome 0 = .ok (.aload_n 0, 1) := by decide +kernel
theorem dX0_stepsHome_1 : decode cX0_stepsHome 1 = .ok (.invokevirtual 95, 3) := by decide +kernel
theorem dX0_stepsHome_4 : decode cX0_stepsHome 4 = .ok (.invokestatic 99, 3) := by decide +kernel
theorem dX0_stepsHome_7 : decode cX0_stepsHome 7 = .ok (.aload_n 0, 1) := by decide +kernel
theorem dX0_stepsHome_8 : decode cX0_stepsHome 8 = .ok (.invokevirtual 104, 3) := by decide +kernel
theorem dX0_stepsHome_11 : decode cX0_stepsHome 11 = .ok (.invokestatic 99, 3) := by decide +kernel
theorem dX0_stepsHome_14 : decode cX0_stepsHome 14 = .ok (.invokestatic 107, 3) := by decide +kernel
theorem dX0_stepsHome_17 : decode cX0_stepsHome 17 = .ok (.ireturn, 1) := by decide +kernel
theorem dX0_returns_0 : decode cX0_returns 0 = .ok (.iconst 0, 1) := by decide +kernel
theorem dX0_returns_1 : decode cX0_returns 1 = .ok (.istore_n 1, 1) := by decide +kernel
theorem dX0_returns_2 : decode cX0_returns 2 = .ok (.iconst 0, 1) := by decide +kernel
theorem dX0_returns_3 : decode cX0_returns 3 = .ok (.istore_n 2, 1) := by decide +kernel
theorem dX0_returns_4 : decode cX0_returns 4 = .ok (.iload_n 2, 1) := by decide +kernel
theorem dX0_returns_5 : decode cX0_returns 5 = .ok (.aload_n 0, 1) := by decide +kernel
theorem dX0_returns_6 : decode cX0_returns 6 = .ok (.getfield 59, 3) := by decide +kernel
theorem dX0_returns_9 : decode cX0_returns 9 = .ok (.if_icmp .ge 20, 3) := by decide +kernel
theorem dX0_returns_12 : decode cX0_returns 12 = .ok (.aload_n 0, 1) := by decide +kernel
theorem dX0_returns_13 : decode cX0_returns 13 = .ok (.iload_n 2, 1) := by decide +kernel
theorem dX0_returns_14 : decode cX0_returns 14 = .ok (.invokevirtual 111, 3) := by decide +kernel
theorem dX0_returns_17 : decode cX0_returns 17 = .ok (.ifCond .eq 6, 3) := by decide +kernel
theorem dX0_returns_20 : decode cX0_returns 20 = .ok (.iinc 1 1, 3) := by decide +kernel
theorem dX0_returns_23 : decode cX0_returns 23 = .ok (.iinc 2 1, 3) := by decide +kernel
theorem dX0_returns_26 : decode cX0_returns 26 = .ok (.goto (-22), 3) := by decide +kernel
theorem dX0_returns_29 : decode cX0_returns 29 = .ok (.iload_n 1, 1) := by decide +kernel
theorem dX0_returns_30 : decode cX0_returns 30 = .ok (.ireturn, 1) := by decide +kernel
theorem dX0_turnOf_0 : decode cX0_turnOf 0 = .ok (.aload_n 0, 1) := by decide +kernel
theorem dX0_turnOf_1 : decode cX0_turnOf 1 = .ok (.iload_n 1, 1) := by decide +kernel
theorem dX0_turnOf_2 : decode cX0_turnOf 2 = .ok (.invokevirtual 72, 3) := by decide +kernel
theorem dX0_turnOf_5 : decode cX0_turnOf 5 = .ok (.aload_n 0, 1) := by decide +kernel
theorem dX0_turnOf_6 : decode cX0_turnOf 6 = .ok (.getfield 9, 3) := by decide +kernel
theorem dX0_turnOf_9 : decode cX0_turnOf 9 = .ok (.iload_n 1, 1) := by decide +kernel
theorem dX0_turnOf_10 : decode cX0_turnOf 10 = .ok (.iaload, 1) := by decide +kernel
theorem dX0_turnOf_11 : decode cX0_turnOf 11 = .ok (.ireturn, 1) := by decide +kernel
theorem dX0_headingOf_0 : decode cX0_headingOf 0 = .ok (.aload_n 0, 1) := by decide +kernel
theorem dX0_headingOf_1 : decode cX0_headingOf 1 = .ok (.iload_n 1, 1) := by decide +kernel
theorem dX0_headingOf_2 : decode cX0_headingOf 2 = .ok (.invokevirtual 72, 3) := by decide +kernel
theorem dX0_headingOf_5 : decode cX0_headingOf 5 = .ok (.aload_n 0, 1) := by decide +kernel
theorem dX0_headingOf_6 : decode cX0_headingOf 6 = .ok (.getfield 26, 3) := by decide +kernel
theorem dX0_headingOf_9 : decode cX0_headingOf 9 = .ok (.iload_n 1, 1) := by decide +kernel
theorem dX0_headingOf_10 : decode cX0_headingOf 10 = .ok (.iaload, 1) := by decide +kernel
theorem dX0_headingOf_11 : decode cX0_headingOf 11 = .ok (.ireturn, 1) := by decide +kernel
theorem dX0_landmarkOf_0 : decode cX0_landmarkOf 0 = .ok (.aload_n 0, 1) := by decide +kernel
theorem dX0_landmarkOf_1 : decode cX0_landmarkOf 1 = .ok (.iload_n 1, 1) := by decide +kernel
theorem dX0_landmarkOf_2 : decode cX0_landmarkOf 2 = .ok (.invokevirtual 72, 3) := by decide +kernel
theorem dX0_landmarkOf_5 : decode cX0_landmarkOf 5 = .ok (.aload_n 0, 1) := by decide +kernel
theorem dX0_landmarkOf_6 : decode cX0_landmarkOf 6 = .ok (.getfield 16, 3) := by decide +kernel
theorem dX0_landmarkOf_9 : decode cX0_landmarkOf 9 = .ok (.iload_n 1, 1) := by decide +kernel
theorem dX0_landmarkOf_10 : decode cX0_landmarkOf 10 = .ok (.iaload, 1) := by decide +kernel
theorem dX0_landmarkOf_11 : decode cX0_landmarkOf 11 = .ok (.ireturn, 1) := by decide +kernel
theorem dX0_noteOf_0 : decode cX0_noteOf 0 = .ok (.aload_n 0, 1) := by decide +kernel
theorem dX0_noteOf_1 : decode cX0_noteOf 1 = .ok (.iload_n 1, 1) := by decide +kernel
theorem dX0_noteOf_2 : decode cX0_noteOf 2 = .ok (.invokevirtual 72, 3) := by decide +kernel
theorem dX0_noteOf_5 : decode cX0_noteOf 5 = .ok (.aload_n 0, 1) := by decide +kernel
theorem dX0_noteOf_6 : decode cX0_noteOf 6 = .ok (.getfield 35, 3) := by decide +kernel
theorem dX0_noteOf_9 : decode cX0_noteOf 9 = .ok (.iload_n 1, 1) := by decide +kernel
theorem dX0_noteOf_10 : decode cX0_noteOf 10 = .ok (.iaload, 1) := by decide +kernel
theorem dX0_noteOf_11 : decode cX0_noteOf 11 = .ok (.ireturn, 1) := by decide +kernel
theorem dX0_isFolded_0 : decode cX0_isFolded 0 = .ok (.aload_n 0, 1) := by decide +kernel
theorem dX0_isFolded_1 : decode cX0_isFolded 1 = .ok (.iload_n 1, 1) := by decide +kernel
theorem dX0_isFolded_2 : decode cX0_isFolded 2 = .ok (.invokevirtual 72, 3) := by decide +kernel
theorem dX0_isFolded_5 : decode cX0_isFolded 5 = .ok (.aload_n 0, 1) := by decide +kernel
theorem dX0_isFolded_6 : decode cX0_isFolded 6 = .ok (.iload_n 1, 1) := by decide +kernel
theorem dX0_isFolded_7 : decode cX0_isFolded 7 = .ok (.invokevirtual 114, 3) := by decide +kernel
theorem dX0_isFolded_10 : decode cX0_isFolded 10 = .ok (.aload_n 0, 1) := by decide +kernel
theorem dX0_isFolded_11 : decode cX0_isFolded 11 = .ok (.getfield 9, 3) := by decide +kernel
theorem dX0_isFolded_14 : decode cX0_isFolded 14 = .ok (.iload_n 1, 1) := by decide +kernel
theorem dX0_isFolded_15 : decode cX0_isFolded 15 = .ok (.iaload, 1) := by decide +kernel
theorem dX0_isFolded_16 : decode cX0_isFolded 16 = .ok (.aload_n 0, 1) := by decide +kernel
theorem dX0_isFolded_17 : decode cX0_isFolded 17 = .ok (.getfield 38, 3) := by decide +kernel
theorem dX0_isFolded_20 : decode cX0_isFolded 20 = .ok (.imul, 1) := by decide +kernel
theorem dX0_isFolded_21 : decode cX0_isFolded 21 = .ok (.iadd, 1) := by decide +kernel
theorem dX0_isFolded_22 : decode cX0_isFolded 22 = .ok (.invokestatic 117, 3) := by decide +kernel
theorem dX0_isFolded_25 : decode cX0_isFolded 25 = .ok (.ireturn, 1) := by decide +kernel
theorem dX0_wordIn_0 : decode cX0_wordIn 0 = .ok (.aload_n 0, 1) := by decide +kernel
theorem dX0_wordIn_1 : decode cX0_wordIn 1 = .ok (.iload_n 1, 1) := by decide +kernel
theorem dX0_wordIn_2 : decode cX0_wordIn 2 = .ok (.invokevirtual 72, 3) := by decide +kernel
theorem dX0_wordIn_5 : decode cX0_wordIn 5 = .ok (.aload_n 0, 1) := by decide +kernel
theorem dX0_wordIn_6 : decode cX0_wordIn 6 = .ok (.getfield 23, 3) := by decide +kernel
theorem dX0_wordIn_9 : decode cX0_wordIn 9 = .ok (.aload_n 0, 1) := by decide +kernel
theorem dX0_wordIn_10 : decode cX0_wordIn 10 = .ok (.getfield 16, 3) := by decide +kernel
theorem dX0_wordIn_13 : decode cX0_wordIn 13 = .ok (.iload_n 1, 1) := by decide +kernel
theorem dX0_wordIn_14 : decode cX0_wordIn 14 = .ok (.iaload, 1) := by decide +kernel
theorem dX0_wordIn_15 : decode cX0_wordIn 15 = .ok (.iaload, 1) := by decide +kernel
theorem dX0_wordIn_16 : decode cX0_wordIn 16 = .ok (.ireturn, 1) := by decide +kernel
theorem dX0_wordOf_0 : decode cX0_wordOf 0 = .ok (.iload_n 1, 1) := by decide +kernel
theorem dX0_wordOf_1 : decode cX0_wordOf 1 = .ok (.invokestatic 78, 3) := by decide +kernel
theorem dX0_wordOf_4 : decode cX0_wordOf 4 = .ok (.aload_n 0, 1) := by decide +kernel
theorem dX0_wordOf_5 : decode cX0_wordOf 5 = .ok (.getfield 23, 3) := by decide +kernel
theorem dX0_wordOf_8 : decode cX0_wordOf 8 = .ok (.iload_n 1, 1) := by decide +kernel
theorem dX0_wordOf_9 : decode cX0_wordOf 9 = .ok (.iaload, 1) := by decide +kernel
theorem dX0_wordOf_10 : decode cX0_wordOf 10 = .ok (.ireturn, 1) := by decide +kernel
theorem dX0_beats_0 : decode cX0_beats 0 = .ok (.iconst 0, 1) := by decide +kernel
theorem dX0_beats_1 : decode cX0_beats 1 = .ok (.istore_n 1, 1) := by decide +kernel
theorem dX0_beats_2 : decode cX0_beats 2 = .ok (.iconst 0, 1) := by decide +kernel
theorem dX0_beats_3 : decode cX0_beats 3 = .ok (.istore_n 2, 1) := by decide +kernel
theorem dX0_beats_4 : decode cX0_beats 4 = .ok (.iload_n 2, 1) := by decide +kernel
theorem dX0_beats_5 : decode cX0_beats 5 = .ok (.aload_n 0, 1) := by decide +kernel
theorem dX0_beats_6 : decode cX0_beats 6 = .ok (.getfield 59, 3) := by decide +kernel
theorem dX0_beats_9 : decode cX0_beats 9 = .ok (.if_icmp .ge 18, 3) := by decide +kernel
theorem dX0_beats_12 : decode cX0_beats 12 = .ok (.iload_n 1, 1) := by decide +kernel
theorem dX0_beats_13 : decode cX0_beats 13 = .ok (.aload_n 0, 1) := by decide +kernel
theorem dX0_beats_14 : decode cX0_beats 14 = .ok (.getfield 13, 3) := by decide +kernel
theorem dX0_beats_17 : decode cX0_beats 17 = .ok (.iload_n 2, 1) := by decide +kernel
theorem dX0_beats_18 : decode cX0_beats 18 = .ok (.iaload, 1) := by decide +kernel
theorem dX0_beats_19 : decode cX0_beats 19 = .ok (.iadd, 1) := by decide +kernel
theorem dX0_beats_20 : decode cX0_beats 20 = .ok (.istore_n 1, 1) := by decide +kernel
theorem dX0_beats_21 : decode cX0_beats 21 = .ok (.iinc 2 1, 3) := by decide +kernel
theorem dX0_beats_24 : decode cX0_beats 24 = .ok (.goto (-20), 3) := by decide +kernel
theorem dX0_beats_27 : decode cX0_beats 27 = .ok (.iload_n 1, 1) := by decide +kernel
theorem dX0_beats_28 : decode cX0_beats 28 = .ok (.ireturn, 1) := by decide +kernel
theorem dX0_folded_0 : decode cX0_folded 0 = .ok (.iconst 0, 1) := by decide +kernel
theorem dX0_folded_1 : decode cX0_folded 1 = .ok (.istore_n 1, 1) := by decide +kernel
theorem dX0_folded_2 : decode cX0_folded 2 = .ok (.iconst 0, 1) := by decide +kernel
theorem dX0_folded_3 : decode cX0_folded 3 = .ok (.istore_n 2, 1) := by decide +kernel
theorem dX0_folded_4 : decode cX0_folded 4 = .ok (.iload_n 2, 1) := by decide +kernel
theorem dX0_folded_5 : decode cX0_folded 5 = .ok (.aload_n 0, 1) := by decide +kernel
theorem dX0_folded_6 : decode cX0_folded 6 = .ok (.getfield 59, 3) := by decide +kernel
theorem dX0_folded_9 : decode cX0_folded 9 = .ok (.if_icmp .ge 20, 3) := by decide +kernel
theorem dX0_folded_12 : decode cX0_folded 12 = .ok (.aload_n 0, 1) := by decide +kernel
theorem dX0_folded_13 : decode cX0_folded 13 = .ok (.iload_n 2, 1) := by decide +kernel
theorem dX0_folded_14 : decode cX0_folded 14 = .ok (.invokevirtual 120, 3) := by decide +kernel
theorem dX0_folded_17 : decode cX0_folded 17 = .ok (.ifCond .eq 6, 3) := by decide +kernel
theorem dX0_folded_20 : decode cX0_folded 20 = .ok (.iinc 1 1, 3) := by decide +kernel
theorem dX0_folded_23 : decode cX0_folded 23 = .ok (.iinc 2 1, 3) := by decide +kernel
theorem dX0_folded_26 : decode cX0_folded 26 = .ok (.goto (-22), 3) := by decide +kernel
theorem dX0_folded_29 : decode cX0_folded 29 = .ok (.iload_n 1, 1) := by decide +kernel
theorem dX0_folded_30 : decode cX0_folded 30 = .ok (.ireturn, 1) := by decide +kernel
theorem dX0_range_0 : decode cX0_range 0 = .ok (.aload_n 0, 1) := by decide +kernel
theorem dX0_range_1 : decode cX0_range 1 = .ok (.getfield 59, 3) := by decide +kernel
theorem dX0_range_4 : decode cX0_range 4 = .ok (.ifCond .gt 5, 3) := by decide +kernel
theorem dX0_range_7 : decode cX0_range 7 = .ok (.iconst 0, 1) := by decide +kernel
theorem dX0_range_8 : decode cX0_range 8 = .ok (.ireturn, 1) := by decide +kernel
theorem dX0_range_9 : decode cX0_range 9 = .ok (.aload_n 0, 1) := by decide +kernel
theorem dX0_range_10 : decode cX0_range 10 = .ok (.getfield 35, 3) := by decide +kernel
theorem dX0_range_13 : decode cX0_range 13 = .ok (.iconst 0, 1) := by decide +kernel
theorem dX0_range_14 : decode cX0_range 14 = .ok (.iaload, 1) := by decide +kernel
theorem dX0_range_15 : decode cX0_range 15 = .ok (.istore_n 1, 1) := by decide +kernel
theorem dX0_range_16 : decode cX0_range 16 = .ok (.aload_n 0, 1) := by decide +kernel
theorem dX0_range_17 : decode cX0_range 17 = .ok (.getfield 35, 3) := by decide +kernel
theorem dX0_range_20 : decode cX0_range 20 = .ok (.iconst 0, 1) := by decide +kernel
theorem dX0_range_21 : decode cX0_range 21 = .ok (.iaload, 1) := by decide +kernel
theorem dX0_range_22 : decode cX0_range 22 = .ok (.istore_n 2, 1) := by decide +kernel
theorem dX0_range_23 : decode cX0_range 23 = .ok (.iconst 1, 1) := by decide +kernel
theorem dX0_range_24 : decode cX0_range 24 = .ok (.istore_n 3, 1) := by decide +kernel
theorem dX0_range_25 : decode cX0_range 25 = .ok (.iload_n 3, 1) := by decide +kernel
theorem dX0_range_26 : decode cX0_range 26 = .ok (.aload_n 0, 1) := by decide +kernel
theorem dX0_range_27 : decode cX0_range 27 = .ok (.getfield 59, 3) := by decide +kernel
theorem dX0_range_30 : decode cX0_range 30 = .ok (.if_icmp .ge 31, 3) := by decide +kernel
theorem dX0_range_33 : decode cX0_range 33 = .ok (.iload_n 1, 1) := by decide +kernel
theorem dX0_range_34 : decode cX0_range 34 = .ok (.aload_n 0, 1) := by decide +kernel
theorem dX0_range_35 : decode cX0_range 35 = .ok (.getfield 35, 3) := by decide +kernel
theorem dX0_range_38 : decode cX0_range 38 = .ok (.iload_n 3, 1) := by decide +kernel
theorem dX0_range_39 : decode cX0_range 39 = .ok (.iaload, 1) := by decide +kernel
theorem dX0_range_40 : decode cX0_range 40 = .ok (.invokestatic 123, 3) := by decide +kernel
theorem dX0_range_43 : decode cX0_range 43 = .ok (.istore_n 1, 1) := by decide +kernel
theorem dX0_range_44 : decode cX0_range 44 = .ok (.iload_n 2, 1) := by decide +kernel
theorem dX0_range_45 : decode cX0_range 45 = .ok (.aload_n 0, 1) := by decide +kernel
theorem dX0_range_46 : decode cX0_range 46 = .ok (.getfield 35, 3) := by decide +kernel
theorem dX0_range_49 : decode cX0_range 49 = .ok (.iload_n 3, 1) := by decide +kernel
theorem dX0_range_50 : decode cX0_range 50 = .ok (.iaload, 1) := by decide +kernel
theorem dX0_range_51 : decode cX0_range 51 = .ok (.invokestatic 107, 3) := by decide +kernel
theorem dX0_range_54 : decode cX0_range 54 = .ok (.istore_n 2, 1) := by decide +kernel
theorem dX0_range_55 : decode cX0_range 55 = .ok (.iinc 3 1, 3) := by decide +kernel
theorem dX0_range_58 : decode cX0_range 58 = .ok (.goto (-33), 3) := by decide +kernel
theorem dX0_range_61 : decode cX0_range 61 = .ok (.iload_n 2, 1) := by decide +kernel
theorem dX0_range_62 : decode cX0_range 62 = .ok (.iload_n 1, 1) := by decide +kernel
theorem dX0_range_63 : decode cX0_range 63 = .ok (.isub, 1) := by decide +kernel
theorem dX0_range_64 : decode cX0_range 64 = .ok (.ireturn, 1) := by decide +kernel
theorem dX0_sungWith_0 : decode cX0_sungWith 0 = .ok (.iload_n 1, 1) := by decide +kernel
theorem dX0_sungWith_1 : decode cX0_sungWith 1 = .ok (.invokestatic 126, 3) := by decide +kernel
theorem dX0_sungWith_4 : decode cX0_sungWith 4 = .ok (.iconst 0, 1) := by decide +kernel
theorem dX0_sungWith_5 : decode cX0_sungWith 5 = .ok (.istore_n 2, 1) := by decide +kernel
theorem dX0_sungWith_6 : decode cX0_sungWith 6 = .ok (.iconst 0, 1) := by decide +kernel
theorem dX0_sungWith_7 : decode cX0_sungWith 7 = .ok (.istore_n 3, 1) := by decide +kernel
theorem dX0_sungWith_8 : decode cX0_sungWith 8 = .ok (.iload_n 3, 1) := by decide +kernel
theorem dX0_sungWith_9 : decode cX0_sungWith 9 = .ok (.aload_n 0, 1) := by decide +kernel
theorem dX0_sungWith_10 : decode cX0_sungWith 10 = .ok (.getfield 59, 3) := by decide +kernel
theorem dX0_sungWith_13 : decode cX0_sungWith 13 = .ok (.if_icmp .ge 27, 3) := by decide +kernel
theorem dX0_sungWith_16 : decode cX0_sungWith 16 = .ok (.aload_n 0, 1) := by decide +kernel
theorem dX0_sungWith_17 : decode cX0_sungWith 17 = .ok (.getfield 23, 3) := by decide +kernel
theorem dX0_sungWith_20 : decode cX0_sungWith 20 = .ok (.aload_n 0, 1) := by decide +kernel
theorem dX0_sungWith_21 : decode cX0_sungWith 21 = .ok (.getfield 16, 3) := by decide +kernel
theorem dX0_sungWith_24 : decode cX0_sungWith 24 = .ok (.iload_n 3, 1) := by decide +kernel
theorem dX0_sungWith_25 : decode cX0_sungWith 25 = .ok (.iaload, 1) := by decide +kernel
theorem dX0_sungWith_26 : decode cX0_sungWith 26 = .ok (.iaload, 1) := by decide +kernel
theorem dX0_sungWith_27 : decode cX0_sungWith 27 = .ok (.iload_n 1, 1) := by decide +kernel
theorem dX0_sungWith_28 : decode cX0_sungWith 28 = .ok (.if_icmp .ne 6, 3) := by decide +kernel
theorem dX0_sungWith_31 : decode cX0_sungWith 31 = .ok (.iinc 2 1, 3) := by decide +kernel
theorem dX0_sungWith_34 : decode cX0_sungWith 34 = .ok (.iinc 3 1, 3) := by decide +kernel
theorem dX0_sungWith_37 : decode cX0_sungWith 37 = .ok (.goto (-29), 3) := by decide +kernel
theorem dX0_sungWith_40 : decode cX0_sungWith 40 = .ok (.iload_n 2, 1) := by decide +kernel
theorem dX0_sungWith_41 : decode cX0_sungWith 41 = .ok (.ireturn, 1) := by decide +kernel
theorem dX0_readings_0 : decode cX0_readings 0 = .ok (.aload_n 0, 1) := by decide +kernel
theorem dX0_readings_1 : decode cX0_readings 1 = .ok (.iload_n 1, 1) := by decide +kernel
theorem dX0_readings_2 : decode cX0_readings 2 = .ok (.invokevirtual 72, 3) := by decide +kernel
theorem dX0_readings_5 : decode cX0_readings 5 = .ok (.aload_n 0, 1) := by decide +kernel
theorem dX0_readings_6 : decode cX0_readings 6 = .ok (.getfield 35, 3) := by decide +kernel
theorem dX0_readings_9 : decode cX0_readings 9 = .ok (.iload_n 1, 1) := by decide +kernel
theorem dX0_readings_10 : decode cX0_readings 10 = .ok (.iaload, 1) := by decide +kernel
theorem dX0_readings_11 : decode cX0_readings 11 = .ok (.aload_n 0, 1) := by decide +kernel
theorem dX0_readings_12 : decode cX0_readings 12 = .ok (.iload_n 1, 1) := by decide +kernel
theorem dX0_readings_13 : decode cX0_readings 13 = .ok (.invokevirtual 114, 3) := by decide +kernel
theorem dX0_readings_16 : decode cX0_readings 16 = .ok (.aload_n 0, 1) := by decide +kernel
theorem dX0_readings_17 : decode cX0_readings 17 = .ok (.getfield 38, 3) := by decide +kernel
theorem dX0_readings_20 : decode cX0_readings 20 = .ok (.iconst 4, 1) := by decide +kernel
theorem dX0_readings_21 : decode cX0_readings 21 = .ok (.invokestatic 129, 3) := by decide +kernel
theorem dX0_readings_24 : decode cX0_readings 24 = .ok (.istore_n 2, 1) := by decide +kernel
theorem dX0_readings_25 : decode cX0_readings 25 = .ok (.iload_n 2, 1) := by decide +kernel
theorem dX0_readings_26 : decode cX0_readings 26 = .ok (.aload_n 0, 1) := by decide +kernel
theorem dX0_readings_27 : decode cX0_readings 27 = .ok (.aload_n 0, 1) := by decide +kernel
theorem dX0_readings_28 : decode cX0_readings 28 = .ok (.getfield 23, 3) := by decide +kernel
theorem dX0_readings_31 : decode cX0_readings 31 = .ok (.aload_n 0, 1) := by decide +kernel
theorem dX0_readings_32 : decode cX0_readings 32 = .ok (.getfield 16, 3) := by decide +kernel
theorem dX0_readings_35 : decode cX0_readings 35 = .ok (.iload_n 1, 1) := by decide +kernel
theorem dX0_readings_36 : decode cX0_readings 36 = .ok (.iaload, 1) := by decide +kernel
theorem dX0_readings_37 : decode cX0_readings 37 = .ok (.iaload, 1) := by decide +kernel
theorem dX0_readings_38 : decode cX0_readings 38 = .ok (.bipush 10, 2) := by decide +kernel
theorem dX0_readings_40 : decode cX0_readings 40 = .ok (.invokevirtual 133, 3) := by decide +kernel
theorem dX0_readings_43 : decode cX0_readings 43 = .ok (.imul, 1) := by decide +kernel
theorem dX0_readings_44 : decode cX0_readings 44 = .ok (.ireturn, 1) := by decide +kernel
theorem dX0_rightReading_0 : decode cX0_rightReading 0 = .ok (.aload_n 0, 1) := by decide +kernel
theorem dX0_rightReading_1 : decode cX0_rightReading 1 = .ok (.iload_n 1, 1) := by decide +kernel
theorem dX0_rightReading_2 : decode cX0_rightReading 2 = .ok (.invokevirtual 72, 3) := by decide +kernel
theorem dX0_rightReading_5 : decode cX0_rightReading 5 = .ok (.aload_n 0, 1) := by decide +kernel
theorem dX0_rightReading_6 : decode cX0_rightReading 6 = .ok (.getfield 23, 3) := by decide +kernel
theorem dX0_rightReading_9 : decode cX0_rightReading 9 = .ok (.aload_n 0, 1) := by decide +kernel
theorem dX0_rightReading_10 : decode cX0_rightReading 10 = .ok (.getfield 16, 3) := by decide +kernel
theorem dX0_rightReading_13 : decode cX0_rightReading 13 = .ok (.iload_n 1, 1) := by decide +kernel
theorem dX0_rightReading_14 : decode cX0_rightReading 14 = .ok (.iaload, 1) := by decide +kernel
theorem dX0_rightReading_15 : decode cX0_rightReading 15 = .ok (.iaload, 1) := by decide +kernel
theorem dX0_rightReading_16 : decode cX0_rightReading 16 = .ok (.istore_n 2, 1) := by decide +kernel
theorem dX0_rightReading_17 : decode cX0_rightReading 17 = .ok (.aload_n 0, 1) := by decide +kernel
theorem dX0_rightReading_18 : decode cX0_rightReading 18 = .ok (.getfield 35, 3) := by decide +kernel
theorem dX0_rightReading_21 : decode cX0_rightReading 21 = .ok (.iload_n 1, 1) := by decide +kernel
theorem dX0_rightReading_22 : decode cX0_rightReading 22 = .ok (.iaload, 1) := by decide +kernel
theorem dX0_rightReading_23 : decode cX0_rightReading 23 = .ok (.aload_n 0, 1) := by decide +kernel
theorem dX0_rightReading_24 : decode cX0_rightReading 24 = .ok (.iload_n 1, 1) := by decide +kernel
theorem dX0_rightReading_25 : decode cX0_rightReading 25 = .ok (.invokevirtual 114, 3) := by decide +kernel
theorem dX0_rightReading_28 : decode cX0_rightReading 28 = .ok (.aload_n 0, 1) := by decide +kernel
theorem dX0_rightReading_29 : decode cX0_rightReading 29 = .ok (.getfield 38, 3) := by decide +kernel
theorem dX0_rightReading_32 : decode cX0_rightReading 32 = .ok (.aload_n 0, 1) := by decide +kernel
theorem dX0_rightReading_33 : decode cX0_rightReading 33 = .ok (.getfield 9, 3) := by decide +kernel
theorem dX0_rightReading_36 : decode cX0_rightReading 36 = .ok (.iload_n 1, 1) := by decide +kernel
theorem dX0_rightReading_37 : decode cX0_rightReading 37 = .ok (.iaload, 1) := by decide +kernel
theorem dX0_rightReading_38 : decode cX0_rightReading 38 = .ok (.invokestatic 129, 3) := by decide +kernel
theorem dX0_rightReading_41 : decode cX0_rightReading 41 = .ok (.istore_n 3, 1) := by decide +kernel
theorem dX0_rightReading_42 : decode cX0_rightReading 42 = .ok (.iload_n 3, 1) := by decide +kernel
theorem dX0_rightReading_43 : decode cX0_rightReading 43 = .ok (.aload_n 0, 1) := by decide +kernel
theorem dX0_rightReading_44 : decode cX0_rightReading 44 = .ok (.iload_n 2, 1) := by decide +kernel
theorem dX0_rightReading_45 : decode cX0_rightReading 45 = .ok (.bipush 10, 2) := by decide +kernel
theorem dX0_rightReading_47 : decode cX0_rightReading 47 = .ok (.invokevirtual 133, 3) := by decide +kernel
theorem dX0_rightReading_50 : decode cX0_rightReading 50 = .ok (.imul, 1) := by decide +kernel
theorem dX0_rightReading_51 : decode cX0_rightReading 51 = .ok (.aload_n 0, 1) := by decide +kernel
theorem dX0_rightReading_52 : decode cX0_rightReading 52 = .ok (.iload_n 2, 1) := by decide +kernel
theorem dX0_rightReading_53 : decode cX0_rightReading 53 = .ok (.aload_n 0, 1) := by decide +kernel
theorem dX0_rightReading_54 : decode cX0_rightReading 54 = .ok (.getfield 16, 3) := by decide +kernel
theorem dX0_rightReading_57 : decode cX0_rightReading 57 = .ok (.iload_n 1, 1) := by decide +kernel
theorem dX0_rightReading_58 : decode cX0_rightReading 58 = .ok (.iaload, 1) := by decide +kernel
theorem dX0_rightReading_59 : decode cX0_rightReading 59 = .ok (.invokevirtual 133, 3) := by decide +kernel
theorem dX0_rightReading_62 : decode cX0_rightReading 62 = .ok (.iadd, 1) := by decide +kernel
theorem dX0_rightReading_63 : decode cX0_rightReading 63 = .ok (.ireturn, 1) := by decide +kernel
theorem dX0_isAmbiguous_0 : decode cX0_isAmbiguous 0 = .ok (.aload_n 0, 1) := by decide +kernel
theorem dX0_isAmbiguous_1 : decode cX0_isAmbiguous 1 = .ok (.iload_n 1, 1) := by decide +kernel
theorem dX0_isAmbiguous_2 : decode cX0_isAmbiguous 2 = .ok (.invokevirtual 72, 3) := by decide +kernel
theorem dX0_isAmbiguous_5 : decode cX0_isAmbiguous 5 = .ok (.aload_n 0, 1) := by decide +kernel
theorem dX0_isAmbiguous_6 : decode cX0_isAmbiguous 6 = .ok (.getfield 19, 3) := by decide +kernel
theorem dX0_isAmbiguous_9 : decode cX0_isAmbiguous 9 = .ok (.iload_n 1, 1) := by decide +kernel
theorem dX0_isAmbiguous_10 : decode cX0_isAmbiguous 10 = .ok (.baload, 1) := by decide +kernel
theorem dX0_isAmbiguous_11 : decode cX0_isAmbiguous 11 = .ok (.ifCond .ne 16, 3) := by decide +kernel
theorem dX0_isAmbiguous_14 : decode cX0_isAmbiguous 14 = .ok (.aload_n 0, 1) := by decide +kernel
theorem dX0_isAmbiguous_15 : decode cX0_isAmbiguous 15 = .ok (.iload_n 1, 1) := by decide +kernel
theorem dX0_isAmbiguous_16 : decode cX0_isAmbiguous 16 = .ok (.invokevirtual 136, 3) := by decide +kernel
theorem dX0_isAmbiguous_19 : decode cX0_isAmbiguous 19 = .ok (.iconst 1, 1) := by decide +kernel
theorem dX0_isAmbiguous_20 : decode cX0_isAmbiguous 20 = .ok (.if_icmp .le 7, 3) := by decide +kernel
theorem dX0_isAmbiguous_23 : decode cX0_isAmbiguous 23 = .ok (.iconst 1, 1) := by decide +kernel
theorem dX0_isAmbiguous_24 : decode cX0_isAmbiguous 24 = .ok (.goto 4, 3) := by decide +kernel
theorem dX0_isAmbiguous_27 : decode cX0_isAmbiguous 27 = .ok (.iconst 0, 1) := by decide +kernel
theorem dX0_isAmbiguous_28 : decode cX0_isAmbiguous 28 = .ok (.ireturn, 1) := by decide +kernel
theorem dX0_isMended_0 : decode cX0_isMended 0 = .ok (.aload_n 0, 1) := by decide +kernel
theorem dX0_isMended_1 : decode cX0_isMended 1 = .ok (.iload_n 1, 1) := by decide +kernel
theorem dX0_isMended_2 : decode cX0_isMended 2 = .ok (.invokevirtual 72, 3) := by decide +kernel
theorem dX0_isMended_5 : decode cX0_isMended 5 = .ok (.aload_n 0, 1) := by decide +kernel
theorem dX0_isMended_6 : decode cX0_isMended 6 = .ok (.getfield 19, 3) := by decide +kernel
theorem dX0_isMended_9 : decode cX0_isMended 9 = .ok (.iload_n 1, 1) := by decide +kernel
theorem dX0_isMended_10 : decode cX0_isMended 10 = .ok (.baload, 1) := by decide +kernel
theorem dX0_isMended_11 : decode cX0_isMended 11 = .ok (.ireturn, 1) := by decide +kernel
theorem dX0_mend_0 : decode cX0_mend 0 = .ok (.aload_n 0, 1) := by decide +kernel
theorem dX0_mend_1 : decode cX0_mend 1 = .ok (.iload_n 1, 1) := by decide +kernel
theorem dX0_mend_2 : decode cX0_mend 2 = .ok (.invokevirtual 72, 3) := by decide +kernel
theorem dX0_mend_5 : decode cX0_mend 5 = .ok (.aload_n 0, 1) := by decide +kernel
theorem dX0_mend_6 : decode cX0_mend 6 = .ok (.iload_n 1, 1) := by decide +kernel
theorem dX0_mend_7 : decode cX0_mend 7 = .ok (.invokevirtual 139, 3) := by decide +kernel
theorem dX0_mend_10 : decode cX0_mend 10 = .ok (.ifCond .ne 13, 3) := by decide +kernel
theorem dX0_mend_13 : decode cX0_mend 13 = .ok (.new 62, 3) := by decide +kernel
theorem dX0_mend_16 : decode cX0_mend 16 = .ok (.dup, 1) := by decide +kernel
theorem dX0_mend_17 : decode cX0_mend 17 = .ok (.ldc 142, 2) := by decide +kernel
theorem dX0_mend_19 : decode cX0_mend 19 = .ok (.invokespecial 66, 3) := by decide +kernel
theorem dX0_mend_22 : decode cX0_mend 22 = .ok (.athrow, 1) := by decide +kernel
theorem dX0_mend_23 : decode cX0_mend 23 = .ok (.aload_n 0, 1) := by decide +kernel
theorem dX0_mend_24 : decode cX0_mend 24 = .ok (.getfield 19, 3) := by decide +kernel
theorem dX0_mend_27 : decode cX0_mend 27 = .ok (.iload_n 1, 1) := by decide +kernel
theorem dX0_mend_28 : decode cX0_mend 28 = .ok (.iconst 1, 1) := by decide +kernel
theorem dX0_mend_29 : decode cX0_mend 29 = .ok (.bastore, 1) := by decide +kernel
theorem dX0_mend_30 : decode cX0_mend 30 = .ok (.aload_n 0, 1) := by decide +kernel
theorem dX0_mend_31 : decode cX0_mend 31 = .ok (.iload_n 1, 1) := by decide +kernel
theorem dX0_mend_32 : decode cX0_mend 32 = .ok (.invokevirtual 144, 3) := by decide +kernel
theorem dX0_mend_35 : decode cX0_mend 35 = .ok (.ireturn, 1) := by decide +kernel
theorem dX0_mendTo_0 : decode cX0_mendTo 0 = .ok (.iload_n 1, 1) := by decide +kernel
theorem dX0_mendTo_1 : decode cX0_mendTo 1 = .ok (.iconst 1, 1) := by decide +kernel
theorem dX0_mendTo_2 : decode cX0_mendTo 2 = .ok (.if_icmp .lt 9, 3) := by decide +kernel
theorem dX0_mendTo_5 : decode cX0_mendTo 5 = .ok (.iload_n 1, 1) := by decide +kernel
theorem dX0_mendTo_6 : decode cX0_mendTo 6 = .ok (.ldc 147, 2) := by decide +kernel
theorem dX0_mendTo_8 : decode cX0_mendTo 8 = .ok (.if_icmp .le 13, 3) := by decide +kernel
theorem dX0_mendTo_11 : decode cX0_mendTo 11 = .ok (.new 46, 3) := by decide +kernel
theorem dX0_mendTo_14 : decode cX0_mendTo 14 = .ok (.dup, 1) := by decide +kernel
theorem dX0_mendTo_15 : decode cX0_mendTo 15 = .ok (.ldc 148, 2) := by decide +kernel
theorem dX0_mendTo_17 : decode cX0_mendTo 17 = .ok (.invokespecial 50, 3) := by decide +kernel
theorem dX0_mendTo_20 : decode cX0_mendTo 20 = .ok (.athrow, 1) := by decide +kernel
theorem dX0_mendTo_21 : decode cX0_mendTo 21 = .ok (.iconst 0, 1) := by decide +kernel
theorem dX0_mendTo_22 : decode cX0_mendTo 22 = .ok (.istore_n 2, 1) := by decide +kernel
theorem dX0_mendTo_23 : decode cX0_mendTo 23 = .ok (.iload_n 2, 1) := by decide +kernel
theorem dX0_mendTo_24 : decode cX0_mendTo 24 = .ok (.aload_n 0, 1) := by decide +kernel
theorem dX0_mendTo_25 : decode cX0_mendTo 25 = .ok (.getfield 59, 3) := by decide +kernel
theorem dX0_mendTo_28 : decode cX0_mendTo 28 = .ok (.if_icmp .ge 37, 3) := by decide +kernel
theorem dX0_mendTo_31 : decode cX0_mendTo 31 = .ok (.aload_n 0, 1) := by decide +kernel
theorem dX0_mendTo_32 : decode cX0_mendTo 32 = .ok (.invokevirtual 150, 3) := by decide +kernel
theorem dX0_mendTo_35 : decode cX0_mendTo 35 = .ok (.iload_n 1, 1) := by decide +kernel
theorem dX0_mendTo_36 : decode cX0_mendTo 36 = .ok (.i2l, 1) := by decide +kernel
theorem dX0_mendTo_37 : decode cX0_mendTo 37 = .ok (.lcmp, 1) := by decide +kernel
theorem dX0_mendTo_38 : decode cX0_mendTo 38 = .ok (.ifCond .le 27, 3) := by decide +kernel
theorem dX0_mendTo_41 : decode cX0_mendTo 41 = .ok (.aload_n 0, 1) := by decide +kernel
theorem dX0_mendTo_42 : decode cX0_mendTo 42 = .ok (.invokevirtual 154, 3) := by decide +kernel
theorem dX0_mendTo_45 : decode cX0_mendTo 45 = .ok (.istore_n 3, 1) := by decide +kernel
theorem dX0_mendTo_46 : decode cX0_mendTo 46 = .ok (.iload_n 3, 1) := by decide +kernel
theorem dX0_mendTo_47 : decode cX0_mendTo 47 = .ok (.ifCond .ge 5, 3) := by decide +kernel
theorem dX0_mendTo_50 : decode cX0_mendTo 50 = .ok (.iload_n 2, 1) := by decide +kernel
theorem dX0_mendTo_51 : decode cX0_mendTo 51 = .ok (.ireturn, 1) := by decide +kernel
theorem dX0_mendTo_52 : decode cX0_mendTo 52 = .ok (.aload_n 0, 1) := by decide +kernel
theorem dX0_mendTo_53 : decode cX0_mendTo 53 = .ok (.getfield 19, 3) := by decide +kernel
theorem dX0_mendTo_56 : decode cX0_mendTo 56 = .ok (.iload_n 3, 1) := by decide +kernel
theorem dX0_mendTo_57 : decode cX0_mendTo 57 = .ok (.iconst 1, 1) := by decide +kernel
theorem dX0_mendTo_58 : decode cX0_mendTo 58 = .ok (.bastore, 1) := by decide +kernel
theorem dX0_mendTo_59 : decode cX0_mendTo 59 = .ok (.iinc 2 1, 3) := by decide +kernel
theorem dX0_mendTo_62 : decode cX0_mendTo 62 = .ok (.goto (-39), 3) := by decide +kernel
theorem dX0_mendTo_65 : decode cX0_mendTo 65 = .ok (.iload_n 2, 1) := by decide +kernel
theorem dX0_mendTo_66 : decode cX0_mendTo 66 = .ok (.ireturn, 1) := by decide +kernel
theorem dX0_ambiguous_0 : decode cX0_ambiguous 0 = .ok (.iconst 0, 1) := by decide +kernel
theorem dX0_ambiguous_1 : decode cX0_ambiguous 1 = .ok (.istore_n 1, 1) := by decide +kernel
theorem dX0_ambiguous_2 : decode cX0_ambiguous 2 = .ok (.iconst 0, 1) := by decide +kernel
theorem dX0_ambiguous_3 : decode cX0_ambiguous 3 = .ok (.istore_n 2, 1) := by decide +kernel
theorem dX0_ambiguous_4 : decode cX0_ambiguous 4 = .ok (.iload_n 2, 1) := by decide +kernel
theorem dX0_ambiguous_5 : decode cX0_ambiguous 5 = .ok (.aload_n 0, 1) := by decide +kernel
theorem dX0_ambiguous_6 : decode cX0_ambiguous 6 = .ok (.getfield 59, 3) := by decide +kernel
theorem dX0_ambiguous_9 : decode cX0_ambiguous 9 = .ok (.if_icmp .ge 20, 3) := by decide +kernel
theorem dX0_ambiguous_12 : decode cX0_ambiguous 12 = .ok (.aload_n 0, 1) := by decide +kernel
theorem dX0_ambiguous_13 : decode cX0_ambiguous 13 = .ok (.iload_n 2, 1) := by decide +kernel
theorem dX0_ambiguous_14 : decode cX0_ambiguous 14 = .ok (.invokevirtual 139, 3) := by decide +kernel
theorem dX0_ambiguous_17 : decode cX0_ambiguous 17 = .ok (.ifCond .eq 6, 3) := by decide +kernel
theorem dX0_ambiguous_20 : decode cX0_ambiguous 20 = .ok (.iinc 1 1, 3) := by decide +kernel
theorem dX0_ambiguous_23 : decode cX0_ambiguous 23 = .ok (.iinc 2 1, 3) := by decide +kernel
theorem dX0_ambiguous_26 : decode cX0_ambiguous 26 = .ok (.goto (-22), 3) := by decide +kernel
theorem dX0_ambiguous_29 : decode cX0_ambiguous 29 = .ok (.iload_n 1, 1) := by decide +kernel
theorem dX0_ambiguous_30 : decode cX0_ambiguous 30 = .ok (.ireturn, 1) := by decide +kernel
theorem dX0_ways_0 : decode cX0_ways 0 = .ok (.lconst 1, 1) := by decide +kernel
theorem dX0_ways_1 : decode cX0_ways 1 = .ok (.lstore_n 1, 1) := by decide +kernel
theorem dX0_ways_2 : decode cX0_ways 2 = .ok (.iconst 0, 1) := by decide +kernel
theorem dX0_ways_3 : decode cX0_ways 3 = .ok (.istore_n 3, 1) := by decide +kernel
theorem dX0_ways_4 : decode cX0_ways 4 = .ok (.iload_n 3, 1) := by decide +kernel
theorem dX0_ways_5 : decode cX0_ways 5 = .ok (.aload_n 0, 1) := by decide +kernel
theorem dX0_ways_6 : decode cX0_ways 6 = .ok (.getfield 59, 3) := by decide +kernel
theorem dX0_ways_9 : decode cX0_ways 9 = .ok (.if_icmp .ge 32, 3) := by decide +kernel
theorem dX0_ways_12 : decode cX0_ways 12 = .ok (.aload_n 0, 1) := by decide +kernel
theorem dX0_ways_13 : decode cX0_ways 13 = .ok (.iload_n 3, 1) := by decide +kernel
theorem dX0_ways_14 : decode cX0_ways 14 = .ok (.invokevirtual 139, 3) := by decide +kernel
theorem dX0_ways_17 : decode cX0_ways 17 = .ok (.ifCond .eq 18, 3) := by decide +kernel
theorem dX0_ways_20 : decode cX0_ways 20 = .ok (.lload_n 1, 1) := by decide +kernel
theorem dX0_ways_21 : decode cX0_ways 21 = .ok (.aload_n 0, 1) := by decide +kernel
theorem dX0_ways_22 : decode cX0_ways 22 = .ok (.iload_n 3, 1) := by decide +kernel
theorem dX0_ways_23 : decode cX0_ways 23 = .ok (.invokevirtual 136, 3) := by decide +kernel
theorem dX0_ways_26 : decode cX0_ways 26 = .ok (.i2l, 1) := by decide +kernel
theorem dX0_ways_27 : decode cX0_ways 27 = .ok (.lmul, 1) := by decide +kernel
theorem dX0_ways_28 : decode cX0_ways 28 = .ok (.ldc2_w 157, 3) := by decide +kernel
theorem dX0_ways_31 : decode cX0_ways 31 = .ok (.invokestatic 159, 3) := by decide +kernel
theorem dX0_ways_34 : decode cX0_ways 34 = .ok (.lstore_n 1, 1) := by decide +kernel
theorem dX0_ways_35 : decode cX0_ways 35 = .ok (.iinc 3 1, 3) := by decide +kernel
theorem dX0_ways_38 : decode cX0_ways 38 = .ok (.goto (-34), 3) := by decide +kernel
theorem dX0_ways_41 : decode cX0_ways 41 = .ok (.lload_n 1, 1) := by decide +kernel
theorem dX0_ways_42 : decode cX0_ways 42 = .ok (.lreturn, 1) := by decide +kernel
theorem dX0_firstAmbiguous_0 : decode cX0_firstAmbiguous 0 = .ok (.iconst 0, 1) := by decide +kernel
theorem dX0_firstAmbiguous_1 : decode cX0_firstAmbiguous 1 = .ok (.istore_n 1, 1) := by decide +kernel
theorem dX0_firstAmbiguous_2 : decode cX0_firstAmbiguous 2 = .ok (.iload_n 1, 1) := by decide +kernel
theorem dX0_firstAmbiguous_3 : decode cX0_firstAmbiguous 3 = .ok (.aload_n 0, 1) := by decide +kernel
theorem dX0_firstAmbiguous_4 : decode cX0_firstAmbiguous 4 = .ok (.getfield 59, 3) := by decide +kernel
theorem dX0_firstAmbiguous_7 : decode cX0_firstAmbiguous 7 = .ok (.if_icmp .ge 19, 3) := by decide +kernel
theorem dX0_firstAmbiguous_10 : decode cX0_firstAmbiguous 10 = .ok (.aload_n 0, 1) := by decide +kernel
theorem dX0_firstAmbiguous_11 : decode cX0_firstAmbiguous 11 = .ok (.iload_n 1, 1) := by decide +kernel
theorem dX0_firstAmbiguous_12 : decode cX0_firstAmbiguous 12 = .ok (.invokevirtual 139, 3) := by decide +kernel
theorem dX0_firstAmbiguous_15 : decode cX0_firstAmbiguous 15 = .ok (.ifCond .eq 5, 3) := by decide +kernel
theorem dX0_firstAmbiguous_18 : decode cX0_firstAmbiguous 18 = .ok (.iload_n 1, 1) := by decide +kernel
theorem dX0_firstAmbiguous_19 : decode cX0_firstAmbiguous 19 = .ok (.ireturn, 1) := by decide +kernel
theorem dX0_firstAmbiguous_20 : decode cX0_firstAmbiguous 20 = .ok (.iinc 1 1, 3) := by decide +kernel
theorem dX0_firstAmbiguous_23 : decode cX0_firstAmbiguous 23 = .ok (.goto (-21), 3) := by decide +kernel
theorem dX0_firstAmbiguous_26 : decode cX0_firstAmbiguous 26 = .ok (.iconst (-1), 1) := by decide +kernel
theorem dX0_firstAmbiguous_27 : decode cX0_firstAmbiguous 27 = .ok (.ireturn, 1) := by decide +kernel
theorem dX0_ambiguousWith_0 : decode cX0_ambiguousWith 0 = .ok (.iload_n 1, 1) := by decide +kernel
theorem dX0_ambiguousWith_1 : decode cX0_ambiguousWith 1 = .ok (.invokestatic 78, 3) := by decide +kernel
theorem dX0_ambiguousWith_4 : decode cX0_ambiguousWith 4 = .ok (.iload_n 2, 1) := by decide +kernel
theorem dX0_ambiguousWith_5 : decode cX0_ambiguousWith 5 = .ok (.invokestatic 126, 3) := by decide +kernel
theorem dX0_ambiguousWith_8 : decode cX0_ambiguousWith 8 = .ok (.aload_n 0, 1) := by decide +kernel
theorem dX0_ambiguousWith_9 : decode cX0_ambiguousWith 9 = .ok (.aload_n 0, 1) := by decide +kernel
theorem dX0_ambiguousWith_10 : decode cX0_ambiguousWith 10 = .ok (.getfield 38, 3) := by decide +kernel
theorem dX0_ambiguousWith_13 : decode cX0_ambiguousWith 13 = .ok (.iload_n 1, 1) := by decide +kernel
theorem dX0_ambiguousWith_14 : decode cX0_ambiguousWith 14 = .ok (.iload_n 2, 1) := by decide +kernel
theorem dX0_ambiguousWith_15 : decode cX0_ambiguousWith 15 = .ok (.invokevirtual 162, 3) := by decide +kernel
theorem dX0_ambiguousWith_18 : decode cX0_ambiguousWith 18 = .ok (.ireturn, 1) := by decide +kernel
theorem dX0_bestWord_0 : decode cX0_bestWord 0 = .ok (.iload_n 1, 1) := by decide +kernel
theorem dX0_bestWord_1 : decode cX0_bestWord 1 = .ok (.invokestatic 78, 3) := by decide +kernel
theorem dX0_bestWord_4 : decode cX0_bestWord 4 = .ok (.iconst 0, 1) := by decide +kernel
theorem dX0_bestWord_5 : decode cX0_bestWord 5 = .ok (.istore_n 2, 1) := by decide +kernel
theorem dX0_bestWord_6 : decode cX0_bestWord 6 = .ok (.aload_n 0, 1) := by decide +kernel
theorem dX0_bestWord_7 : decode cX0_bestWord 7 = .ok (.aload_n 0, 1) := by decide +kernel
theorem dX0_bestWord_8 : decode cX0_bestWord 8 = .ok (.getfield 38, 3) := by decide +kernel
theorem dX0_bestWord_11 : decode cX0_bestWord 11 = .ok (.iload_n 1, 1) := by decide +kernel
theorem dX0_bestWord_12 : decode cX0_bestWord 12 = .ok (.iconst 0, 1) := by decide +kernel
theorem dX0_bestWord_13 : decode cX0_bestWord 13 = .ok (.invokevirtual 162, 3) := by decide +kernel
theorem dX0_bestWord_16 : decode cX0_bestWord 16 = .ok (.istore_n 3, 1) := by decide +kernel
theorem dX0_bestWord_17 : decode cX0_bestWord 17 = .ok (.iconst 1, 1) := by decide +kernel
theorem dX0_bestWord_18 : decode cX0_bestWord 18 = .ok (.istore 4, 2) := by decide +kernel
theorem dX0_bestWord_20 : decode cX0_bestWord 20 = .ok (.iload 4, 2) := by decide +kernel
theorem dX0_bestWord_22 : decode cX0_bestWord 22 = .ok (.bipush 10, 2) := by decide +kernel
theorem dX0_bestWord_24 : decode cX0_bestWord 24 = .ok (.if_icmp .ge 34, 3) := by decide +kernel
theorem dX0_bestWord_27 : decode cX0_bestWord 27 = .ok (.aload_n 0, 1) := by decide +kernel
theorem dX0_bestWord_28 : decode cX0_bestWord 28 = .ok (.aload_n 0, 1) := by decide +kernel
theorem dX0_bestWord_29 : decode cX0_bestWord 29 = .ok (.getfield 38, 3) := by decide +kernel
theorem dX0_bestWord_32 : decode cX0_bestWord 32 = .ok (.iload_n 1, 1) := by decide +kernel
theorem dX0_bestWord_33 : decode cX0_bestWord 33 = .ok (.iload 4, 2) := by decide +kernel
theorem dX0_bestWord_35 : decode cX0_bestWord 35 = .ok (.invokevirtual 162, 3) := by decide +kernel
theorem dX0_bestWord_38 : decode cX0_bestWord 38 = .ok (.istore 5, 2) := by decide +kernel
theorem dX0_bestWord_40 : decode cX0_bestWord 40 = .ok (.iload 5, 2) := by decide +kernel
theorem dX0_bestWord_42 : decode cX0_bestWord 42 = .ok (.iload_n 3, 1) := by decide +kernel
theorem dX0_bestWord_43 : decode cX0_bestWord 43 = .ok (.if_icmp .ge 9, 3) := by decide +kernel
theorem dX0_bestWord_46 : decode cX0_bestWord 46 = .ok (.iload 5, 2) := by decide +kernel
theorem dX0_bestWord_48 : decode cX0_bestWord 48 = .ok (.istore_n 3, 1) := by decide +kernel
theorem dX0_bestWord_49 : decode cX0_bestWord 49 = .ok (.iload 4, 2) := by decide +kernel
theorem dX0_bestWord_51 : decode cX0_bestWord 51 = .ok (.istore_n 2, 1) := by decide +kernel
theorem dX0_bestWord_52 : decode cX0_bestWord 52 = .ok (.iinc 4 1, 3) := by decide +kernel
theorem dX0_bestWord_55 : decode cX0_bestWord 55 = .ok (.goto (-35), 3) := by decide +kernel
theorem dX0_bestWord_58 : decode cX0_bestWord 58 = .ok (.iload_n 2, 1) := by decide +kernel
theorem dX0_bestWord_59 : decode cX0_bestWord 59 = .ok (.ireturn, 1) := by decide +kernel
theorem dX0_bestStep_0 : decode cX0_bestStep 0 = .ok (.iconst 1, 1) := by decide +kernel
theorem dX0_bestStep_1 : decode cX0_bestStep 1 = .ok (.istore_n 1, 1) := by decide +kernel
theorem dX0_bestStep_2 : decode cX0_bestStep 2 = .ok (.aload_n 0, 1) := by decide +kernel
theorem dX0_bestStep_3 : decode cX0_bestStep 3 = .ok (.iconst 1, 1) := by decide +kernel
theorem dX0_bestStep_4 : decode cX0_bestStep 4 = .ok (.iconst 0, 1) := by decide +kernel
theorem dX0_bestStep_5 : decode cX0_bestStep 5 = .ok (.aload_n 0, 1) := by decide +kernel
theorem dX0_bestStep_6 : decode cX0_bestStep 6 = .ok (.getfield 23, 3) := by decide +kernel
theorem dX0_bestStep_9 : decode cX0_bestStep 9 = .ok (.iconst 0, 1) := by decide +kernel
theorem dX0_bestStep_10 : decode cX0_bestStep 10 = .ok (.iaload, 1) := by decide +kernel
theorem dX0_bestStep_11 : decode cX0_bestStep 11 = .ok (.invokevirtual 162, 3) := by decide +kernel
theorem dX0_bestStep_14 : decode cX0_bestStep 14 = .ok (.istore_n 2, 1) := by decide +kernel
theorem dX0_bestStep_15 : decode cX0_bestStep 15 = .ok (.iconst 2, 1) := by decide +kernel
theorem dX0_bestStep_16 : decode cX0_bestStep 16 = .ok (.istore_n 3, 1) := by decide +kernel
theorem dX0_bestStep_17 : decode cX0_bestStep 17 = .ok (.iload_n 3, 1) := by decide +kernel
theorem dX0_bestStep_18 : decode cX0_bestStep 18 = .ok (.iconst 4, 1) := by decide +kernel
theorem dX0_bestStep_19 : decode cX0_bestStep 19 = .ok (.if_icmp .gt 34, 3) := by decide +kernel
theorem dX0_bestStep_22 : decode cX0_bestStep 22 = .ok (.aload_n 0, 1) := by decide +kernel
theorem dX0_bestStep_23 : decode cX0_bestStep 23 = .ok (.iload_n 3, 1) := by decide +kernel
theorem dX0_bestStep_24 : decode cX0_bestStep 24 = .ok (.iconst 0, 1) := by decide +kernel
theorem dX0_bestStep_25 : decode cX0_bestStep 25 = .ok (.aload_n 0, 1) := by decide +kernel
theorem dX0_bestStep_26 : decode cX0_bestStep 26 = .ok (.getfield 23, 3) := by decide +kernel
theorem dX0_bestStep_29 : decode cX0_bestStep 29 = .ok (.iconst 0, 1) := by decide +kernel
theorem dX0_bestStep_30 : decode cX0_bestStep 30 = .ok (.iaload, 1) := by decide +kernel
theorem dX0_bestStep_31 : decode cX0_bestStep 31 = .ok (.invokevirtual 162, 3) := by decide +kernel
theorem dX0_bestStep_34 : decode cX0_bestStep 34 = .ok (.istore 4, 2) := by decide +kernel
theorem dX0_bestStep_36 : decode cX0_bestStep 36 = .ok (.iload 4, 2) := by decide +kernel
theorem dX0_bestStep_38 : decode cX0_bestStep 38 = .ok (.iload_n 2, 1) := by decide +kernel
theorem dX0_bestStep_39 : decode cX0_bestStep 39 = .ok (.if_icmp .ge 8, 3) := by decide +kernel
theorem dX0_bestStep_42 : decode cX0_bestStep 42 = .ok (.iload 4, 2) := by decide +kernel
theorem dX0_bestStep_44 : decode cX0_bestStep 44 = .ok (.istore_n 2, 1) := by decide +kernel
theorem dX0_bestStep_45 : decode cX0_bestStep 45 = .ok (.iload_n 3, 1) := by decide +kernel
theorem dX0_bestStep_46 : decode cX0_bestStep 46 = .ok (.istore_n 1, 1) := by decide +kernel
theorem dX0_bestStep_47 : decode cX0_bestStep 47 = .ok (.iinc 3 1, 3) := by decide +kernel
theorem dX0_bestStep_50 : decode cX0_bestStep 50 = .ok (.goto (-33), 3) := by decide +kernel
theorem dX0_bestStep_53 : decode cX0_bestStep 53 = .ok (.iload_n 1, 1) := by decide +kernel
theorem dX0_bestStep_54 : decode cX0_bestStep 54 = .ok (.ireturn, 1) := by decide +kernel
theorem dX0_meanNote_0 : decode cX0_meanNote 0 = .ok (.aload_n 0, 1) := by decide +kernel
theorem dX0_meanNote_1 : decode cX0_meanNote 1 = .ok (.getfield 59, 3) := by decide +kernel
theorem dX0_meanNote_4 : decode cX0_meanNote 4 = .ok (.ifCond .gt 5, 3) := by decide +kernel
theorem dX0_meanNote_7 : decode cX0_meanNote 7 = .ok (.dconst 0, 1) := by decide +kernel
theorem dX0_meanNote_8 : decode cX0_meanNote 8 = .ok (.dreturn, 1) := by decide +kernel
theorem dX0_meanNote_9 : decode cX0_meanNote 9 = .ok (.iconst 0, 1) := by decide +kernel
theorem dX0_meanNote_10 : decode cX0_meanNote 10 = .ok (.istore_n 1, 1) := by decide +kernel
theorem dX0_meanNote_11 : decode cX0_meanNote 11 = .ok (.iconst 0, 1) := by decide +kernel
theorem dX0_meanNote_12 : decode cX0_meanNote 12 = .ok (.istore_n 2, 1) := by decide +kernel
theorem dX0_meanNote_13 : decode cX0_meanNote 13 = .ok (.iload_n 2, 1) := by decide +kernel
theorem dX0_meanNote_14 : decode cX0_meanNote 14 = .ok (.aload_n 0, 1) := by decide +kernel
theorem dX0_meanNote_15 : decode cX0_meanNote 15 = .ok (.getfield 59, 3) := by decide +kernel
theorem dX0_meanNote_18 : decode cX0_meanNote 18 = .ok (.if_icmp .ge 18, 3) := by decide +kernel
theorem dX0_meanNote_21 : decode cX0_meanNote 21 = .ok (.iload_n 1, 1) := by decide +kernel
theorem dX0_meanNote_22 : decode cX0_meanNote 22 = .ok (.aload_n 0, 1) := by decide +kernel
theorem dX0_meanNote_23 : decode cX0_meanNote 23 = .ok (.getfield 35, 3) := by decide +kernel
theorem dX0_meanNote_26 : decode cX0_meanNote 26 = .ok (.iload_n 2, 1) := by decide +kernel
theorem dX0_meanNote_27 : decode cX0_meanNote 27 = .ok (.iaload, 1) := by decide +kernel
theorem dX0_meanNote_28 : decode cX0_meanNote 28 = .ok (.iadd, 1) := by decide +kernel
theorem dX0_meanNote_29 : decode cX0_meanNote 29 = .ok (.istore_n 1, 1) := by decide +kernel
theorem dX0_meanNote_30 : decode cX0_meanNote 30 = .ok (.iinc 2 1, 3) := by decide +kernel
theorem dX0_meanNote_33 : decode cX0_meanNote 33 = .ok (.goto (-20), 3) := by decide +kernel
theorem dX0_meanNote_36 : decode cX0_meanNote 36 = .ok (.iload_n 1, 1) := by decide +kernel
theorem dX0_meanNote_37 : decode cX0_meanNote 37 = .ok (.i2d, 1) := by decide +kernel
theorem dX0_meanNote_38 : decode cX0_meanNote 38 = .ok (.aload_n 0, 1) := by decide +kernel
theorem dX0_meanNote_39 : decode cX0_meanNote 39 = .ok (.getfield 59, 3) := by decide +kernel
theorem dX0_meanNote_42 : decode cX0_meanNote 42 = .ok (.i2d, 1) := by decide +kernel
theorem dX0_meanNote_43 : decode cX0_meanNote 43 = .ok (.ddiv, 1) := by decide +kernel
theorem dX0_meanNote_44 : decode cX0_meanNote 44 = .ok (.dreturn, 1) := by decide +kernel
theorem dX0_digest_0 : decode cX0_digest 0 = .ok (.ldc2_w 166, 3) := by decide +kernel
theorem dX0_digest_3 : decode cX0_digest 3 = .ok (.lstore_n 1, 1) := by decide +kernel
theorem dX0_digest_4 : decode cX0_digest 4 = .ok (.lload_n 1, 1) := by decide +kernel
theorem dX0_digest_5 : decode cX0_digest 5 = .ok (.aload_n 0, 1) := by decide +kernel
theorem dX0_digest_6 : decode cX0_digest 6 = .ok (.invokevirtual 168, 3) := by decide +kernel
theorem dX0_digest_9 : decode cX0_digest 9 = .ok (.i2l, 1) := by decide +kernel
theorem dX0_digest_10 : decode cX0_digest 10 = .ok (.invokestatic 171, 3) := by decide +kernel
theorem dX0_digest_13 : decode cX0_digest 13 = .ok (.lstore_n 1, 1) := by decide +kernel
theorem dX0_digest_14 : decode cX0_digest 14 = .ok (.lload_n 1, 1) := by decide +kernel
theorem dX0_digest_15 : decode cX0_digest 15 = .ok (.aload_n 0, 1) := by decide +kernel
theorem dX0_digest_16 : decode cX0_digest 16 = .ok (.invokevirtual 174, 3) := by decide +kernel
theorem dX0_digest_19 : decode cX0_digest 19 = .ok (.i2l, 1) := by decide +kernel
theorem dX0_digest_20 : decode cX0_digest 20 = .ok (.invokestatic 171, 3) := by decide +kernel
theorem dX0_digest_23 : decode cX0_digest 23 = .ok (.lstore_n 1, 1) := by decide +kernel
theorem dX0_digest_24 : decode cX0_digest 24 = .ok (.lload_n 1, 1) := by decide +kernel
theorem dX0_digest_25 : decode cX0_digest 25 = .ok (.aload_n 0, 1) := by decide +kernel
theorem dX0_digest_26 : decode cX0_digest 26 = .ok (.invokevirtual 95, 3) := by decide +kernel
theorem dX0_digest_29 : decode cX0_digest 29 = .ok (.i2l, 1) := by decide +kernel
theorem dX0_digest_30 : decode cX0_digest 30 = .ok (.invokestatic 171, 3) := by decide +kernel
theorem dX0_digest_33 : decode cX0_digest 33 = .ok (.lstore_n 1, 1) := by decide +kernel
theorem dX0_digest_34 : decode cX0_digest 34 = .ok (.lload_n 1, 1) := by decide +kernel
theorem dX0_digest_35 : decode cX0_digest 35 = .ok (.aload_n 0, 1) := by decide +kernel
theorem dX0_digest_36 : decode cX0_digest 36 = .ok (.invokevirtual 104, 3) := by decide +kernel
theorem dX0_digest_39 : decode cX0_digest 39 = .ok (.i2l, 1) := by decide +kernel
theorem dX0_digest_40 : decode cX0_digest 40 = .ok (.invokestatic 171, 3) := by decide +kernel
theorem dX0_digest_43 : decode cX0_digest 43 = .ok (.lstore_n 1, 1) := by decide +kernel
theorem dX0_digest_44 : decode cX0_digest 44 = .ok (.lload_n 1, 1) := by decide +kernel
theorem dX0_digest_45 : decode cX0_digest 45 = .ok (.aload_n 0, 1) := by decide +kernel
theorem dX0_digest_46 : decode cX0_digest 46 = .ok (.invokevirtual 177, 3) := by decide +kernel
theorem dX0_digest_49 : decode cX0_digest 49 = .ok (.i2l, 1) := by decide +kernel
theorem dX0_digest_50 : decode cX0_digest 50 = .ok (.invokestatic 171, 3) := by decide +kernel
theorem dX0_digest_53 : decode cX0_digest 53 = .ok (.lstore_n 1, 1) := by decide +kernel
theorem dX0_digest_54 : decode cX0_digest 54 = .ok (.lload_n 1, 1) := by decide +kernel
theorem dX0_digest_55 : decode cX0_digest 55 = .ok (.aload_n 0, 1) := by decide +kernel
theorem dX0_digest_56 : decode cX0_digest 56 = .ok (.invokevirtual 180, 3) := by decide +kernel
theorem dX0_digest_59 : decode cX0_digest 59 = .ok (.i2l, 1) := by decide +kernel
theorem dX0_digest_60 : decode cX0_digest 60 = .ok (.invokestatic 171, 3) := by decide +kernel
theorem dX0_digest_63 : decode cX0_digest 63 = .ok (.lstore_n 1, 1) := by decide +kernel
theorem dX0_digest_64 : decode cX0_digest 64 = .ok (.lload_n 1, 1) := by decide +kernel
theorem dX0_digest_65 : decode cX0_digest 65 = .ok (.aload_n 0, 1) := by decide +kernel
theorem dX0_digest_66 : decode cX0_digest 66 = .ok (.invokevirtual 183, 3) := by decide +kernel
theorem dX0_digest_69 : decode cX0_digest 69 = .ok (.i2l, 1) := by decide +kernel
theorem dX0_digest_70 : decode cX0_digest 70 = .ok (.invokestatic 171, 3) := by decide +kernel
theorem dX0_digest_73 : decode cX0_digest 73 = .ok (.lstore_n 1, 1) := by decide +kernel
theorem dX0_digest_74 : decode cX0_digest 74 = .ok (.lload_n 1, 1) := by decide +kernel
theorem dX0_digest_75 : decode cX0_digest 75 = .ok (.aload_n 0, 1) := by decide +kernel
theorem dX0_digest_76 : decode cX0_digest 76 = .ok (.invokevirtual 186, 3) := by decide +kernel
theorem dX0_digest_79 : decode cX0_digest 79 = .ok (.i2l, 1) := by decide +kernel
theorem dX0_digest_80 : decode cX0_digest 80 = .ok (.invokestatic 171, 3) := by decide +kernel
theorem dX0_digest_83 : decode cX0_digest 83 = .ok (.lstore_n 1, 1) := by decide +kernel
theorem dX0_digest_84 : decode cX0_digest 84 = .ok (.lload_n 1, 1) := by decide +kernel
theorem dX0_digest_85 : decode cX0_digest 85 = .ok (.aload_n 0, 1) := by decide +kernel
theorem dX0_digest_86 : decode cX0_digest 86 = .ok (.invokevirtual 189, 3) := by decide +kernel
theorem dX0_digest_89 : decode cX0_digest 89 = .ok (.i2l, 1) := by decide +kernel
theorem dX0_digest_90 : decode cX0_digest 90 = .ok (.invokestatic 171, 3) := by decide +kernel
theorem dX0_digest_93 : decode cX0_digest 93 = .ok (.lstore_n 1, 1) := by decide +kernel
theorem dX0_digest_94 : decode cX0_digest 94 = .ok (.lload_n 1, 1) := by decide +kernel
theorem dX0_digest_95 : decode cX0_digest 95 = .ok (.aload_n 0, 1) := by decide +kernel
theorem dX0_digest_96 : decode cX0_digest 96 = .ok (.invokevirtual 192, 3) := by decide +kernel
theorem dX0_digest_99 : decode cX0_digest 99 = .ok (.i2l, 1) := by decide +kernel
theorem dX0_digest_100 : decode cX0_digest 100 = .ok (.invokestatic 171, 3) := by decide +kernel
theorem dX0_digest_103 : decode cX0_digest 103 = .ok (.lstore_n 1, 1) := by decide +kernel
theorem dX0_digest_104 : decode cX0_digest 104 = .ok (.lload_n 1, 1) := by decide +kernel
theorem dX0_digest_105 : decode cX0_digest 105 = .ok (.aload_n 0, 1) := by decide +kernel
theorem dX0_digest_106 : decode cX0_digest 106 = .ok (.invokevirtual 150, 3) := by decide +kernel
theorem dX0_digest_109 : decode cX0_digest 109 = .ok (.invokestatic 171, 3) := by decide +kernel
theorem dX0_digest_112 : decode cX0_digest 112 = .ok (.lstore_n 1, 1) := by decide +kernel
theorem dX0_digest_113 : decode cX0_digest 113 = .ok (.lload_n 1, 1) := by decide +kernel
theorem dX0_digest_114 : decode cX0_digest 114 = .ok (.aload_n 0, 1) := by decide +kernel
theorem dX0_digest_115 : decode cX0_digest 115 = .ok (.invokevirtual 195, 3) := by decide +kernel
theorem dX0_digest_118 : decode cX0_digest 118 = .ok (.i2l, 1) := by decide +kernel
theorem dX0_digest_119 : decode cX0_digest 119 = .ok (.invokestatic 171, 3) := by decide +kernel
theorem dX0_digest_122 : decode cX0_digest 122 = .ok (.lstore_n 1, 1) := by decide +kernel
theorem dX0_digest_123 : decode cX0_digest 123 = .ok (.iconst 0, 1) := by decide +kernel
theorem dX0_digest_124 : decode cX0_digest 124 = .ok (.istore_n 3, 1) := by decide +kernel
theorem dX0_digest_125 : decode cX0_digest 125 = .ok (.iload_n 3, 1) := by decide +kernel
theorem dX0_digest_126 : decode cX0_digest 126 = .ok (.aload_n 0, 1) := by decide +kernel
theorem dX0_digest_127 : decode cX0_digest 127 = .ok (.getfield 59, 3) := by decide +kernel
theorem dX0_digest_130 : decode cX0_digest 130 = .ok (.if_icmp .ge 16, 3) := by decide +kernel
theorem dX0_digest_133 : decode cX0_digest 133 = .ok (.aload_n 0, 1) := by decide +kernel
theorem dX0_digest_134 : decode cX0_digest 134 = .ok (.lload_n 1, 1) := by decide +kernel
theorem dX0_digest_135 : decode cX0_digest 135 = .ok (.iload_n 3, 1) := by decide +kernel
theorem dX0_digest_136 : decode cX0_digest 136 = .ok (.invokevirtual 198, 3) := by decide +kernel
theorem dX0_digest_139 : decode cX0_digest 139 = .ok (.lstore_n 1, 1) := by decide +kernel
theorem dX0_digest_140 : decode cX0_digest 140 = .ok (.iinc 3 1, 3) := by decide +kernel
theorem dX0_digest_143 : decode cX0_digest 143 = .ok (.goto (-18), 3) := by decide +kernel
theorem dX0_digest_146 : decode cX0_digest 146 = .ok (.iconst 0, 1) := by decide +kernel
theorem dX0_digest_147 : decode cX0_digest 147 = .ok (.istore_n 3, 1) := by decide +kernel
theorem dX0_digest_148 : decode cX0_digest 148 = .ok (.iload_n 3, 1) := by decide +kernel
theorem dX0_digest_149 : decode cX0_digest 149 = .ok (.bipush 10, 2) := by decide +kernel
theorem dX0_digest_151 : decode cX0_digest 151 = .ok (.if_icmp .ge 31, 3) := by decide +kernel
theorem dX0_digest_154 : decode cX0_digest 154 = .ok (.lload_n 1, 1) := by decide +kernel
theorem dX0_digest_155 : decode cX0_digest 155 = .ok (.aload_n 0, 1) := by decide +kernel
theorem dX0_digest_156 : decode cX0_digest 156 = .ok (.iload_n 3, 1) := by decide +kernel
theorem dX0_digest_157 : decode cX0_digest 157 = .ok (.invokevirtual 202, 3) := by decide +kernel
theorem dX0_digest_160 : decode cX0_digest 160 = .ok (.i2l, 1) := by decide +kernel
theorem dX0_digest_161 : decode cX0_digest 161 = .ok (.invokestatic 171, 3) := by decide +kernel
theorem dX0_digest_164 : decode cX0_digest 164 = .ok (.lstore_n 1, 1) := by decide +kernel
theorem dX0_digest_165 : decode cX0_digest 165 = .ok (.lload_n 1, 1) := by decide +kernel
theorem dX0_digest_166 : decode cX0_digest 166 = .ok (.aload_n 0, 1) := by decide +kernel
theorem dX0_digest_167 : decode cX0_digest 167 = .ok (.iload_n 3, 1) := by decide +kernel
theorem dX0_digest_168 : decode cX0_digest 168 = .ok (.invokevirtual 205, 3) := by decide +kernel
theorem dX0_digest_171 : decode cX0_digest 171 = .ok (.i2l, 1) := by decide +kernel
theorem dX0_digest_172 : decode cX0_digest 172 = .ok (.invokestatic 171, 3) := by decide +kernel
theorem dX0_digest_175 : decode cX0_digest 175 = .ok (.lstore_n 1, 1) := by decide +kernel
theorem dX0_digest_176 : decode cX0_digest 176 = .ok (.iinc 3 1, 3) := by decide +kernel
theorem dX0_digest_179 : decode cX0_digest 179 = .ok (.goto (-31), 3) := by decide +kernel
theorem dX0_digest_182 : decode cX0_digest 182 = .ok (.lload_n 1, 1) := by decide +kernel
theorem dX0_digest_183 : decode cX0_digest 183 = .ok (.lreturn, 1) := by decide +kernel
theorem dX0_isLandmark_0 : decode cX0_isLandmark 0 = .ok (.iload_n 0, 1) := by decide +kernel
theorem dX0_isLandmark_1 : decode cX0_isLandmark 1 = .ok (.ifCond .lt 13, 3) := by decide +kernel
theorem dX0_isLandmark_4 : decode cX0_isLandmark 4 = .ok (.iload_n 0, 1) := by decide +kernel
theorem dX0_isLandmark_5 : decode cX0_isLandmark 5 = .ok (.bipush 10, 2) := by decide +kernel
theorem dX0_isLandmark_7 : decode cX0_isLandmark 7 = .ok (.if_icmp .ge 7, 3) := by decide +kernel
theorem dX0_isLandmark_10 : decode cX0_isLandmark 10 = .ok (.iconst 1, 1) := by decide +kernel
theorem dX0_isLandmark_11 : decode cX0_isLandmark 11 = .ok (.goto 4, 3) := by decide +kernel
theorem dX0_isLandmark_14 : decode cX0_isLandmark 14 = .ok (.iconst 0, 1) := by decide +kernel
theorem dX0_isLandmark_15 : decode cX0_isLandmark 15 = .ok (.ireturn, 1) := by decide +kernel
theorem dX0_isWord_0 : decode cX0_isWord 0 = .ok (.iload_n 0, 1) := by decide +kernel
theorem dX0_isWord_1 : decode cX0_isWord 1 = .ok (.ifCond .lt 13, 3) := by decide +kernel
theorem dX0_isWord_4 : decode cX0_isWord 4 = .ok (.iload_n 0, 1) := by decide +kernel
theorem dX0_isWord_5 : decode cX0_isWord 5 = .ok (.bipush 10, 2) := by decide +kernel
theorem dX0_isWord_7 : decode cX0_isWord 7 = .ok (.if_icmp .ge 7, 3) := by decide +kernel
theorem dX0_isWord_10 : decode cX0_isWord 10 = .ok (.iconst 1, 1) := by decide +kernel
theorem dX0_isWord_11 : decode cX0_isWord 11 = .ok (.goto 4, 3) := by decide +kernel
theorem dX0_isWord_14 : decode cX0_isWord 14 = .ok (.iconst 0, 1) := by decide +kernel
theorem dX0_isWord_15 : decode cX0_isWord 15 = .ok (.ireturn, 1) := by decide +kernel
theorem dX0_checkTurn_0 : decode cX0_checkTurn 0 = .ok (.iload_n 0, 1) := by decide +kernel
theorem dX0_checkTurn_1 : decode cX0_checkTurn 1 = .ok (.bipush (-3), 2) := by decide +kernel
theorem dX0_checkTurn_3 : decode cX0_checkTurn 3 = .ok (.if_icmp .lt 8, 3) := by decide +kernel
theorem dX0_checkTurn_6 : decode cX0_checkTurn 6 = .ok (.iload_n 0, 1) := by decide +kernel
theorem dX0_checkTurn_7 : decode cX0_checkTurn 7 = .ok (.iconst 3, 1) := by decide +kernel
theorem dX0_checkTurn_8 : decode cX0_checkTurn 8 = .ok (.if_icmp .le 13, 3) := by decide +kernel
theorem dX0_checkTurn_11 : decode cX0_checkTurn 11 = .ok (.new 46, 3) := by decide +kernel
theorem dX0_checkTurn_14 : decode cX0_checkTurn 14 = .ok (.dup, 1) := by decide +kernel
theorem dX0_checkTurn_15 : decode cX0_checkTurn 15 = .ok (.ldc 208, 2) := by decide +kernel
theorem dX0_checkTurn_17 : decode cX0_checkTurn 17 = .ok (.invokespecial 50, 3) := by decide +kernel
theorem dX0_checkTurn_20 : decode cX0_checkTurn 20 = .ok (.athrow, 1) := by decide +kernel
theorem dX0_checkTurn_21 : decode cX0_checkTurn 21 = .ok (.return_, 1) := by decide +kernel
theorem dX0_checkLandmark_0 : decode cX0_checkLandmark 0 = .ok (.iload_n 0, 1) := by decide +kernel
theorem dX0_checkLandmark_1 : decode cX0_checkLandmark 1 = .ok (.invokestatic 53, 3) := by decide +kernel
theorem dX0_checkLandmark_4 : decode cX0_checkLandmark 4 = .ok (.ifCond .ne 13, 3) := by decide +kernel
theorem dX0_checkLandmark_7 : decode cX0_checkLandmark 7 = .ok (.new 210, 3) := by decide +kernel
theorem dX0_checkLandmark_10 : decode cX0_checkLandmark 10 = .ok (.dup, 1) := by decide +kernel
theorem dX0_checkLandmark_11 : decode cX0_checkLandmark 11 = .ok (.ldc 57, 2) := by decide +kernel
theorem dX0_checkLandmark_13 : decode cX0_checkLandmark 13 = .ok (.invokespecial 212, 3) := by decide +kernel
theorem dX0_checkLandmark_16 : decode cX0_checkLandmark 16 = .ok (.athrow, 1) := by decide +kernel
theorem dX0_checkLandmark_17 : decode cX0_checkLandmark 17 = .ok (.return_, 1) := by decide +kernel
theorem dX0_checkWord_0 : decode cX0_checkWord 0 = .ok (.iload_n 0, 1) := by decide +kernel
theorem dX0_checkWord_1 : decode cX0_checkWord 1 = .ok (.invokestatic 81, 3) := by decide +kernel
theorem dX0_checkWord_4 : decode cX0_checkWord 4 = .ok (.ifCond .ne 13, 3) := by decide +kernel
theorem dX0_checkWord_7 : decode cX0_checkWord 7 = .ok (.new 210, 3) := by decide +kernel
theorem dX0_checkWord_10 : decode cX0_checkWord 10 = .ok (.dup, 1) := by decide +kernel
theorem dX0_checkWord_11 : decode cX0_checkWord 11 = .ok (.ldc 84, 2) := by decide +kernel
theorem dX0_checkWord_13 : decode cX0_checkWord 13 = .ok (.invokespecial 212, 3) := by decide +kernel
theorem dX0_checkWord_16 : decode cX0_checkWord 16 = .ok (.athrow, 1) := by decide +kernel
theorem dX0_checkWord_17 : decode cX0_checkWord 17 = .ok (.return_, 1) := by decide +kernel
theorem dX0_checkLeg_0 : decode cX0_checkLeg 0 = .ok (.iload_n 1, 1) := by decide +kernel
theorem dX0_checkLeg_1 : decode cX0_checkLeg 1 = .ok (.ifCond .lt 11, 3) := by decide +kernel
theorem dX0_checkLeg_4 : decode cX0_checkLeg 4 = .ok (.iload_n 1, 1) := by decide +kernel
theorem dX0_checkLeg_5 : decode cX0_checkLeg 5 = .ok (.aload_n 0, 1) := by decide +kernel
theorem dX0_checkLeg_6 : decode cX0_checkLeg 6 = .ok (.getfield 59, 3) := by decide +kernel
theorem dX0_checkLeg_9 : decode cX0_checkLeg 9 = .ok (.if_icmp .lt 13, 3) := by decide +kernel
theorem dX0_checkLeg_12 : decode cX0_checkLeg 12 = .ok (.new 210, 3) := by decide +kernel
theorem dX0_checkLeg_15 : decode cX0_checkLeg 15 = .ok (.dup, 1) := by decide +kernel
theorem dX0_checkLeg_16 : decode cX0_checkLeg 16 = .ok (.ldc 213, 2) := by decide +kernel
theorem dX0_checkLeg_18 : decode cX0_checkLeg 18 = .ok (.invokespecial 212, 3) := by decide +kernel
theorem dX0_checkLeg_21 : decode cX0_checkLeg 21 = .ok (.athrow, 1) := by decide +kernel
theorem dX0_checkLeg_22 : decode cX0_checkLeg 22 = .ok (.return_, 1) := by decide +kernel
theorem dX0_headingAhead_0 : decode cX0_headingAhead 0 = .ok (.iload_n 1, 1) := by decide +kernel
theorem dX0_headingAhead_1 : decode cX0_headingAhead 1 = .ok (.ifCond .le 14, 3) := by decide +kernel
theorem dX0_headingAhead_4 : decode cX0_headingAhead 4 = .ok (.aload_n 0, 1) := by decide +kernel
theorem dX0_headingAhead_5 : decode cX0_headingAhead 5 = .ok (.getfield 26, 3) := by decide +kernel
theorem dX0_headingAhead_8 : decode cX0_headingAhead 8 = .ok (.iload_n 1, 1) := by decide +kernel
theorem dX0_headingAhead_9 : decode cX0_headingAhead 9 = .ok (.iconst 1, 1) := by decide +kernel
theorem dX0_headingAhead_10 : decode cX0_headingAhead 10 = .ok (.isub, 1) := by decide +kernel
theorem dX0_headingAhead_11 : decode cX0_headingAhead 11 = .ok (.iaload, 1) := by decide +kernel
theorem dX0_headingAhead_12 : decode cX0_headingAhead 12 = .ok (.goto 4, 3) := by decide +kernel
theorem dX0_headingAhead_15 : decode cX0_headingAhead 15 = .ok (.iconst 0, 1) := by decide +kernel
theorem dX0_headingAhead_16 : decode cX0_headingAhead 16 = .ok (.ireturn, 1) := by decide +kernel
theorem dX0_xAhead_0 : decode cX0_xAhead 0 = .ok (.iload_n 1, 1) := by decide +kernel
theorem dX0_xAhead_1 : decode cX0_xAhead 1 = .ok (.ifCond .le 14, 3) := by decide +kernel
theorem dX0_xAhead_4 : decode cX0_xAhead 4 = .ok (.aload_n 0, 1) := by decide +kernel
theorem dX0_xAhead_5 : decode cX0_xAhead 5 = .ok (.getfield 29, 3) := by decide +kernel
theorem dX0_xAhead_8 : decode cX0_xAhead 8 = .ok (.iload_n 1, 1) := by decide +kernel
theorem dX0_xAhead_9 : decode cX0_xAhead 9 = .ok (.iconst 1, 1) := by decide +kernel
theorem dX0_xAhead_10 : decode cX0_xAhead 10 = .ok (.isub, 1) := by decide +kernel
theorem dX0_xAhead_11 : decode cX0_xAhead 11 = .ok (.iaload, 1) := by decide +kernel
theorem dX0_xAhead_12 : decode cX0_xAhead 12 = .ok (.goto 4, 3) := by decide +kernel
theorem dX0_xAhead_15 : decode cX0_xAhead 15 = .ok (.iconst 0, 1) := by decide +kernel
theorem dX0_xAhead_16 : decode cX0_xAhead 16 = .ok (.ireturn, 1) := by decide +kernel
theorem dX0_yAhead_0 : decode cX0_yAhead 0 = .ok (.iload_n 1, 1) := by decide +kernel
theorem dX0_yAhead_1 : decode cX0_yAhead 1 = .ok (.ifCond .le 14, 3) := by decide +kernel
theorem dX0_yAhead_4 : decode cX0_yAhead 4 = .ok (.aload_n 0, 1) := by decide +kernel
theorem dX0_yAhead_5 : decode cX0_yAhead 5 = .ok (.getfield 32, 3) := by decide +kernel
theorem dX0_yAhead_8 : decode cX0_yAhead 8 = .ok (.iload_n 1, 1) := by decide +kernel
theorem dX0_yAhead_9 : decode cX0_yAhead 9 = .ok (.iconst 1, 1) := by decide +kernel
theorem dX0_yAhead_10 : decode cX0_yAhead 10 = .ok (.isub, 1) := by decide +kernel
theorem dX0_yAhead_11 : decode cX0_yAhead 11 = .ok (.iaload, 1) := by decide +kernel
theorem dX0_yAhead_12 : decode cX0_yAhead 12 = .ok (.goto 4, 3) := by decide +kernel
theorem dX0_yAhead_15 : decode cX0_yAhead 15 = .ok (.iconst 0, 1) := by decide +kernel
theorem dX0_yAhead_16 : decode cX0_yAhead 16 = .ok (.ireturn, 1) := by decide +kernel
theorem dX0_noteAhead_0 : decode cX0_noteAhead 0 = .ok (.iload_n 1, 1) := by decide +kernel
theorem dX0_noteAhead_1 : decode cX0_noteAhead 1 = .ok (.ifCond .le 14, 3) := by decide +kernel
theorem dX0_noteAhead_4 : decode cX0_noteAhead 4 = .ok (.aload_n 0, 1) := by decide +kernel
theorem dX0_noteAhead_5 : decode cX0_noteAhead 5 = .ok (.getfield 35, 3) := by decide +kernel
theorem dX0_noteAhead_8 : decode cX0_noteAhead 8 = .ok (.iload_n 1, 1) := by decide +kernel
theorem dX0_noteAhead_9 : decode cX0_noteAhead 9 = .ok (.iconst 1, 1) := by decide +kernel
theorem dX0_noteAhead_10 : decode cX0_noteAhead 10 = .ok (.isub, 1) := by decide +kernel
theorem dX0_noteAhead_11 : decode cX0_noteAhead 11 = .ok (.iaload, 1) := by decide +kernel
theorem dX0_noteAhead_12 : decode cX0_noteAhead 12 = .ok (.goto 5, 3) := by decide +kernel
theorem dX0_noteAhead_15 : decode cX0_noteAhead 15 = .ok (.bipush 12, 2) := by decide +kernel
theorem dX0_noteAhead_17 : decode cX0_noteAhead 17 = .ok (.ireturn, 1) := by decide +kernel
theorem dX0_follow_0 : decode cX0_follow 0 = .ok (.iload_n 1, 1) := by decide +kernel
theorem dX0_follow_1 : decode cX0_follow 1 = .ok (.istore_n 2, 1) := by decide +kernel
theorem dX0_follow_2 : decode cX0_follow 2 = .ok (.iload_n 2, 1) := by decide +kernel
theorem dX0_follow_3 : decode cX0_follow 3 = .ok (.aload_n 0, 1) := by decide +kernel
theorem dX0_follow_4 : decode cX0_follow 4 = .ok (.getfield 59, 3) := by decide +kernel
theorem dX0_follow_7 : decode cX0_follow 7 = .ok (.if_icmp .ge 107, 3) := by decide +kernel
theorem dX0_follow_10 : decode cX0_follow 10 = .ok (.aload_n 0, 1) := by decide +kernel
theorem dX0_follow_11 : decode cX0_follow 11 = .ok (.iload_n 2, 1) := by decide +kernel
theorem dX0_follow_12 : decode cX0_follow 12 = .ok (.invokevirtual 215, 3) := by decide +kernel
theorem dX0_follow_15 : decode cX0_follow 15 = .ok (.aload_n 0, 1) := by decide +kernel
theorem dX0_follow_16 : decode cX0_follow 16 = .ok (.getfield 9, 3) := by decide +kernel
theorem dX0_follow_19 : decode cX0_follow 19 = .ok (.iload_n 2, 1) := by decide +kernel
theorem dX0_follow_20 : decode cX0_follow 20 = .ok (.iaload, 1) := by decide +kernel
theorem dX0_follow_21 : decode cX0_follow 21 = .ok (.iadd, 1) := by decide +kernel
theorem dX0_follow_22 : decode cX0_follow 22 = .ok (.bipush 8, 2) := by decide +kernel
theorem dX0_follow_24 : decode cX0_follow 24 = .ok (.invokestatic 218, 3) := by decide +kernel
theorem dX0_follow_27 : decode cX0_follow 27 = .ok (.istore_n 3, 1) := by decide +kernel
theorem dX0_follow_28 : decode cX0_follow 28 = .ok (.aload_n 0, 1) := by decide +kernel
theorem dX0_follow_29 : decode cX0_follow 29 = .ok (.getfield 26, 3) := by decide +kernel
theorem dX0_follow_32 : decode cX0_follow 32 = .ok (.iload_n 2, 1) := by decide +kernel
theorem dX0_follow_33 : decode cX0_follow 33 = .ok (.iload_n 3, 1) := by decide +kernel
theorem dX0_follow_34 : decode cX0_follow 34 = .ok (.iastore, 1) := by decide +kernel
theorem dX0_follow_35 : decode cX0_follow 35 = .ok (.aload_n 0, 1) := by decide +kernel
theorem dX0_follow_36 : decode cX0_follow 36 = .ok (.getfield 29, 3) := by decide +kernel
theorem dX0_follow_39 : decode cX0_follow 39 = .ok (.iload_n 2, 1) := by decide +kernel
theorem dX0_follow_40 : decode cX0_follow 40 = .ok (.aload_n 0, 1) := by decide +kernel
theorem dX0_follow_41 : decode cX0_follow 41 = .ok (.iload_n 2, 1) := by decide +kernel
theorem dX0_follow_42 : decode cX0_follow 42 = .ok (.invokevirtual 88, 3) := by decide +kernel
theorem dX0_follow_45 : decode cX0_follow 45 = .ok (.aload_n 0, 1) := by decide +kernel
theorem dX0_follow_46 : decode cX0_follow 46 = .ok (.getfield 13, 3) := by decide +kernel
theorem dX0_follow_49 : decode cX0_follow 49 = .ok (.iload_n 2, 1) := by decide +kernel
theorem dX0_follow_50 : decode cX0_follow 50 = .ok (.iaload, 1) := by decide +kernel
theorem dX0_follow_51 : decode cX0_follow 51 = .ok (.getstatic 221, 3) := by decide +kernel
theorem dX0_follow_54 : decode cX0_follow 54 = .ok (.iload_n 3, 1) := by decide +kernel
theorem dX0_follow_55 : decode cX0_follow 55 = .ok (.iaload, 1) := by decide +kernel
theorem dX0_follow_56 : decode cX0_follow 56 = .ok (.imul, 1) := by decide +kernel
theorem dX0_follow_57 : decode cX0_follow 57 = .ok (.iadd, 1) := by decide +kernel
theorem dX0_follow_58 : decode cX0_follow 58 = .ok (.iastore, 1) := by decide +kernel
theorem dX0_follow_59 : decode cX0_follow 59 = .ok (.aload_n 0, 1) := by decide +kernel
theorem dX0_follow_60 : decode cX0_follow 60 = .ok (.getfield 32, 3) := by decide +kernel
theorem dX0_follow_63 : decode cX0_follow 63 = .ok (.iload_n 2, 1) := by decide +kernel
theorem dX0_follow_64 : decode cX0_follow 64 = .ok (.aload_n 0, 1) := by decide +kernel
theorem dX0_follow_65 : decode cX0_follow 65 = .ok (.iload_n 2, 1) := by decide +kernel
theorem dX0_follow_66 : decode cX0_follow 66 = .ok (.invokevirtual 92, 3) := by decide +kernel
theorem dX0_follow_69 : decode cX0_follow 69 = .ok (.aload_n 0, 1) := by decide +kernel
theorem dX0_follow_70 : decode cX0_follow 70 = .ok (.getfield 13, 3) := by decide +kernel
theorem dX0_follow_73 : decode cX0_follow 73 = .ok (.iload_n 2, 1) := by decide +kernel
theorem dX0_follow_74 : decode cX0_follow 74 = .ok (.iaload, 1) := by decide +kernel
theorem dX0_follow_75 : decode cX0_follow 75 = .ok (.getstatic 224, 3) := by decide +kernel
theorem dX0_follow_78 : decode cX0_follow 78 = .ok (.iload_n 3, 1) := by decide +kernel
theorem dX0_follow_79 : decode cX0_follow 79 = .ok (.iaload, 1) := by decide +kernel
theorem dX0_follow_80 : decode cX0_follow 80 = .ok (.imul, 1) := by decide +kernel
theorem dX0_follow_81 : decode cX0_follow 81 = .ok (.iadd, 1) := by decide +kernel
theorem dX0_follow_82 : decode cX0_follow 82 = .ok (.iastore, 1) := by decide +kernel
theorem dX0_follow_83 : decode cX0_follow 83 = .ok (.aload_n 0, 1) := by decide +kernel
theorem dX0_follow_84 : decode cX0_follow 84 = .ok (.getfield 35, 3) := by decide +kernel
theorem dX0_follow_87 : decode cX0_follow 87 = .ok (.iload_n 2, 1) := by decide +kernel
theorem dX0_follow_88 : decode cX0_follow 88 = .ok (.aload_n 0, 1) := by decide +kernel
theorem dX0_follow_89 : decode cX0_follow 89 = .ok (.iload_n 2, 1) := by decide +kernel
theorem dX0_follow_90 : decode cX0_follow 90 = .ok (.invokevirtual 114, 3) := by decide +kernel
theorem dX0_follow_93 : decode cX0_follow 93 = .ok (.aload_n 0, 1) := by decide +kernel
theorem dX0_follow_94 : decode cX0_follow 94 = .ok (.getfield 9, 3) := by decide +kernel
theorem dX0_follow_97 : decode cX0_follow 97 = .ok (.iload_n 2, 1) := by decide +kernel
theorem dX0_follow_98 : decode cX0_follow 98 = .ok (.iaload, 1) := by decide +kernel
theorem dX0_follow_99 : decode cX0_follow 99 = .ok (.aload_n 0, 1) := by decide +kernel
theorem dX0_follow_100 : decode cX0_follow 100 = .ok (.getfield 38, 3) := by decide +kernel
theorem dX0_follow_103 : decode cX0_follow 103 = .ok (.imul, 1) := by decide +kernel
theorem dX0_follow_104 : decode cX0_follow 104 = .ok (.invokestatic 227, 3) := by decide +kernel
theorem dX0_follow_107 : decode cX0_follow 107 = .ok (.iastore, 1) := by decide +kernel
theorem dX0_follow_108 : decode cX0_follow 108 = .ok (.iinc 2 1, 3) := by decide +kernel
theorem dX0_follow_111 : decode cX0_follow 111 = .ok (.goto (-109), 3) := by decide +kernel
theorem dX0_follow_114 : decode cX0_follow 114 = .ok (.return_, 1) := by decide +kernel
theorem dX0_endsWhereItWas_0 : decode cX0_endsWhereItWas 0 = .ok (.aload_n 0, 1) := by decide +kernel
theorem dX0_endsWhereItWas_1 : decode cX0_endsWhereItWas 1 = .ok (.getfield 29, 3) := by decide +kernel
theorem dX0_endsWhereItWas_4 : decode cX0_endsWhereItWas 4 = .ok (.iload_n 1, 1) := by decide +kernel
theorem dX0_endsWhereItWas_5 : decode cX0_endsWhereItWas 5 = .ok (.iaload, 1) := by decide +kernel
theorem dX0_endsWhereItWas_6 : decode cX0_endsWhereItWas 6 = .ok (.ifCond .ne 14, 3) := by decide +kernel
theorem dX0_endsWhereItWas_9 : decode cX0_endsWhereItWas 9 = .ok (.aload_n 0, 1) := by decide +kernel
theorem dX0_endsWhereItWas_10 : decode cX0_endsWhereItWas 10 = .ok (.getfield 32, 3) := by decide +kernel
theorem dX0_endsWhereItWas_13 : decode cX0_endsWhereItWas 13 = .ok (.iload_n 1, 1) := by decide +kernel
theorem dX0_endsWhereItWas_14 : decode cX0_endsWhereItWas 14 = .ok (.iaload, 1) := by decide +kernel
theorem dX0_endsWhereItWas_15 : decode cX0_endsWhereItWas 15 = .ok (.ifCond .ne 5, 3) := by decide +kernel
theorem dX0_endsWhereItWas_18 : decode cX0_endsWhereItWas 18 = .ok (.iconst 1, 1) := by decide +kernel
theorem dX0_endsWhereItWas_19 : decode cX0_endsWhereItWas 19 = .ok (.ireturn, 1) := by decide +kernel
theorem dX0_endsWhereItWas_20 : decode cX0_endsWhereItWas 20 = .ok (.iconst 0, 1) := by decide +kernel
theorem dX0_endsWhereItWas_21 : decode cX0_endsWhereItWas 21 = .ok (.istore_n 2, 1) := by decide +kernel
theorem dX0_endsWhereItWas_22 : decode cX0_endsWhereItWas 22 = .ok (.iload_n 2, 1) := by decide +kernel
theorem dX0_endsWhereItWas_23 : decode cX0_endsWhereItWas 23 = .ok (.iload_n 1, 1) := by decide +kernel
theorem dX0_endsWhereItWas_24 : decode cX0_endsWhereItWas 24 = .ok (.if_icmp .ge 41, 3) := by decide +kernel
theorem dX0_endsWhereItWas_27 : decode cX0_endsWhereItWas 27 = .ok (.aload_n 0, 1) := by decide +kernel
theorem dX0_endsWhereItWas_28 : decode cX0_endsWhereItWas 28 = .ok (.getfield 29, 3) := by decide +kernel
theorem dX0_endsWhereItWas_31 : decode cX0_endsWhereItWas 31 = .ok (.iload_n 2, 1) := by decide +kernel
theorem dX0_endsWhereItWas_32 : decode cX0_endsWhereItWas 32 = .ok (.iaload, 1) := by decide +kernel
theorem dX0_endsWhereItWas_33 : decode cX0_endsWhereItWas 33 = .ok (.aload_n 0, 1) := by decide +kernel
theorem dX0_endsWhereItWas_34 : decode cX0_endsWhereItWas 34 = .ok (.getfield 29, 3) := by decide +kernel
theorem dX0_endsWhereItWas_37 : decode cX0_endsWhereItWas 37 = .ok (.iload_n 1, 1) := by decide +kernel
theorem dX0_endsWhereItWas_38 : decode cX0_endsWhereItWas 38 = .ok (.iaload, 1) := by decide +kernel
theorem dX0_endsWhereItWas_39 : decode cX0_endsWhereItWas 39 = .ok (.if_icmp .ne 20, 3) := by decide +kernel
theorem dX0_endsWhereItWas_42 : decode cX0_endsWhereItWas 42 = .ok (.aload_n 0, 1) := by decide +kernel
theorem dX0_endsWhereItWas_43 : decode cX0_endsWhereItWas 43 = .ok (.getfield 32, 3) := by decide +kernel
theorem dX0_endsWhereItWas_46 : decode cX0_endsWhereItWas 46 = .ok (.iload_n 2, 1) := by decide +kernel
theorem dX0_endsWhereItWas_47 : decode cX0_endsWhereItWas 47 = .ok (.iaload, 1) := by decide +kernel
theorem dX0_endsWhereItWas_48 : decode cX0_endsWhereItWas 48 = .ok (.aload_n 0, 1) := by decide +kernel
theorem dX0_endsWhereItWas_49 : decode cX0_endsWhereItWas 49 = .ok (.getfield 32, 3) := by decide +kernel
theorem dX0_endsWhereItWas_52 : decode cX0_endsWhereItWas 52 = .ok (.iload_n 1, 1) := by decide +kernel
theorem dX0_endsWhereItWas_53 : decode cX0_endsWhereItWas 53 = .ok (.iaload, 1) := by decide +kernel
theorem dX0_endsWhereItWas_54 : decode cX0_endsWhereItWas 54 = .ok (.if_icmp .ne 5, 3) := by decide +kernel
theorem dX0_endsWhereItWas_57 : decode cX0_endsWhereItWas 57 = .ok (.iconst 1, 1) := by decide +kernel
theorem dX0_endsWhereItWas_58 : decode cX0_endsWhereItWas 58 = .ok (.ireturn, 1) := by decide +kernel
theorem dX0_endsWhereItWas_59 : decode cX0_endsWhereItWas 59 = .ok (.iinc 2 1, 3) := by decide +kernel
theorem dX0_endsWhereItWas_62 : decode cX0_endsWhereItWas 62 = .ok (.goto (-40), 3) := by decide +kernel
theorem dX0_endsWhereItWas_65 : decode cX0_endsWhereItWas 65 = .ok (.iconst 0, 1) := by decide +kernel
theorem dX0_endsWhereItWas_66 : decode cX0_endsWhereItWas 66 = .ok (.ireturn, 1) := by decide +kernel
theorem dX0_leavesVoice_0 : decode cX0_leavesVoice 0 = .ok (.iload_n 0, 1) := by decide +kernel
theorem dX0_leavesVoice_1 : decode cX0_leavesVoice 1 = .ok (.ifCond .lt 9, 3) := by decide +kernel
theorem dX0_leavesVoice_4 : decode cX0_leavesVoice 4 = .ok (.iload_n 0, 1) := by decide +kernel
theorem dX0_leavesVoice_5 : decode cX0_leavesVoice 5 = .ok (.bipush 24, 2) := by decide +kernel
theorem dX0_leavesVoice_7 : decode cX0_leavesVoice 7 = .ok (.if_icmp .le 7, 3) := by decide +kernel
theorem dX0_leavesVoice_10 : decode cX0_leavesVoice 10 = .ok (.iconst 1, 1) := by decide +kernel
theorem dX0_leavesVoice_11 : decode cX0_leavesVoice 11 = .ok (.goto 4, 3) := by decide +kernel
theorem dX0_leavesVoice_14 : decode cX0_leavesVoice 14 = .ok (.iconst 0, 1) := by decide +kernel
theorem dX0_leavesVoice_15 : decode cX0_leavesVoice 15 = .ok (.ireturn, 1) := by decide +kernel
theorem dX0_noteBehind_0 : decode cX0_noteBehind 0 = .ok (.iload_n 0, 1) := by decide +kernel
theorem dX0_noteBehind_1 : decode cX0_noteBehind 1 = .ok (.iload_n 1, 1) := by decide +kernel
theorem dX0_noteBehind_2 : decode cX0_noteBehind 2 = .ok (.iadd, 1) := by decide +kernel
theorem dX0_noteBehind_3 : decode cX0_noteBehind 3 = .ok (.istore_n 2, 1) := by decide +kernel
theorem dX0_noteBehind_4 : decode cX0_noteBehind 4 = .ok (.iload_n 2, 1) := by decide +kernel
theorem dX0_noteBehind_5 : decode cX0_noteBehind 5 = .ok (.invokestatic 117, 3) := by decide +kernel
theorem dX0_noteBehind_8 : decode cX0_noteBehind 8 = .ok (.ifCond .eq 9, 3) := by decide +kernel
theorem dX0_noteBehind_11 : decode cX0_noteBehind 11 = .ok (.iload_n 0, 1) := by decide +kernel
theorem dX0_noteBehind_12 : decode cX0_noteBehind 12 = .ok (.iload_n 1, 1) := by decide +kernel
theorem dX0_noteBehind_13 : decode cX0_noteBehind 13 = .ok (.isub, 1) := by decide +kernel
theorem dX0_noteBehind_14 : decode cX0_noteBehind 14 = .ok (.goto 4, 3) := by decide +kernel
theorem dX0_noteBehind_17 : decode cX0_noteBehind 17 = .ok (.iload_n 2, 1) := by decide +kernel
theorem dX0_noteBehind_18 : decode cX0_noteBehind 18 = .ok (.ireturn, 1) := by decide +kernel
theorem dX0_dropMarks_0 : decode cX0_dropMarks 0 = .ok (.iconst 0, 1) := by decide +kernel
theorem dX0_dropMarks_1 : decode cX0_dropMarks 1 = .ok (.istore_n 1, 1) := by decide +kernel
theorem dX0_dropMarks_2 : decode cX0_dropMarks 2 = .ok (.iload_n 1, 1) := by decide +kernel
theorem dX0_dropMarks_3 : decode cX0_dropMarks 3 = .ok (.aload_n 0, 1) := by decide +kernel
theorem dX0_dropMarks_4 : decode cX0_dropMarks 4 = .ok (.getfield 59, 3) := by decide +kernel
theorem dX0_dropMarks_7 : decode cX0_dropMarks 7 = .ok (.if_icmp .ge 16, 3) := by decide +kernel
theorem dX0_dropMarks_10 : decode cX0_dropMarks 10 = .ok (.aload_n 0, 1) := by decide +kernel
theorem dX0_dropMarks_11 : decode cX0_dropMarks 11 = .ok (.getfield 19, 3) := by decide +kernel
theorem dX0_dropMarks_14 : decode cX0_dropMarks 14 = .ok (.iload_n 1, 1) := by decide +kernel
theorem dX0_dropMarks_15 : decode cX0_dropMarks 15 = .ok (.iconst 0, 1) := by decide +kernel
theorem dX0_dropMarks_16 : decode cX0_dropMarks 16 = .ok (.bastore, 1) := by decide +kernel
theorem dX0_dropMarks_17 : decode cX0_dropMarks 17 = .ok (.iinc 1 1, 3) := by decide +kernel
theorem dX0_dropMarks_20 : decode cX0_dropMarks 20 = .ok (.goto (-18), 3) := by decide +kernel
theorem dX0_dropMarks_23 : decode cX0_dropMarks 23 = .ok (.return_, 1) := by decide +kernel
theorem dX0_turnsSungAs_0 : decode cX0_turnsSungAs 0 = .ok (.iconst 0, 1) := by decide +kernel
theorem dX0_turnsSungAs_1 : decode cX0_turnsSungAs 1 = .ok (.istore 4, 2) := by decide +kernel
theorem dX0_turnsSungAs_3 : decode cX0_turnsSungAs 3 = .ok (.bipush (-3), 2) := by decide +kernel
theorem dX0_turnsSungAs_5 : decode cX0_turnsSungAs 5 = .ok (.istore 5, 2) := by decide +kernel
theorem dX0_turnsSungAs_7 : decode cX0_turnsSungAs 7 = .ok (.iload 5, 2) := by decide +kernel
theorem dX0_turnsSungAs_9 : decode cX0_turnsSungAs 9 = .ok (.iload_n 3, 1) := by decide +kernel
theorem dX0_turnsSungAs_10 : decode cX0_turnsSungAs 10 = .ok (.if_icmp .ge 24, 3) := by decide +kernel
theorem dX0_turnsSungAs_13 : decode cX0_turnsSungAs 13 = .ok (.iload_n 1, 1) := by decide +kernel
theorem dX0_turnsSungAs_14 : decode cX0_turnsSungAs 14 = .ok (.iload 5, 2) := by decide +kernel
theorem dX0_turnsSungAs_16 : decode cX0_turnsSungAs 16 = .ok (.iload_n 2, 1) := by decide +kernel
theorem dX0_turnsSungAs_17 : decode cX0_turnsSungAs 17 = .ok (.imul, 1) := by decide +kernel
theorem dX0_turnsSungAs_18 : decode cX0_turnsSungAs 18 = .ok (.invokestatic 227, 3) := by decide +kernel
theorem dX0_turnsSungAs_21 : decode cX0_turnsSungAs 21 = .ok (.iload_n 0, 1) := by decide +kernel
theorem dX0_turnsSungAs_22 : decode cX0_turnsSungAs 22 = .ok (.if_icmp .ne 6, 3) := by decide +kernel
theorem dX0_turnsSungAs_25 : decode cX0_turnsSungAs 25 = .ok (.iinc 4 1, 3) := by decide +kernel
theorem dX0_turnsSungAs_28 : decode cX0_turnsSungAs 28 = .ok (.iinc 5 1, 3) := by decide +kernel
theorem dX0_turnsSungAs_31 : decode cX0_turnsSungAs 31 = .ok (.goto (-24), 3) := by decide +kernel
theorem dX0_turnsSungAs_34 : decode cX0_turnsSungAs 34 = .ok (.iload 4, 2) := by decide +kernel
theorem dX0_turnsSungAs_36 : decode cX0_turnsSungAs 36 = .ok (.ireturn, 1) := by decide +kernel
theorem dX0_landmarksNamed_0 : decode cX0_landmarksNamed 0 = .ok (.iconst 0, 1) := by decide +kernel
theorem dX0_landmarksNamed_1 : decode cX0_landmarksNamed 1 = .ok (.istore_n 3, 1) := by decide +kernel
theorem dX0_landmarksNamed_2 : decode cX0_landmarksNamed 2 = .ok (.iconst 0, 1) := by decide +kernel
theorem dX0_landmarksNamed_3 : decode cX0_landmarksNamed 3 = .ok (.istore 4, 2) := by decide +kernel
theorem dX0_landmarksNamed_5 : decode cX0_landmarksNamed 5 = .ok (.iload 4, 2) := by decide +kernel
theorem dX0_landmarksNamed_7 : decode cX0_landmarksNamed 7 = .ok (.iload_n 2, 1) := by decide +kernel
theorem dX0_landmarksNamed_8 : decode cX0_landmarksNamed 8 = .ok (.if_icmp .ge 23, 3) := by decide +kernel
theorem dX0_landmarksNamed_11 : decode cX0_landmarksNamed 11 = .ok (.aload_n 0, 1) := by decide +kernel
theorem dX0_landmarksNamed_12 : decode cX0_landmarksNamed 12 = .ok (.getfield 23, 3) := by decide +kernel
theorem dX0_landmarksNamed_15 : decode cX0_landmarksNamed 15 = .ok (.iload 4, 2) := by decide +kernel
theorem dX0_landmarksNamed_17 : decode cX0_landmarksNamed 17 = .ok (.iaload, 1) := by decide +kernel
theorem dX0_landmarksNamed_18 : decode cX0_landmarksNamed 18 = .ok (.iload_n 1, 1) := by decide +kernel
theorem dX0_landmarksNamed_19 : decode cX0_landmarksNamed 19 = .ok (.if_icmp .ne 6, 3) := by decide +kernel
theorem dX0_landmarksNamed_22 : decode cX0_landmarksNamed 22 = .ok (.iinc 3 1, 3) := by decide +kernel
theorem dX0_landmarksNamed_25 : decode cX0_landmarksNamed 25 = .ok (.iinc 4 1, 3) := by decide +kernel
theorem dX0_landmarksNamed_28 : decode cX0_landmarksNamed 28 = .ok (.goto (-23), 3) := by decide +kernel
theorem dX0_landmarksNamed_31 : decode cX0_landmarksNamed 31 = .ok (.iload_n 3, 1) := by decide +kernel
theorem dX0_landmarksNamed_32 : decode cX0_landmarksNamed 32 = .ok (.ireturn, 1) := by decide +kernel
theorem dX0_mostAmbiguous_0 : decode cX0_mostAmbiguous 0 = .ok (.iconst (-1), 1) := by decide +kernel
theorem dX0_mostAmbiguous_1 : decode cX0_mostAmbiguous 1 = .ok (.istore_n 1, 1) := by decide +kernel
theorem dX0_mostAmbiguous_2 : decode cX0_mostAmbiguous 2 = .ok (.iconst 1, 1) := by decide +kernel
theorem dX0_mostAmbiguous_3 : decode cX0_mostAmbiguous 3 = .ok (.istore_n 2, 1) := by decide +kernel
theorem dX0_mostAmbiguous_4 : decode cX0_mostAmbiguous 4 = .ok (.iconst 0, 1) := by decide +kernel
theorem dX0_mostAmbiguous_5 : decode cX0_mostAmbiguous 5 = .ok (.istore_n 3, 1) := by decide +kernel
theorem dX0_mostAmbiguous_6 : decode cX0_mostAmbiguous 6 = .ok (.iload_n 3, 1) := by decide +kernel
theorem dX0_mostAmbiguous_7 : decode cX0_mostAmbiguous 7 = .ok (.aload_n 0, 1) := by decide +kernel
theorem dX0_mostAmbiguous_8 : decode cX0_mostAmbiguous 8 = .ok (.getfield 59, 3) := by decide +kernel
theorem dX0_mostAmbiguous_11 : decode cX0_mostAmbiguous 11 = .ok (.if_icmp .ge 36, 3) := by decide +kernel
theorem dX0_mostAmbiguous_14 : decode cX0_mostAmbiguous 14 = .ok (.aload_n 0, 1) := by decide +kernel
theorem dX0_mostAmbiguous_15 : decode cX0_mostAmbiguous 15 = .ok (.iload_n 3, 1) := by decide +kernel
theorem dX0_mostAmbiguous_16 : decode cX0_mostAmbiguous 16 = .ok (.invokevirtual 136, 3) := by decide +kernel
theorem dX0_mostAmbiguous_19 : decode cX0_mostAmbiguous 19 = .ok (.istore 4, 2) := by decide +kernel
theorem dX0_mostAmbiguous_21 : decode cX0_mostAmbiguous 21 = .ok (.aload_n 0, 1) := by decide +kernel
theorem dX0_mostAmbiguous_22 : decode cX0_mostAmbiguous 22 = .ok (.getfield 19, 3) := by decide +kernel
theorem dX0_mostAmbiguous_25 : decode cX0_mostAmbiguous 25 = .ok (.iload_n 3, 1) := by decide +kernel
theorem dX0_mostAmbiguous_26 : decode cX0_mostAmbiguous 26 = .ok (.baload, 1) := by decide +kernel
theorem dX0_mostAmbiguous_27 : decode cX0_mostAmbiguous 27 = .ok (.ifCond .ne 14, 3) := by decide +kernel
theorem dX0_mostAmbiguous_30 : decode cX0_mostAmbiguous 30 = .ok (.iload 4, 2) := by decide +kernel
theorem dX0_mostAmbiguous_32 : decode cX0_mostAmbiguous 32 = .ok (.iload_n 2, 1) := by decide +kernel
theorem dX0_mostAmbiguous_33 : decode cX0_mostAmbiguous 33 = .ok (.if_icmp .le 8, 3) := by decide +kernel
theorem dX0_mostAmbiguous_36 : decode cX0_mostAmbiguous 36 = .ok (.iload 4, 2) := by decide +kernel
theorem dX0_mostAmbiguous_38 : decode cX0_mostAmbiguous 38 = .ok (.istore_n 2, 1) := by decide +kernel
theorem dX0_mostAmbiguous_39 : decode cX0_mostAmbiguous 39 = .ok (.iload_n 3, 1) := by decide +kernel
theorem dX0_mostAmbiguous_40 : decode cX0_mostAmbiguous 40 = .ok (.istore_n 1, 1) := by decide +kernel
theorem dX0_mostAmbiguous_41 : decode cX0_mostAmbiguous 41 = .ok (.iinc 3 1, 3) := by decide +kernel
theorem dX0_mostAmbiguous_44 : decode cX0_mostAmbiguous 44 = .ok (.goto (-38), 3) := by decide +kernel
theorem dX0_mostAmbiguous_47 : decode cX0_mostAmbiguous 47 = .ok (.iload_n 1, 1) := by decide +kernel
theorem dX0_mostAmbiguous_48 : decode cX0_mostAmbiguous 48 = .ok (.ireturn, 1) := by decide +kernel
theorem dX0_unmendedWith_0 : decode cX0_unmendedWith 0 = .ok (.iconst 0, 1) := by decide +kernel
theorem dX0_unmendedWith_1 : decode cX0_unmendedWith 1 = .ok (.istore 4, 2) := by decide +kernel
theorem dX0_unmendedWith_3 : decode cX0_unmendedWith 3 = .ok (.bipush 12, 2) := by decide +kernel
theorem dX0_unmendedWith_5 : decode cX0_unmendedWith 5 = .ok (.istore 5, 2) := by decide +kernel
theorem dX0_unmendedWith_7 : decode cX0_unmendedWith 7 = .ok (.iconst 0, 1) := by decide +kernel
theorem dX0_unmendedWith_8 : decode cX0_unmendedWith 8 = .ok (.istore 6, 2) := by decide +kernel
theorem dX0_unmendedWith_10 : decode cX0_unmendedWith 10 = .ok (.iload 6, 2) := by decide +kernel
theorem dX0_unmendedWith_12 : decode cX0_unmendedWith 12 = .ok (.aload_n 0, 1) := by decide +kernel
theorem dX0_unmendedWith_13 : decode cX0_unmendedWith 13 = .ok (.getfield 59, 3) := by decide +kernel
theorem dX0_unmendedWith_16 : decode cX0_unmendedWith 16 = .ok (.if_icmp .ge 73, 3) := by decide +kernel
theorem dX0_unmendedWith_19 : decode cX0_unmendedWith 19 = .ok (.iload 5, 2) := by decide +kernel
theorem dX0_unmendedWith_21 : decode cX0_unmendedWith 21 = .ok (.aload_n 0, 1) := by decide +kernel
theorem dX0_unmendedWith_22 : decode cX0_unmendedWith 22 = .ok (.getfield 9, 3) := by decide +kernel
theorem dX0_unmendedWith_25 : decode cX0_unmendedWith 25 = .ok (.iload 6, 2) := by decide +kernel
theorem dX0_unmendedWith_27 : decode cX0_unmendedWith 27 = .ok (.iaload, 1) := by decide +kernel
theorem dX0_unmendedWith_28 : decode cX0_unmendedWith 28 = .ok (.iload_n 1, 1) := by decide +kernel
theorem dX0_unmendedWith_29 : decode cX0_unmendedWith 29 = .ok (.imul, 1) := by decide +kernel
theorem dX0_unmendedWith_30 : decode cX0_unmendedWith 30 = .ok (.invokestatic 227, 3) := by decide +kernel
theorem dX0_unmendedWith_33 : decode cX0_unmendedWith 33 = .ok (.istore 7, 2) := by decide +kernel
theorem dX0_unmendedWith_35 : decode cX0_unmendedWith 35 = .ok (.iload 7, 2) := by decide +kernel
theorem dX0_unmendedWith_37 : decode cX0_unmendedWith 37 = .ok (.iload 5, 2) := by decide +kernel
theorem dX0_unmendedWith_39 : decode cX0_unmendedWith 39 = .ok (.iload_n 1, 1) := by decide +kernel
theorem dX0_unmendedWith_40 : decode cX0_unmendedWith 40 = .ok (.iconst 4, 1) := by decide +kernel
theorem dX0_unmendedWith_41 : decode cX0_unmendedWith 41 = .ok (.invokestatic 129, 3) := by decide +kernel
theorem dX0_unmendedWith_44 : decode cX0_unmendedWith 44 = .ok (.iconst 1, 1) := by decide +kernel
theorem dX0_unmendedWith_45 : decode cX0_unmendedWith 45 = .ok (.if_icmp .le 7, 3) := by decide +kernel
theorem dX0_unmendedWith_48 : decode cX0_unmendedWith 48 = .ok (.iconst 1, 1) := by decide +kernel
theorem dX0_unmendedWith_49 : decode cX0_unmendedWith 49 = .ok (.goto 4, 3) := by decide +kernel
theorem dX0_unmendedWith_52 : decode cX0_unmendedWith 52 = .ok (.iconst 0, 1) := by decide +kernel
theorem dX0_unmendedWith_53 : decode cX0_unmendedWith 53 = .ok (.istore 8, 2) := by decide +kernel
theorem dX0_unmendedWith_55 : decode cX0_unmendedWith 55 = .ok (.iload 8, 2) := by decide +kernel
theorem dX0_unmendedWith_57 : decode cX0_unmendedWith 57 = .ok (.ifCond .ne 19, 3) := by decide +kernel
theorem dX0_unmendedWith_60 : decode cX0_unmendedWith 60 = .ok (.aload_n 0, 1) := by decide +kernel
theorem dX0_unmendedWith_61 : decode cX0_unmendedWith 61 = .ok (.aload_n 0, 1) := by decide +kernel
theorem dX0_unmendedWith_62 : decode cX0_unmendedWith 62 = .ok (.getfield 16, 3) := by decide +kernel
theorem dX0_unmendedWith_65 : decode cX0_unmendedWith 65 = .ok (.iload 6, 2) := by decide +kernel
theorem dX0_unmendedWith_67 : decode cX0_unmendedWith 67 = .ok (.iaload, 1) := by decide +kernel
theorem dX0_unmendedWith_68 : decode cX0_unmendedWith 68 = .ok (.iload_n 2, 1) := by decide +kernel
theorem dX0_unmendedWith_69 : decode cX0_unmendedWith 69 = .ok (.iload_n 3, 1) := by decide +kernel
theorem dX0_unmendedWith_70 : decode cX0_unmendedWith 70 = .ok (.invokevirtual 230, 3) := by decide +kernel
theorem dX0_unmendedWith_73 : decode cX0_unmendedWith 73 = .ok (.ifCond .eq 6, 3) := by decide +kernel
theorem dX0_unmendedWith_76 : decode cX0_unmendedWith 76 = .ok (.iinc 4 1, 3) := by decide +kernel
theorem dX0_unmendedWith_79 : decode cX0_unmendedWith 79 = .ok (.iload 7, 2) := by decide +kernel
theorem dX0_unmendedWith_81 : decode cX0_unmendedWith 81 = .ok (.istore 5, 2) := by decide +kernel
theorem dX0_unmendedWith_83 : decode cX0_unmendedWith 83 = .ok (.iinc 6 1, 3) := by decide +kernel
theorem dX0_unmendedWith_86 : decode cX0_unmendedWith 86 = .ok (.goto (-76), 3) := by decide +kernel
theorem dX0_unmendedWith_89 : decode cX0_unmendedWith 89 = .ok (.iload 4, 2) := by decide +kernel
theorem dX0_unmendedWith_91 : decode cX0_unmendedWith 91 = .ok (.ireturn, 1) := by decide +kernel
theorem dX0_sharesWordIf_0 : decode cX0_sharesWordIf 0 = .ok (.aload_n 0, 1) := by decide +kernel
theorem dX0_sharesWordIf_1 : decode cX0_sharesWordIf 1 = .ok (.iload_n 1, 1) := by decide +kernel
theorem dX0_sharesWordIf_2 : decode cX0_sharesWordIf 2 = .ok (.iload_n 2, 1) := by decide +kernel
theorem dX0_sharesWordIf_3 : decode cX0_sharesWordIf 3 = .ok (.iload_n 3, 1) := by decide +kernel
theorem dX0_sharesWordIf_4 : decode cX0_sharesWordIf 4 = .ok (.invokevirtual 234, 3) := by decide +kernel
theorem dX0_sharesWordIf_7 : decode cX0_sharesWordIf 7 = .ok (.istore 4, 2) := by decide +kernel
theorem dX0_sharesWordIf_9 : decode cX0_sharesWordIf 9 = .ok (.iconst 0, 1) := by decide +kernel
theorem dX0_sharesWordIf_10 : decode cX0_sharesWordIf 10 = .ok (.istore 5, 2) := by decide +kernel
theorem dX0_sharesWordIf_12 : decode cX0_sharesWordIf 12 = .ok (.iload 5, 2) := by decide +kernel
theorem dX0_sharesWordIf_14 : decode cX0_sharesWordIf 14 = .ok (.bipush 10, 2) := by decide +kernel
theorem dX0_sharesWordIf_16 : decode cX0_sharesWordIf 16 = .ok (.if_icmp .ge 30, 3) := by decide +kernel
theorem dX0_sharesWordIf_19 : decode cX0_sharesWordIf 19 = .ok (.iload 5, 2) := by decide +kernel
theorem dX0_sharesWordIf_21 : decode cX0_sharesWordIf 21 = .ok (.iload_n 1, 1) := by decide +kernel
theorem dX0_sharesWordIf_22 : decode cX0_sharesWordIf 22 = .ok (.if_icmp .eq 18, 3) := by decide +kernel
theorem dX0_sharesWordIf_25 : decode cX0_sharesWordIf 25 = .ok (.aload_n 0, 1) := by decide +kernel
theorem dX0_sharesWordIf_26 : decode cX0_sharesWordIf 26 = .ok (.iload 5, 2) := by decide +kernel
theorem dX0_sharesWordIf_28 : decode cX0_sharesWordIf 28 = .ok (.iload_n 2, 1) := by decide +kernel
theorem dX0_sharesWordIf_29 : decode cX0_sharesWordIf 29 = .ok (.iload_n 3, 1) := by decide +kernel
theorem dX0_sharesWordIf_30 : decode cX0_sharesWordIf 30 = .ok (.invokevirtual 234, 3) := by decide +kernel
theorem dX0_sharesWordIf_33 : decode cX0_sharesWordIf 33 = .ok (.iload 4, 2) := by decide +kernel
theorem dX0_sharesWordIf_35 : decode cX0_sharesWordIf 35 = .ok (.if_icmp .ne 5, 3) := by decide +kernel
theorem dX0_sharesWordIf_38 : decode cX0_sharesWordIf 38 = .ok (.iconst 1, 1) := by decide +kernel
theorem dX0_sharesWordIf_39 : decode cX0_sharesWordIf 39 = .ok (.ireturn, 1) := by decide +kernel
theorem dX0_sharesWordIf_40 : decode cX0_sharesWordIf 40 = .ok (.iinc 5 1, 3) := by decide +kernel
theorem dX0_sharesWordIf_43 : decode cX0_sharesWordIf 43 = .ok (.goto (-31), 3) := by decide +kernel
theorem dX0_sharesWordIf_46 : decode cX0_sharesWordIf 46 = .ok (.iconst 0, 1) := by decide +kernel
theorem dX0_sharesWordIf_47 : decode cX0_sharesWordIf 47 = .ok (.ireturn, 1) := by decide +kernel
theorem dX0_wordIf_0 : decode cX0_wordIf 0 = .ok (.iload_n 1, 1) := by decide +kernel
theorem dX0_wordIf_1 : decode cX0_wordIf 1 = .ok (.iload_n 2, 1) := by decide +kernel
theorem dX0_wordIf_2 : decode cX0_wordIf 2 = .ok (.if_icmp .ne 7, 3) := by decide +kernel
theorem dX0_wordIf_5 : decode cX0_wordIf 5 = .ok (.iload_n 3, 1) := by decide +kernel
theorem dX0_wordIf_6 : decode cX0_wordIf 6 = .ok (.goto 9, 3) := by decide +kernel
theorem dX0_wordIf_9 : decode cX0_wordIf 9 = .ok (.aload_n 0, 1) := by decide +kernel
theorem dX0_wordIf_10 : decode cX0_wordIf 10 = .ok (.getfield 23, 3) := by decide +kernel
theorem dX0_wordIf_13 : decode cX0_wordIf 13 = .ok (.iload_n 1, 1) := by decide +kernel
theorem dX0_wordIf_14 : decode cX0_wordIf 14 = .ok (.iaload, 1) := by decide +kernel
theorem dX0_wordIf_15 : decode cX0_wordIf 15 = .ok (.ireturn, 1) := by decide +kernel
theorem dX0_digested_0 : decode cX0_digested 0 = .ok (.lload_n 0, 1) := by decide +kernel
theorem dX0_digested_1 : decode cX0_digested 1 = .ok (.ldc2_w 237, 3) := by decide +kernel
theorem dX0_digested_4 : decode cX0_digested 4 = .ok (.lmul, 1) := by decide +kernel
theorem dX0_digested_5 : decode cX0_digested 5 = .ok (.lload_n 2, 1) := by decide +kernel
theorem dX0_digested_6 : decode cX0_digested 6 = .ok (.ladd, 1) := by decide +kernel
theorem dX0_digested_7 : decode cX0_digested 7 = .ok (.lreturn, 1) := by decide +kernel
theorem dX0_digestOfLeg_0 : decode cX0_digestOfLeg 0 = .ok (.lload_n 1, 1) := by decide +kernel
theorem dX0_digestOfLeg_1 : decode cX0_digestOfLeg 1 = .ok (.lstore 4, 2) := by decide +kernel
theorem dX0_digestOfLeg_3 : decode cX0_digestOfLeg 3 = .ok (.lload 4, 2) := by decide +kernel
theorem dX0_digestOfLeg_5 : decode cX0_digestOfLeg 5 = .ok (.aload_n 0, 1) := by decide +kernel
theorem dX0_digestOfLeg_6 : decode cX0_digestOfLeg 6 = .ok (.iload_n 3, 1) := by decide +kernel
theorem dX0_digestOfLeg_7 : decode cX0_digestOfLeg 7 = .ok (.invokevirtual 239, 3) := by decide +kernel
theorem dX0_digestOfLeg_10 : decode cX0_digestOfLeg 10 = .ok (.i2l, 1) := by decide +kernel
theorem dX0_digestOfLeg_11 : decode cX0_digestOfLeg 11 = .ok (.invokestatic 171, 3) := by decide +kernel
theorem dX0_digestOfLeg_14 : decode cX0_digestOfLeg 14 = .ok (.lstore 4, 2) := by decide +kernel
theorem dX0_digestOfLeg_16 : decode cX0_digestOfLeg 16 = .ok (.lload 4, 2) := by decide +kernel
theorem dX0_digestOfLeg_18 : decode cX0_digestOfLeg 18 = .ok (.aload_n 0, 1) := by decide +kernel
theorem dX0_digestOfLeg_19 : decode cX0_digestOfLeg 19 = .ok (.iload_n 3, 1) := by decide +kernel
theorem dX0_digestOfLeg_20 : decode cX0_digestOfLeg 20 = .ok (.invokevirtual 242, 3) := by decide +kernel
theorem dX0_digestOfLeg_23 : decode cX0_digestOfLeg 23 = .ok (.i2l, 1) := by decide +kernel
theorem dX0_digestOfLeg_24 : decode cX0_digestOfLeg 24 = .ok (.invokestatic 171, 3) := by decide +kernel
theorem dX0_digestOfLeg_27 : decode cX0_digestOfLeg 27 = .ok (.lstore 4, 2) := by decide +kernel
theorem dX0_digestOfLeg_29 : decode cX0_digestOfLeg 29 = .ok (.lload 4, 2) := by decide +kernel
theorem dX0_digestOfLeg_31 : decode cX0_digestOfLeg 31 = .ok (.aload_n 0, 1) := by decide +kernel
theorem dX0_digestOfLeg_32 : decode cX0_digestOfLeg 32 = .ok (.iload_n 3, 1) := by decide +kernel
theorem dX0_digestOfLeg_33 : decode cX0_digestOfLeg 33 = .ok (.invokevirtual 245, 3) := by decide +kernel
theorem dX0_digestOfLeg_36 : decode cX0_digestOfLeg 36 = .ok (.i2l, 1) := by decide +kernel
theorem dX0_digestOfLeg_37 : decode cX0_digestOfLeg 37 = .ok (.invokestatic 171, 3) := by decide +kernel
theorem dX0_digestOfLeg_40 : decode cX0_digestOfLeg 40 = .ok (.lstore 4, 2) := by decide +kernel
theorem dX0_digestOfLeg_42 : decode cX0_digestOfLeg 42 = .ok (.lload 4, 2) := by decide +kernel
theorem dX0_digestOfLeg_44 : decode cX0_digestOfLeg 44 = .ok (.aload_n 0, 1) := by decide +kernel
theorem dX0_digestOfLeg_45 : decode cX0_digestOfLeg 45 = .ok (.iload_n 3, 1) := by decide +kernel
theorem dX0_digestOfLeg_46 : decode cX0_digestOfLeg 46 = .ok (.invokevirtual 248, 3) := by decide +kernel
theorem dX0_digestOfLeg_49 : decode cX0_digestOfLeg 49 = .ok (.i2l, 1) := by decide +kernel
theorem dX0_digestOfLeg_50 : decode cX0_digestOfLeg 50 = .ok (.invokestatic 171, 3) := by decide +kernel
theorem dX0_digestOfLeg_53 : decode cX0_digestOfLeg 53 = .ok (.lstore 4, 2) := by decide +kernel
theorem dX0_digestOfLeg_55 : decode cX0_digestOfLeg 55 = .ok (.lload 4, 2) := by decide +kernel
theorem dX0_digestOfLeg_57 : decode cX0_digestOfLeg 57 = .ok (.aload_n 0, 1) := by decide +kernel
theorem dX0_digestOfLeg_58 : decode cX0_digestOfLeg 58 = .ok (.iload_n 3, 1) := by decide +kernel
theorem dX0_digestOfLeg_59 : decode cX0_digestOfLeg 59 = .ok (.invokevirtual 251, 3) := by decide +kernel
theorem dX0_digestOfLeg_62 : decode cX0_digestOfLeg 62 = .ok (.i2l, 1) := by decide +kernel
theorem dX0_digestOfLeg_63 : decode cX0_digestOfLeg 63 = .ok (.invokestatic 171, 3) := by decide +kernel
theorem dX0_digestOfLeg_66 : decode cX0_digestOfLeg 66 = .ok (.lstore 4, 2) := by decide +kernel
theorem dX0_digestOfLeg_68 : decode cX0_digestOfLeg 68 = .ok (.lload 4, 2) := by decide +kernel
theorem dX0_digestOfLeg_70 : decode cX0_digestOfLeg 70 = .ok (.aload_n 0, 1) := by decide +kernel
theorem dX0_digestOfLeg_71 : decode cX0_digestOfLeg 71 = .ok (.iload_n 3, 1) := by decide +kernel
theorem dX0_digestOfLeg_72 : decode cX0_digestOfLeg 72 = .ok (.invokevirtual 136, 3) := by decide +kernel
theorem dX0_digestOfLeg_75 : decode cX0_digestOfLeg 75 = .ok (.i2l, 1) := by decide +kernel
theorem dX0_digestOfLeg_76 : decode cX0_digestOfLeg 76 = .ok (.invokestatic 171, 3) := by decide +kernel
theorem dX0_digestOfLeg_79 : decode cX0_digestOfLeg 79 = .ok (.lstore 4, 2) := by decide +kernel
theorem dX0_digestOfLeg_81 : decode cX0_digestOfLeg 81 = .ok (.lload 4, 2) := by decide +kernel
theorem dX0_digestOfLeg_83 : decode cX0_digestOfLeg 83 = .ok (.aload_n 0, 1) := by decide +kernel
theorem dX0_digestOfLeg_84 : decode cX0_digestOfLeg 84 = .ok (.iload_n 3, 1) := by decide +kernel
theorem dX0_digestOfLeg_85 : decode cX0_digestOfLeg 85 = .ok (.invokevirtual 144, 3) := by decide +kernel
theorem dX0_digestOfLeg_88 : decode cX0_digestOfLeg 88 = .ok (.i2l, 1) := by decide +kernel
theorem dX0_digestOfLeg_89 : decode cX0_digestOfLeg 89 = .ok (.invokestatic 171, 3) := by decide +kernel
theorem dX0_digestOfLeg_92 : decode cX0_digestOfLeg 92 = .ok (.lstore 4, 2) := by decide +kernel
theorem dX0_digestOfLeg_94 : decode cX0_digestOfLeg 94 = .ok (.lload 4, 2) := by decide +kernel
theorem dX0_digestOfLeg_96 : decode cX0_digestOfLeg 96 = .ok (.aload_n 0, 1) := by decide +kernel
theorem dX0_digestOfLeg_97 : decode cX0_digestOfLeg 97 = .ok (.iload_n 3, 1) := by decide +kernel
theorem dX0_digestOfLeg_98 : decode cX0_digestOfLeg 98 = .ok (.invokevirtual 254, 3) := by decide +kernel
theorem dX0_digestOfLeg_101 : decode cX0_digestOfLeg 101 = .ok (.ifCond .eq 7, 3) := by decide +kernel
theorem dX0_digestOfLeg_104 : decode cX0_digestOfLeg 104 = .ok (.lconst 1, 1) := by decide +kernel
theorem dX0_digestOfLeg_105 : decode cX0_digestOfLeg 105 = .ok (.goto 4, 3) := by decide +kernel
theorem dX0_digestOfLeg_108 : decode cX0_digestOfLeg 108 = .ok (.lconst 0, 1) := by decide +kernel
theorem dX0_digestOfLeg_109 : decode cX0_digestOfLeg 109 = .ok (.invokestatic 171, 3) := by decide +kernel
theorem dX0_digestOfLeg_112 : decode cX0_digestOfLeg 112 = .ok (.lstore 4, 2) := by decide +kernel
theorem dX0_digestOfLeg_114 : decode cX0_digestOfLeg 114 = .ok (.lload 4, 2) := by decide +kernel
theorem dX0_digestOfLeg_116 : decode cX0_digestOfLeg 116 = .ok (.lreturn, 1) := by decide +kernel
end
section
theorem dX1_init_0 : decode cX1_init 0 = .ok (.aload_n 0, 1) := by decide +kernel
theorem dX1_init_1 : decode cX1_init 1 = .ok (.invokespecial 1, 3) := by decide +kernel
theorem dX1_init_4 : decode cX1_init 4 = .ok (.aload_n 0, 1) := by decide +kernel
theorem dX1_init_5 : decode cX1_init 5 = .ok (.iconst 0, 1) := by decide +kernel
theorem dX1_init_6 : decode cX1_init 6 = .ok (.anewarray 7, 3) := by decide +kernel
theorem dX1_init_9 : decode cX1_init 9 = .ok (.putfield 9, 3) := by decide +kernel
theorem dX1_init_12 : decode cX1_init 12 = .ok (.aload_n 0, 1) := by decide +kernel
theorem dX1_init_13 : decode cX1_init 13 = .ok (.bipush 10, 2) := by decide +kernel
theorem dX1_init_15 : decode cX1_init 15 = .ok (.newarray .int, 2) := by decide +kernel
theorem dX1_init_17 : decode cX1_init 17 = .ok (.dup, 1) := by decide +kernel
theorem dX1_init_18 : decode cX1_init 18 = .ok (.iconst 0, 1) := by decide +kernel
theorem dX1_init_19 : decode cX1_init 19 = .ok (.iconst 0, 1) := by decide +kernel
theorem dX1_init_20 : decode cX1_init 20 = .ok (.iastore, 1) := by decide +kernel
theorem dX1_init_21 : decode cX1_init 21 = .ok (.dup, 1) := by decide +kernel
theorem dX1_init_22 : decode cX1_init 22 = .ok (.iconst 1, 1) := by decide +kernel
theorem dX1_init_23 : decode cX1_init 23 = .ok (.iconst 1, 1) := by decide +kernel
theorem dX1_init_24 : decode cX1_init 24 = .ok (.iastore, 1) := by decide +kernel
theorem dX1_init_25 : decode cX1_init 25 = .ok (.dup, 1) := by decide +kernel
theorem dX1_init_26 : decode cX1_init 26 = .ok (.iconst 2, 1) := by decide +kernel
theorem dX1_init_27 : decode cX1_init 27 = .ok (.iconst 2, 1) := by decide +kernel
theorem dX1_init_28 : decode cX1_init 28 = .ok (.iastore, 1) := by decide +kernel
theorem dX1_init_29 : decode cX1_init 29 = .ok (.dup, 1) := by decide +kernel
theorem dX1_init_30 : decode cX1_init 30 = .ok (.iconst 3, 1) := by decide +kernel
theorem dX1_init_31 : decode cX1_init 31 = .ok (.iconst 3, 1) := by decide +kernel
theorem dX1_init_32 : decode cX1_init 32 = .ok (.iastore, 1) := by decide +kernel
theorem dX1_init_33 : decode cX1_init 33 = .ok (.dup, 1) := by decide +kernel
theorem dX1_init_34 : decode cX1_init 34 = .ok (.iconst 4, 1) := by decide +kernel
theorem dX1_init_35 : decode cX1_init 35 = .ok (.iconst 4, 1) := by decide +kernel
theorem dX1_init_36 : decode cX1_init 36 = .ok (.iastore, 1) := by decide +kernel
theorem dX1_init_37 : decode cX1_init 37 = .ok (.dup, 1) := by decide +kernel
theorem dX1_init_38 : decode cX1_init 38 = .ok (.iconst 5, 1) := by decide +kernel
theorem dX1_init_39 : decode cX1_init 39 = .ok (.iconst 5, 1) := by decide +kernel
theorem dX1_init_40 : decode cX1_init 40 = .ok (.iastore, 1) := by decide +kernel
theorem dX1_init_41 : decode cX1_init 41 = .ok (.dup, 1) := by decide +kernel
theorem dX1_init_42 : decode cX1_init 42 = .ok (.bipush 6, 2) := by decide +kernel
theorem dX1_init_44 : decode cX1_init 44 = .ok (.bipush 6, 2) := by decide +kernel
theorem dX1_init_46 : decode cX1_init 46 = .ok (.iastore, 1) := by decide +kernel
theorem dX1_init_47 : decode cX1_init 47 = .ok (.dup, 1) := by decide +kernel
theorem dX1_init_48 : decode cX1_init 48 = .ok (.bipush 7, 2) := by decide +kernel
theorem dX1_init_50 : decode cX1_init 50 = .ok (.bipush 7, 2) := by decide +kernel
theorem dX1_init_52 : decode cX1_init 52 = .ok (.iastore, 1) := by decide +kernel
theorem dX1_init_53 : decode cX1_init 53 = .ok (.dup, 1) := by decide +kernel
theorem dX1_init_54 : decode cX1_init 54 = .ok (.bipush 8, 2) := by decide +kernel
theorem dX1_init_56 : decode cX1_init 56 = .ok (.bipush 8, 2) := by decide +kernel
theorem dX1_init_58 : decode cX1_init 58 = .ok (.iastore, 1) := by decide +kernel
theorem dX1_init_59 : decode cX1_init 59 = .ok (.dup, 1) := by decide +kernel
theorem dX1_init_60 : decode cX1_init 60 = .ok (.bipush 9, 2) := by decide +kernel
theorem dX1_init_62 : decode cX1_init 62 = .ok (.bipush 9, 2) := by decide +kernel
theorem dX1_init_64 : decode cX1_init 64 = .ok (.iastore, 1) := by decide +kernel
theorem dX1_init_65 : decode cX1_init 65 = .ok (.putfield 15, 3) := by decide +kernel
theorem dX1_init_68 : decode cX1_init 68 = .ok (.aload_n 0, 1) := by decide +kernel
theorem dX1_init_69 : decode cX1_init 69 = .ok (.iconst 2, 1) := by decide +kernel
theorem dX1_init_70 : decode cX1_init 70 = .ok (.putfield 18, 3) := by decide +kernel
theorem dX1_init_73 : decode cX1_init 73 = .ok (.return_, 1) := by decide +kernel
theorem dX1_with_0 : decode cX1_with 0 = .ok (.aload_n 0, 1) := by decide +kernel
theorem dX1_with_1 : decode cX1_with 1 = .ok (.arraylength, 1) := by decide +kernel
theorem dX1_with_2 : decode cX1_with 2 = .ok (.iconst 1, 1) := by decide +kernel
theorem dX1_with_3 : decode cX1_with 3 = .ok (.iadd, 1) := by decide +kernel
theorem dX1_with_4 : decode cX1_with 4 = .ok (.anewarray 7, 3) := by decide +kernel
theorem dX1_with_7 : decode cX1_with 7 = .ok (.astore_n 2, 1) := by decide +kernel
theorem dX1_with_8 : decode cX1_with 8 = .ok (.iconst 0, 1) := by decide +kernel
theorem dX1_with_9 : decode cX1_with 9 = .ok (.istore_n 3, 1) := by decide +kernel
theorem dX1_with_10 : decode cX1_with 10 = .ok (.iload_n 3, 1) := by decide +kernel
theorem dX1_with_11 : decode cX1_with 11 = .ok (.aload_n 0, 1) := by decide +kernel
theorem dX1_with_12 : decode cX1_with 12 = .ok (.arraylength, 1) := by decide +kernel
theorem dX1_with_13 : decode cX1_with 13 = .ok (.if_icmp .ge 15, 3) := by decide +kernel
theorem dX1_with_16 : decode cX1_with 16 = .ok (.aload_n 2, 1) := by decide +kernel
theorem dX1_with_17 : decode cX1_with 17 = .ok (.iload_n 3, 1) := by decide +kernel
theorem dX1_with_18 : decode cX1_with 18 = .ok (.aload_n 0, 1) := by decide +kernel
theorem dX1_with_19 : decode cX1_with 19 = .ok (.iload_n 3, 1) := by decide +kernel
theorem dX1_with_20 : decode cX1_with 20 = .ok (.aaload, 1) := by decide +kernel
theorem dX1_with_21 : decode cX1_with 21 = .ok (.aastore, 1) := by decide +kernel
theorem dX1_with_22 : decode cX1_with 22 = .ok (.iinc 3 1, 3) := by decide +kernel
theorem dX1_with_25 : decode cX1_with 25 = .ok (.goto (-15), 3) := by decide +kernel
theorem dX1_with_28 : decode cX1_with 28 = .ok (.aload_n 2, 1) := by decide +kernel
theorem dX1_with_29 : decode cX1_with 29 = .ok (.aload_n 0, 1) := by decide +kernel
theorem dX1_with_30 : decode cX1_with 30 = .ok (.arraylength, 1) := by decide +kernel
theorem dX1_with_31 : decode cX1_with 31 = .ok (.aload_n 1, 1) := by decide +kernel
theorem dX1_with_32 : decode cX1_with 32 = .ok (.aastore, 1) := by decide +kernel
theorem dX1_with_33 : decode cX1_with 33 = .ok (.aload_n 2, 1) := by decide +kernel
theorem dX1_with_34 : decode cX1_with 34 = .ok (.areturn, 1) := by decide +kernel
theorem dX1_less_0 : decode cX1_less 0 = .ok (.aload_n 0, 1) := by decide +kernel
theorem dX1_less_1 : decode cX1_less 1 = .ok (.arraylength, 1) := by decide +kernel
theorem dX1_less_2 : decode cX1_less 2 = .ok (.iconst 1, 1) := by decide +kernel
theorem dX1_less_3 : decode cX1_less 3 = .ok (.isub, 1) := by decide +kernel
theorem dX1_less_4 : decode cX1_less 4 = .ok (.anewarray 7, 3) := by decide +kernel
theorem dX1_less_7 : decode cX1_less 7 = .ok (.astore_n 1, 1) := by decide +kernel
theorem dX1_less_8 : decode cX1_less 8 = .ok (.iconst 0, 1) := by decide +kernel
theorem dX1_less_9 : decode cX1_less 9 = .ok (.istore_n 2, 1) := by decide +kernel
theorem dX1_less_10 : decode cX1_less 10 = .ok (.iload_n 2, 1) := by decide +kernel
theorem dX1_less_11 : decode cX1_less 11 = .ok (.aload_n 1, 1) := by decide +kernel
theorem dX1_less_12 : decode cX1_less 12 = .ok (.arraylength, 1) := by decide +kernel
theorem dX1_less_13 : decode cX1_less 13 = .ok (.if_icmp .ge 15, 3) := by decide +kernel
theorem dX1_less_16 : decode cX1_less 16 = .ok (.aload_n 1, 1) := by decide +kernel
theorem dX1_less_17 : decode cX1_less 17 = .ok (.iload_n 2, 1) := by decide +kernel
theorem dX1_less_18 : decode cX1_less 18 = .ok (.aload_n 0, 1) := by decide +kernel
theorem dX1_less_19 : decode cX1_less 19 = .ok (.iload_n 2, 1) := by decide +kernel
theorem dX1_less_20 : decode cX1_less 20 = .ok (.aaload, 1) := by decide +kernel
theorem dX1_less_21 : decode cX1_less 21 = .ok (.aastore, 1) := by decide +kernel
theorem dX1_less_22 : decode cX1_less 22 = .ok (.iinc 2 1, 3) := by decide +kernel
theorem dX1_less_25 : decode cX1_less 25 = .ok (.goto (-15), 3) := by decide +kernel
theorem dX1_less_28 : decode cX1_less 28 = .ok (.aload_n 1, 1) := by decide +kernel
theorem dX1_less_29 : decode cX1_less 29 = .ok (.areturn, 1) := by decide +kernel
theorem dX1_copy_0 : decode cX1_copy 0 = .ok (.new 10, 3) := by decide +kernel
theorem dX1_copy_3 : decode cX1_copy 3 = .ok (.dup, 1) := by decide +kernel
theorem dX1_copy_4 : decode cX1_copy 4 = .ok (.invokespecial 22, 3) := by decide +kernel
theorem dX1_copy_7 : decode cX1_copy 7 = .ok (.astore_n 1, 1) := by decide +kernel
theorem dX1_copy_8 : decode cX1_copy 8 = .ok (.aload_n 1, 1) := by decide +kernel
theorem dX1_copy_9 : decode cX1_copy 9 = .ok (.aload_n 0, 1) := by decide +kernel
theorem dX1_copy_10 : decode cX1_copy 10 = .ok (.getfield 18, 3) := by decide +kernel
theorem dX1_copy_13 : decode cX1_copy 13 = .ok (.putfield 18, 3) := by decide +kernel
theorem dX1_copy_16 : decode cX1_copy 16 = .ok (.iconst 0, 1) := by decide +kernel
theorem dX1_copy_17 : decode cX1_copy 17 = .ok (.istore_n 2, 1) := by decide +kernel
theorem dX1_copy_18 : decode cX1_copy 18 = .ok (.iload_n 2, 1) := by decide +kernel
theorem dX1_copy_19 : decode cX1_copy 19 = .ok (.bipush 10, 2) := by decide +kernel
theorem dX1_copy_21 : decode cX1_copy 21 = .ok (.if_icmp .ge 21, 3) := by decide +kernel
theorem dX1_copy_24 : decode cX1_copy 24 = .ok (.aload_n 1, 1) := by decide +kernel
theorem dX1_copy_25 : decode cX1_copy 25 = .ok (.getfield 15, 3) := by decide +kernel
theorem dX1_copy_28 : decode cX1_copy 28 = .ok (.iload_n 2, 1) := by decide +kernel
theorem dX1_copy_29 : decode cX1_copy 29 = .ok (.aload_n 0, 1) := by decide +kernel
theorem dX1_copy_30 : decode cX1_copy 30 = .ok (.getfield 15, 3) := by decide +kernel
theorem dX1_copy_33 : decode cX1_copy 33 = .ok (.iload_n 2, 1) := by decide +kernel
theorem dX1_copy_34 : decode cX1_copy 34 = .ok (.iaload, 1) := by decide +kernel
theorem dX1_copy_35 : decode cX1_copy 35 = .ok (.iastore, 1) := by decide +kernel
theorem dX1_copy_36 : decode cX1_copy 36 = .ok (.iinc 2 1, 3) := by decide +kernel
theorem dX1_copy_39 : decode cX1_copy 39 = .ok (.goto (-21), 3) := by decide +kernel
theorem dX1_copy_42 : decode cX1_copy 42 = .ok (.aload_n 0, 1) := by decide +kernel
theorem dX1_copy_43 : decode cX1_copy 43 = .ok (.getfield 9, 3) := by decide +kernel
theorem dX1_copy_46 : decode cX1_copy 46 = .ok (.astore_n 2, 1) := by decide +kernel
theorem dX1_copy_47 : decode cX1_copy 47 = .ok (.aload_n 2, 1) := by decide +kernel
theorem dX1_copy_48 : decode cX1_copy 48 = .ok (.arraylength, 1) := by decide +kernel
theorem dX1_copy_49 : decode cX1_copy 49 = .ok (.istore_n 3, 1) := by decide +kernel
theorem dX1_copy_50 : decode cX1_copy 50 = .ok (.iconst 0, 1) := by decide +kernel
theorem dX1_copy_51 : decode cX1_copy 51 = .ok (.istore 4, 2) := by decide +kernel
theorem dX1_copy_53 : decode cX1_copy 53 = .ok (.iload 4, 2) := by decide +kernel
theorem dX1_copy_55 : decode cX1_copy 55 = .ok (.iload_n 3, 1) := by decide +kernel
theorem dX1_copy_56 : decode cX1_copy 56 = .ok (.if_icmp .ge 72, 3) := by decide +kernel
theorem dX1_copy_59 : decode cX1_copy 59 = .ok (.aload_n 2, 1) := by decide +kernel
theorem dX1_copy_60 : decode cX1_copy 60 = .ok (.iload 4, 2) := by decide +kernel
theorem dX1_copy_62 : decode cX1_copy 62 = .ok (.aaload, 1) := by decide +kernel
theorem dX1_copy_63 : decode cX1_copy 63 = .ok (.astore 5, 2) := by decide +kernel
theorem dX1_copy_65 : decode cX1_copy 65 = .ok (.aload_n 1, 1) := by decide +kernel
theorem dX1_copy_66 : decode cX1_copy 66 = .ok (.aload_n 1, 1) := by decide +kernel
theorem dX1_copy_67 : decode cX1_copy 67 = .ok (.getfield 9, 3) := by decide +kernel
theorem dX1_copy_70 : decode cX1_copy 70 = .ok (.bipush 6, 2) := by decide +kernel
theorem dX1_copy_72 : decode cX1_copy 72 = .ok (.newarray .int, 2) := by decide +kernel
theorem dX1_copy_74 : decode cX1_copy 74 = .ok (.dup, 1) := by decide +kernel
theorem dX1_copy_75 : decode cX1_copy 75 = .ok (.iconst 0, 1) := by decide +kernel
theorem dX1_copy_76 : decode cX1_copy 76 = .ok (.aload 5, 2) := by decide +kernel
theorem dX1_copy_78 : decode cX1_copy 78 = .ok (.iconst 0, 1) := by decide +kernel
theorem dX1_copy_79 : decode cX1_copy 79 = .ok (.iaload, 1) := by decide +kernel
theorem dX1_copy_80 : decode cX1_copy 80 = .ok (.iastore, 1) := by decide +kernel
theorem dX1_copy_81 : decode cX1_copy 81 = .ok (.dup, 1) := by decide +kernel
theorem dX1_copy_82 : decode cX1_copy 82 = .ok (.iconst 1, 1) := by decide +kernel
theorem dX1_copy_83 : decode cX1_copy 83 = .ok (.aload 5, 2) := by decide +kernel
theorem dX1_copy_85 : decode cX1_copy 85 = .ok (.iconst 1, 1) := by decide +kernel
theorem dX1_copy_86 : decode cX1_copy 86 = .ok (.iaload, 1) := by decide +kernel
theorem dX1_copy_87 : decode cX1_copy 87 = .ok (.iastore, 1) := by decide +kernel
theorem dX1_copy_88 : decode cX1_copy 88 = .ok (.dup, 1) := by decide +kernel
theorem dX1_copy_89 : decode cX1_copy 89 = .ok (.iconst 2, 1) := by decide +kernel
theorem dX1_copy_90 : decode cX1_copy 90 = .ok (.aload 5, 2) := by decide +kernel
theorem dX1_copy_92 : decode cX1_copy 92 = .ok (.iconst 2, 1) := by decide +kernel
theorem dX1_copy_93 : decode cX1_copy 93 = .ok (.iaload, 1) := by decide +kernel
theorem dX1_copy_94 : decode cX1_copy 94 = .ok (.iastore, 1) := by decide +kernel
theorem dX1_copy_95 : decode cX1_copy 95 = .ok (.dup, 1) := by decide +kernel
theorem dX1_copy_96 : decode cX1_copy 96 = .ok (.iconst 3, 1) := by decide +kernel
theorem dX1_copy_97 : decode cX1_copy 97 = .ok (.aload 5, 2) := by decide +kernel
theorem dX1_copy_99 : decode cX1_copy 99 = .ok (.iconst 3, 1) := by decide +kernel
theorem dX1_copy_100 : decode cX1_copy 100 = .ok (.iaload, 1) := by decide +kernel
theorem dX1_copy_101 : decode cX1_copy 101 = .ok (.iastore, 1) := by decide +kernel
theorem dX1_copy_102 : decode cX1_copy 102 = .ok (.dup, 1) := by decide +kernel
theorem dX1_copy_103 : decode cX1_copy 103 = .ok (.iconst 4, 1) := by decide +kernel
theorem dX1_copy_104 : decode cX1_copy 104 = .ok (.aload 5, 2) := by decide +kernel
theorem dX1_copy_106 : decode cX1_copy 106 = .ok (.iconst 4, 1) := by decide +kernel
theorem dX1_copy_107 : decode cX1_copy 107 = .ok (.iaload, 1) := by decide +kernel
theorem dX1_copy_108 : decode cX1_copy 108 = .ok (.iastore, 1) := by decide +kernel
theorem dX1_copy_109 : decode cX1_copy 109 = .ok (.dup, 1) := by decide +kernel
theorem dX1_copy_110 : decode cX1_copy 110 = .ok (.iconst 5, 1) := by decide +kernel
theorem dX1_copy_111 : decode cX1_copy 111 = .ok (.aload 5, 2) := by decide +kernel
theorem dX1_copy_113 : decode cX1_copy 113 = .ok (.iconst 5, 1) := by decide +kernel
theorem dX1_copy_114 : decode cX1_copy 114 = .ok (.iaload, 1) := by decide +kernel
theorem dX1_copy_115 : decode cX1_copy 115 = .ok (.iastore, 1) := by decide +kernel
theorem dX1_copy_116 : decode cX1_copy 116 = .ok (.invokestatic 23, 3) := by decide +kernel
theorem dX1_copy_119 : decode cX1_copy 119 = .ok (.putfield 9, 3) := by decide +kernel
theorem dX1_copy_122 : decode cX1_copy 122 = .ok (.iinc 4 1, 3) := by decide +kernel
theorem dX1_copy_125 : decode cX1_copy 125 = .ok (.goto (-72), 3) := by decide +kernel
theorem dX1_copy_128 : decode cX1_copy 128 = .ok (.aload_n 1, 1) := by decide +kernel
theorem dX1_copy_129 : decode cX1_copy 129 = .ok (.areturn, 1) := by decide +kernel
theorem dX1_sung_0 : decode cX1_sung 0 = .ok (.iload_n 0, 1) := by decide +kernel
theorem dX1_sung_1 : decode cX1_sung 1 = .ok (.iload_n 1, 1) := by decide +kernel
theorem dX1_sung_2 : decode cX1_sung 2 = .ok (.iadd, 1) := by decide +kernel
theorem dX1_sung_3 : decode cX1_sung 3 = .ok (.ifCond .lt 11, 3) := by decide +kernel
theorem dX1_sung_6 : decode cX1_sung 6 = .ok (.iload_n 0, 1) := by decide +kernel
theorem dX1_sung_7 : decode cX1_sung 7 = .ok (.iload_n 1, 1) := by decide +kernel
theorem dX1_sung_8 : decode cX1_sung 8 = .ok (.iadd, 1) := by decide +kernel
theorem dX1_sung_9 : decode cX1_sung 9 = .ok (.bipush 24, 2) := by decide +kernel
theorem dX1_sung_11 : decode cX1_sung 11 = .ok (.if_icmp .le 9, 3) := by decide +kernel
theorem dX1_sung_14 : decode cX1_sung 14 = .ok (.iload_n 0, 1) := by decide +kernel
theorem dX1_sung_15 : decode cX1_sung 15 = .ok (.iload_n 1, 1) := by decide +kernel
theorem dX1_sung_16 : decode cX1_sung 16 = .ok (.isub, 1) := by decide +kernel
theorem dX1_sung_17 : decode cX1_sung 17 = .ok (.goto 6, 3) := by decide +kernel
theorem dX1_sung_20 : decode cX1_sung 20 = .ok (.iload_n 0, 1) := by decide +kernel
theorem dX1_sung_21 : decode cX1_sung 21 = .ok (.iload_n 1, 1) := by decide +kernel
theorem dX1_sung_22 : decode cX1_sung 22 = .ok (.iadd, 1) := by decide +kernel
theorem dX1_sung_23 : decode cX1_sung 23 = .ok (.ireturn, 1) := by decide +kernel
theorem dX1_ahead_0 : decode cX1_ahead 0 = .ok (.iload_n 1, 1) := by decide +kernel
theorem dX1_ahead_1 : decode cX1_ahead 1 = .ok (.ifCond .ne 8, 3) := by decide +kernel
theorem dX1_ahead_4 : decode cX1_ahead 4 = .ok (.bipush 12, 2) := by decide +kernel
theorem dX1_ahead_6 : decode cX1_ahead 6 = .ok (.goto 13, 3) := by decide +kernel
theorem dX1_ahead_9 : decode cX1_ahead 9 = .ok (.aload_n 0, 1) := by decide +kernel
theorem dX1_ahead_10 : decode cX1_ahead 10 = .ok (.getfield 9, 3) := by decide +kernel
theorem dX1_ahead_13 : decode cX1_ahead 13 = .ok (.iload_n 1, 1) := by decide +kernel
theorem dX1_ahead_14 : decode cX1_ahead 14 = .ok (.iconst 1, 1) := by decide +kernel
theorem dX1_ahead_15 : decode cX1_ahead 15 = .ok (.isub, 1) := by decide +kernel
theorem dX1_ahead_16 : decode cX1_ahead 16 = .ok (.aaload, 1) := by decide +kernel
theorem dX1_ahead_17 : decode cX1_ahead 17 = .ok (.iconst 3, 1) := by decide +kernel
theorem dX1_ahead_18 : decode cX1_ahead 18 = .ok (.iaload, 1) := by decide +kernel
theorem dX1_ahead_19 : decode cX1_ahead 19 = .ok (.ireturn, 1) := by decide +kernel
theorem dX1_sing_0 : decode cX1_sing 0 = .ok (.iconst 0, 1) := by decide +kernel
theorem dX1_sing_1 : decode cX1_sing 1 = .ok (.istore_n 2, 1) := by decide +kernel
theorem dX1_sing_2 : decode cX1_sing 2 = .ok (.iload_n 2, 1) := by decide +kernel
theorem dX1_sing_3 : decode cX1_sing 3 = .ok (.aload_n 0, 1) := by decide +kernel
theorem dX1_sing_4 : decode cX1_sing 4 = .ok (.getfield 9, 3) := by decide +kernel
theorem dX1_sing_7 : decode cX1_sing 7 = .ok (.arraylength, 1) := by decide +kernel
theorem dX1_sing_8 : decode cX1_sing 8 = .ok (.if_icmp .ge 71, 3) := by decide +kernel
theorem dX1_sing_11 : decode cX1_sing 11 = .ok (.aload_n 0, 1) := by decide +kernel
theorem dX1_sing_12 : decode cX1_sing 12 = .ok (.getfield 9, 3) := by decide +kernel
theorem dX1_sing_15 : decode cX1_sing 15 = .ok (.iload_n 2, 1) := by decide +kernel
theorem dX1_sing_16 : decode cX1_sing 16 = .ok (.aaload, 1) := by decide +kernel
theorem dX1_sing_17 : decode cX1_sing 17 = .ok (.astore_n 3, 1) := by decide +kernel
theorem dX1_sing_18 : decode cX1_sing 18 = .ok (.aload_n 3, 1) := by decide +kernel
theorem dX1_sing_19 : decode cX1_sing 19 = .ok (.iconst 3, 1) := by decide +kernel
theorem dX1_sing_20 : decode cX1_sing 20 = .ok (.aload_n 0, 1) := by decide +kernel
theorem dX1_sing_21 : decode cX1_sing 21 = .ok (.iload_n 2, 1) := by decide +kernel
theorem dX1_sing_22 : decode cX1_sing 22 = .ok (.invokevirtual 27, 3) := by decide +kernel
theorem dX1_sing_25 : decode cX1_sing 25 = .ok (.aload_n 3, 1) := by decide +kernel
theorem dX1_sing_26 : decode cX1_sing 26 = .ok (.iconst 0, 1) := by decide +kernel
theorem dX1_sing_27 : decode cX1_sing 27 = .ok (.iaload, 1) := by decide +kernel
theorem dX1_sing_28 : decode cX1_sing 28 = .ok (.aload_n 0, 1) := by decide +kernel
theorem dX1_sing_29 : decode cX1_sing 29 = .ok (.getfield 18, 3) := by decide +kernel
theorem dX1_sing_32 : decode cX1_sing 32 = .ok (.imul, 1) := by decide +kernel
theorem dX1_sing_33 : decode cX1_sing 33 = .ok (.invokestatic 31, 3) := by decide +kernel
theorem dX1_sing_36 : decode cX1_sing 36 = .ok (.iastore, 1) := by decide +kernel
theorem dX1_sing_37 : decode cX1_sing 37 = .ok (.aload_n 3, 1) := by decide +kernel
theorem dX1_sing_38 : decode cX1_sing 38 = .ok (.iconst 4, 1) := by decide +kernel
theorem dX1_sing_39 : decode cX1_sing 39 = .ok (.aload_n 3, 1) := by decide +kernel
theorem dX1_sing_40 : decode cX1_sing 40 = .ok (.iconst 3, 1) := by decide +kernel
theorem dX1_sing_41 : decode cX1_sing 41 = .ok (.iaload, 1) := by decide +kernel
theorem dX1_sing_42 : decode cX1_sing 42 = .ok (.aload_n 0, 1) := by decide +kernel
theorem dX1_sing_43 : decode cX1_sing 43 = .ok (.iload_n 2, 1) := by decide +kernel
theorem dX1_sing_44 : decode cX1_sing 44 = .ok (.invokevirtual 27, 3) := by decide +kernel
theorem dX1_sing_47 : decode cX1_sing 47 = .ok (.aload_n 3, 1) := by decide +kernel
theorem dX1_sing_48 : decode cX1_sing 48 = .ok (.iconst 0, 1) := by decide +kernel
theorem dX1_sing_49 : decode cX1_sing 49 = .ok (.iaload, 1) := by decide +kernel
theorem dX1_sing_50 : decode cX1_sing 50 = .ok (.aload_n 0, 1) := by decide +kernel
theorem dX1_sing_51 : decode cX1_sing 51 = .ok (.getfield 18, 3) := by decide +kernel
theorem dX1_sing_54 : decode cX1_sing 54 = .ok (.imul, 1) := by decide +kernel
theorem dX1_sing_55 : decode cX1_sing 55 = .ok (.iadd, 1) := by decide +kernel
theorem dX1_sing_56 : decode cX1_sing 56 = .ok (.if_icmp .ne 7, 3) := by decide +kernel
theorem dX1_sing_59 : decode cX1_sing 59 = .ok (.iconst 0, 1) := by decide +kernel
theorem dX1_sing_60 : decode cX1_sing 60 = .ok (.goto 4, 3) := by decide +kernel
theorem dX1_sing_63 : decode cX1_sing 63 = .ok (.iconst 1, 1) := by decide +kernel
theorem dX1_sing_64 : decode cX1_sing 64 = .ok (.iastore, 1) := by decide +kernel
theorem dX1_sing_65 : decode cX1_sing 65 = .ok (.iload_n 1, 1) := by decide +kernel
theorem dX1_sing_66 : decode cX1_sing 66 = .ok (.ifCond .eq 7, 3) := by decide +kernel
theorem dX1_sing_69 : decode cX1_sing 69 = .ok (.aload_n 3, 1) := by decide +kernel
theorem dX1_sing_70 : decode cX1_sing 70 = .ok (.iconst 5, 1) := by decide +kernel
theorem dX1_sing_71 : decode cX1_sing 71 = .ok (.iconst 0, 1) := by decide +kernel
theorem dX1_sing_72 : decode cX1_sing 72 = .ok (.iastore, 1) := by decide +kernel
theorem dX1_sing_73 : decode cX1_sing 73 = .ok (.iinc 2 1, 3) := by decide +kernel
theorem dX1_sing_76 : decode cX1_sing 76 = .ok (.goto (-74), 3) := by decide +kernel
theorem dX1_sing_79 : decode cX1_sing 79 = .ok (.return_, 1) := by decide +kernel
theorem dX1_readings_0 : decode cX1_readings 0 = .ok (.iconst 0, 1) := by decide +kernel
theorem dX1_readings_1 : decode cX1_readings 1 = .ok (.istore_n 2, 1) := by decide +kernel
theorem dX1_readings_2 : decode cX1_readings 2 = .ok (.iconst (-1), 1) := by decide +kernel
theorem dX1_readings_3 : decode cX1_readings 3 = .ok (.istore_n 3, 1) := by decide +kernel
theorem dX1_readings_4 : decode cX1_readings 4 = .ok (.bipush (-3), 2) := by decide +kernel
theorem dX1_readings_6 : decode cX1_readings 6 = .ok (.istore 4, 2) := by decide +kernel
theorem dX1_readings_8 : decode cX1_readings 8 = .ok (.iload 4, 2) := by decide +kernel
theorem dX1_readings_10 : decode cX1_readings 10 = .ok (.iconst 4, 1) := by decide +kernel
theorem dX1_readings_11 : decode cX1_readings 11 = .ok (.if_icmp .ge 108, 3) := by decide +kernel
theorem dX1_readings_14 : decode cX1_readings 14 = .ok (.iconst 0, 1) := by decide +kernel
theorem dX1_readings_15 : decode cX1_readings 15 = .ok (.istore 5, 2) := by decide +kernel
theorem dX1_readings_17 : decode cX1_readings 17 = .ok (.iload 5, 2) := by decide +kernel
theorem dX1_readings_19 : decode cX1_readings 19 = .ok (.bipush 10, 2) := by decide +kernel
theorem dX1_readings_21 : decode cX1_readings 21 = .ok (.if_icmp .ge 92, 3) := by decide +kernel
theorem dX1_readings_24 : decode cX1_readings 24 = .ok (.aload_n 0, 1) := by decide +kernel
theorem dX1_readings_25 : decode cX1_readings 25 = .ok (.iload_n 1, 1) := by decide +kernel
theorem dX1_readings_26 : decode cX1_readings 26 = .ok (.invokevirtual 27, 3) := by decide +kernel
theorem dX1_readings_29 : decode cX1_readings 29 = .ok (.iload 4, 2) := by decide +kernel
theorem dX1_readings_31 : decode cX1_readings 31 = .ok (.aload_n 0, 1) := by decide +kernel
theorem dX1_readings_32 : decode cX1_readings 32 = .ok (.getfield 18, 3) := by decide +kernel
theorem dX1_readings_35 : decode cX1_readings 35 = .ok (.imul, 1) := by decide +kernel
theorem dX1_readings_36 : decode cX1_readings 36 = .ok (.invokestatic 31, 3) := by decide +kernel
theorem dX1_readings_39 : decode cX1_readings 39 = .ok (.aload_n 0, 1) := by decide +kernel
theorem dX1_readings_40 : decode cX1_readings 40 = .ok (.getfield 9, 3) := by decide +kernel
theorem dX1_readings_43 : decode cX1_readings 43 = .ok (.iload_n 1, 1) := by decide +kernel
theorem dX1_readings_44 : decode cX1_readings 44 = .ok (.aaload, 1) := by decide +kernel
theorem dX1_readings_45 : decode cX1_readings 45 = .ok (.iconst 3, 1) := by decide +kernel
theorem dX1_readings_46 : decode cX1_readings 46 = .ok (.iaload, 1) := by decide +kernel
theorem dX1_readings_47 : decode cX1_readings 47 = .ok (.if_icmp .ne 60, 3) := by decide +kernel
theorem dX1_readings_50 : decode cX1_readings 50 = .ok (.aload_n 0, 1) := by decide +kernel
theorem dX1_readings_51 : decode cX1_readings 51 = .ok (.getfield 15, 3) := by decide +kernel
theorem dX1_readings_54 : decode cX1_readings 54 = .ok (.iload 5, 2) := by decide +kernel
theorem dX1_readings_56 : decode cX1_readings 56 = .ok (.iaload, 1) := by decide +kernel
theorem dX1_readings_57 : decode cX1_readings 57 = .ok (.aload_n 0, 1) := by decide +kernel
theorem dX1_readings_58 : decode cX1_readings 58 = .ok (.getfield 15, 3) := by decide +kernel
theorem dX1_readings_61 : decode cX1_readings 61 = .ok (.aload_n 0, 1) := by decide +kernel
theorem dX1_readings_62 : decode cX1_readings 62 = .ok (.getfield 9, 3) := by decide +kernel
theorem dX1_readings_65 : decode cX1_readings 65 = .ok (.iload_n 1, 1) := by decide +kernel
theorem dX1_readings_66 : decode cX1_readings 66 = .ok (.aaload, 1) := by decide +kernel
theorem dX1_readings_67 : decode cX1_readings 67 = .ok (.iconst 2, 1) := by decide +kernel
theorem dX1_readings_68 : decode cX1_readings 68 = .ok (.iaload, 1) := by decide +kernel
theorem dX1_readings_69 : decode cX1_readings 69 = .ok (.iaload, 1) := by decide +kernel
theorem dX1_readings_70 : decode cX1_readings 70 = .ok (.if_icmp .eq 6, 3) := by decide +kernel
theorem dX1_readings_73 : decode cX1_readings 73 = .ok (.goto 34, 3) := by decide +kernel
theorem dX1_readings_76 : decode cX1_readings 76 = .ok (.iload 4, 2) := by decide +kernel
theorem dX1_readings_78 : decode cX1_readings 78 = .ok (.aload_n 0, 1) := by decide +kernel
theorem dX1_readings_79 : decode cX1_readings 79 = .ok (.getfield 9, 3) := by decide +kernel
theorem dX1_readings_82 : decode cX1_readings 82 = .ok (.iload_n 1, 1) := by decide +kernel
theorem dX1_readings_83 : decode cX1_readings 83 = .ok (.aaload, 1) := by decide +kernel
theorem dX1_readings_84 : decode cX1_readings 84 = .ok (.iconst 0, 1) := by decide +kernel
theorem dX1_readings_85 : decode cX1_readings 85 = .ok (.iaload, 1) := by decide +kernel
theorem dX1_readings_86 : decode cX1_readings 86 = .ok (.if_icmp .ne 18, 3) := by decide +kernel
theorem dX1_readings_89 : decode cX1_readings 89 = .ok (.iload 5, 2) := by decide +kernel
theorem dX1_readings_91 : decode cX1_readings 91 = .ok (.aload_n 0, 1) := by decide +kernel
theorem dX1_readings_92 : decode cX1_readings 92 = .ok (.getfield 9, 3) := by decide +kernel
theorem dX1_readings_95 : decode cX1_readings 95 = .ok (.iload_n 1, 1) := by decide +kernel
theorem dX1_readings_96 : decode cX1_readings 96 = .ok (.aaload, 1) := by decide +kernel
theorem dX1_readings_97 : decode cX1_readings 97 = .ok (.iconst 2, 1) := by decide +kernel
theorem dX1_readings_98 : decode cX1_readings 98 = .ok (.iaload, 1) := by decide +kernel
theorem dX1_readings_99 : decode cX1_readings 99 = .ok (.if_icmp .ne 5, 3) := by decide +kernel
theorem dX1_readings_102 : decode cX1_readings 102 = .ok (.iload_n 2, 1) := by decide +kernel
theorem dX1_readings_103 : decode cX1_readings 103 = .ok (.istore_n 3, 1) := by decide +kernel
theorem dX1_readings_104 : decode cX1_readings 104 = .ok (.iinc 2 1, 3) := by decide +kernel
theorem dX1_readings_107 : decode cX1_readings 107 = .ok (.iinc 5 1, 3) := by decide +kernel
theorem dX1_readings_110 : decode cX1_readings 110 = .ok (.goto (-93), 3) := by decide +kernel
theorem dX1_readings_113 : decode cX1_readings 113 = .ok (.iinc 4 1, 3) := by decide +kernel
theorem dX1_readings_116 : decode cX1_readings 116 = .ok (.goto (-108), 3) := by decide +kernel
theorem dX1_readings_119 : decode cX1_readings 119 = .ok (.iconst 2, 1) := by decide +kernel
theorem dX1_readings_120 : decode cX1_readings 120 = .ok (.newarray .int, 2) := by decide +kernel
theorem dX1_readings_122 : decode cX1_readings 122 = .ok (.dup, 1) := by decide +kernel
theorem dX1_readings_123 : decode cX1_readings 123 = .ok (.iconst 0, 1) := by decide +kernel
theorem dX1_readings_124 : decode cX1_readings 124 = .ok (.iload_n 2, 1) := by decide +kernel
theorem dX1_readings_125 : decode cX1_readings 125 = .ok (.iastore, 1) := by decide +kernel
theorem dX1_readings_126 : decode cX1_readings 126 = .ok (.dup, 1) := by decide +kernel
theorem dX1_readings_127 : decode cX1_readings 127 = .ok (.iconst 1, 1) := by decide +kernel
theorem dX1_readings_128 : decode cX1_readings 128 = .ok (.iload_n 3, 1) := by decide +kernel
theorem dX1_readings_129 : decode cX1_readings 129 = .ok (.iastore, 1) := by decide +kernel
theorem dX1_readings_130 : decode cX1_readings 130 = .ok (.areturn, 1) := by decide +kernel
theorem dX1_isOpen_0 : decode cX1_isOpen 0 = .ok (.aload_n 0, 1) := by decide +kernel
theorem dX1_isOpen_1 : decode cX1_isOpen 1 = .ok (.getfield 9, 3) := by decide +kernel
theorem dX1_isOpen_4 : decode cX1_isOpen 4 = .ok (.iload_n 1, 1) := by decide +kernel
theorem dX1_isOpen_5 : decode cX1_isOpen 5 = .ok (.aaload, 1) := by decide +kernel
theorem dX1_isOpen_6 : decode cX1_isOpen 6 = .ok (.iconst 5, 1) := by decide +kernel
theorem dX1_isOpen_7 : decode cX1_isOpen 7 = .ok (.iaload, 1) := by decide +kernel
theorem dX1_isOpen_8 : decode cX1_isOpen 8 = .ok (.ifCond .ne 18, 3) := by decide +kernel
theorem dX1_isOpen_11 : decode cX1_isOpen 11 = .ok (.aload_n 0, 1) := by decide +kernel
theorem dX1_isOpen_12 : decode cX1_isOpen 12 = .ok (.iload_n 1, 1) := by decide +kernel
theorem dX1_isOpen_13 : decode cX1_isOpen 13 = .ok (.invokevirtual 35, 3) := by decide +kernel
theorem dX1_isOpen_16 : decode cX1_isOpen 16 = .ok (.iconst 0, 1) := by decide +kernel
theorem dX1_isOpen_17 : decode cX1_isOpen 17 = .ok (.iaload, 1) := by decide +kernel
theorem dX1_isOpen_18 : decode cX1_isOpen 18 = .ok (.iconst 1, 1) := by decide +kernel
theorem dX1_isOpen_19 : decode cX1_isOpen 19 = .ok (.if_icmp .le 7, 3) := by decide +kernel
theorem dX1_isOpen_22 : decode cX1_isOpen 22 = .ok (.iconst 1, 1) := by decide +kernel
theorem dX1_isOpen_23 : decode cX1_isOpen 23 = .ok (.goto 4, 3) := by decide +kernel
theorem dX1_isOpen_26 : decode cX1_isOpen 26 = .ok (.iconst 0, 1) := by decide +kernel
theorem dX1_isOpen_27 : decode cX1_isOpen 27 = .ok (.ireturn, 1) := by decide +kernel
theorem dX1_open_0 : decode cX1_open 0 = .ok (.iconst 0, 1) := by decide +kernel
theorem dX1_open_1 : decode cX1_open 1 = .ok (.istore_n 1, 1) := by decide +kernel
theorem dX1_open_2 : decode cX1_open 2 = .ok (.iconst 0, 1) := by decide +kernel
theorem dX1_open_3 : decode cX1_open 3 = .ok (.istore_n 2, 1) := by decide +kernel
theorem dX1_open_4 : decode cX1_open 4 = .ok (.iload_n 2, 1) := by decide +kernel
theorem dX1_open_5 : decode cX1_open 5 = .ok (.aload_n 0, 1) := by decide +kernel
theorem dX1_open_6 : decode cX1_open 6 = .ok (.getfield 9, 3) := by decide +kernel
theorem dX1_open_9 : decode cX1_open 9 = .ok (.arraylength, 1) := by decide +kernel
theorem dX1_open_10 : decode cX1_open 10 = .ok (.if_icmp .ge 25, 3) := by decide +kernel
theorem dX1_open_13 : decode cX1_open 13 = .ok (.iload_n 1, 1) := by decide +kernel
theorem dX1_open_14 : decode cX1_open 14 = .ok (.aload_n 0, 1) := by decide +kernel
theorem dX1_open_15 : decode cX1_open 15 = .ok (.iload_n 2, 1) := by decide +kernel
theorem dX1_open_16 : decode cX1_open 16 = .ok (.invokevirtual 39, 3) := by decide +kernel
theorem dX1_open_19 : decode cX1_open 19 = .ok (.ifCond .eq 7, 3) := by decide +kernel
theorem dX1_open_22 : decode cX1_open 22 = .ok (.iconst 1, 1) := by decide +kernel
theorem dX1_open_23 : decode cX1_open 23 = .ok (.goto 4, 3) := by decide +kernel
theorem dX1_open_26 : decode cX1_open 26 = .ok (.iconst 0, 1) := by decide +kernel
theorem dX1_open_27 : decode cX1_open 27 = .ok (.iadd, 1) := by decide +kernel
theorem dX1_open_28 : decode cX1_open 28 = .ok (.istore_n 1, 1) := by decide +kernel
theorem dX1_open_29 : decode cX1_open 29 = .ok (.iinc 2 1, 3) := by decide +kernel
theorem dX1_open_32 : decode cX1_open 32 = .ok (.goto (-28), 3) := by decide +kernel
theorem dX1_open_35 : decode cX1_open 35 = .ok (.iload_n 1, 1) := by decide +kernel
theorem dX1_open_36 : decode cX1_open 36 = .ok (.ireturn, 1) := by decide +kernel
theorem dX1_ways_0 : decode cX1_ways 0 = .ok (.lconst 1, 1) := by decide +kernel
theorem dX1_ways_1 : decode cX1_ways 1 = .ok (.lstore_n 1, 1) := by decide +kernel
theorem dX1_ways_2 : decode cX1_ways 2 = .ok (.iconst 0, 1) := by decide +kernel
theorem dX1_ways_3 : decode cX1_ways 3 = .ok (.istore_n 3, 1) := by decide +kernel
theorem dX1_ways_4 : decode cX1_ways 4 = .ok (.iload_n 3, 1) := by decide +kernel
theorem dX1_ways_5 : decode cX1_ways 5 = .ok (.aload_n 0, 1) := by decide +kernel
theorem dX1_ways_6 : decode cX1_ways 6 = .ok (.getfield 9, 3) := by decide +kernel
theorem dX1_ways_9 : decode cX1_ways 9 = .ok (.arraylength, 1) := by decide +kernel
theorem dX1_ways_10 : decode cX1_ways 10 = .ok (.if_icmp .ge 43, 3) := by decide +kernel
theorem dX1_ways_13 : decode cX1_ways 13 = .ok (.aload_n 0, 1) := by decide +kernel
theorem dX1_ways_14 : decode cX1_ways 14 = .ok (.iload_n 3, 1) := by decide +kernel
theorem dX1_ways_15 : decode cX1_ways 15 = .ok (.invokevirtual 39, 3) := by decide +kernel
theorem dX1_ways_18 : decode cX1_ways 18 = .ok (.ifCond .ne 6, 3) := by decide +kernel
theorem dX1_ways_21 : decode cX1_ways 21 = .ok (.goto 26, 3) := by decide +kernel
theorem dX1_ways_24 : decode cX1_ways 24 = .ok (.lload_n 1, 1) := by decide +kernel
theorem dX1_ways_25 : decode cX1_ways 25 = .ok (.aload_n 0, 1) := by decide +kernel
theorem dX1_ways_26 : decode cX1_ways 26 = .ok (.iload_n 3, 1) := by decide +kernel
theorem dX1_ways_27 : decode cX1_ways 27 = .ok (.invokevirtual 35, 3) := by decide +kernel
theorem dX1_ways_30 : decode cX1_ways 30 = .ok (.iconst 0, 1) := by decide +kernel
theorem dX1_ways_31 : decode cX1_ways 31 = .ok (.iaload, 1) := by decide +kernel
theorem dX1_ways_32 : decode cX1_ways 32 = .ok (.i2l, 1) := by decide +kernel
theorem dX1_ways_33 : decode cX1_ways 33 = .ok (.lmul, 1) := by decide +kernel
theorem dX1_ways_34 : decode cX1_ways 34 = .ok (.lstore_n 1, 1) := by decide +kernel
theorem dX1_ways_35 : decode cX1_ways 35 = .ok (.lload_n 1, 1) := by decide +kernel
theorem dX1_ways_36 : decode cX1_ways 36 = .ok (.ldc2_w 43, 3) := by decide +kernel
theorem dX1_ways_39 : decode cX1_ways 39 = .ok (.lcmp, 1) := by decide +kernel
theorem dX1_ways_40 : decode cX1_ways 40 = .ok (.ifCond .le 7, 3) := by decide +kernel
theorem dX1_ways_43 : decode cX1_ways 43 = .ok (.ldc2_w 43, 3) := by decide +kernel
theorem dX1_ways_46 : decode cX1_ways 46 = .ok (.lstore_n 1, 1) := by decide +kernel
theorem dX1_ways_47 : decode cX1_ways 47 = .ok (.iinc 3 1, 3) := by decide +kernel
theorem dX1_ways_50 : decode cX1_ways 50 = .ok (.goto (-46), 3) := by decide +kernel
theorem dX1_ways_53 : decode cX1_ways 53 = .ok (.lload_n 1, 1) := by decide +kernel
theorem dX1_ways_54 : decode cX1_ways 54 = .ok (.lreturn, 1) := by decide +kernel
theorem dX1_openBy_0 : decode cX1_openBy 0 = .ok (.aload_n 0, 1) := by decide +kernel
theorem dX1_openBy_1 : decode cX1_openBy 1 = .ok (.invokevirtual 45, 3) := by decide +kernel
theorem dX1_openBy_4 : decode cX1_openBy 4 = .ok (.astore_n 2, 1) := by decide +kernel
theorem dX1_openBy_5 : decode cX1_openBy 5 = .ok (.aload_n 2, 1) := by decide +kernel
theorem dX1_openBy_6 : decode cX1_openBy 6 = .ok (.iload_n 1, 1) := by decide +kernel
theorem dX1_openBy_7 : decode cX1_openBy 7 = .ok (.putfield 18, 3) := by decide +kernel
theorem dX1_openBy_10 : decode cX1_openBy 10 = .ok (.aload_n 2, 1) := by decide +kernel
theorem dX1_openBy_11 : decode cX1_openBy 11 = .ok (.iconst 1, 1) := by decide +kernel
theorem dX1_openBy_12 : decode cX1_openBy 12 = .ok (.invokevirtual 49, 3) := by decide +kernel
theorem dX1_openBy_15 : decode cX1_openBy 15 = .ok (.aload_n 2, 1) := by decide +kernel
theorem dX1_openBy_16 : decode cX1_openBy 16 = .ok (.invokevirtual 53, 3) := by decide +kernel
theorem dX1_openBy_19 : decode cX1_openBy 19 = .ok (.ireturn, 1) := by decide +kernel
theorem dX1_isSame_0 : decode cX1_isSame 0 = .ok (.aload_n 0, 1) := by decide +kernel
theorem dX1_isSame_1 : decode cX1_isSame 1 = .ok (.getfield 9, 3) := by decide +kernel
theorem dX1_isSame_4 : decode cX1_isSame 4 = .ok (.arraylength, 1) := by decide +kernel
theorem dX1_isSame_5 : decode cX1_isSame 5 = .ok (.istore_n 2, 1) := by decide +kernel
theorem dX1_isSame_6 : decode cX1_isSame 6 = .ok (.iload_n 2, 1) := by decide +kernel
theorem dX1_isSame_7 : decode cX1_isSame 7 = .ok (.iconst 1, 1) := by decide +kernel
theorem dX1_isSame_8 : decode cX1_isSame 8 = .ok (.iadd, 1) := by decide +kernel
theorem dX1_isSame_9 : decode cX1_isSame 9 = .ok (.newarray .int, 2) := by decide +kernel
theorem dX1_isSame_11 : decode cX1_isSame 11 = .ok (.astore_n 3, 1) := by decide +kernel
theorem dX1_isSame_12 : decode cX1_isSame 12 = .ok (.iload_n 2, 1) := by decide +kernel
theorem dX1_isSame_13 : decode cX1_isSame 13 = .ok (.iconst 1, 1) := by decide +kernel
theorem dX1_isSame_14 : decode cX1_isSame 14 = .ok (.iadd, 1) := by decide +kernel
theorem dX1_isSame_15 : decode cX1_isSame 15 = .ok (.newarray .int, 2) := by decide +kernel
theorem dX1_isSame_17 : decode cX1_isSame 17 = .ok (.astore 4, 2) := by decide +kernel
theorem dX1_isSame_19 : decode cX1_isSame 19 = .ok (.iconst 0, 1) := by decide +kernel
theorem dX1_isSame_20 : decode cX1_isSame 20 = .ok (.istore 5, 2) := by decide +kernel
theorem dX1_isSame_22 : decode cX1_isSame 22 = .ok (.iconst 0, 1) := by decide +kernel
theorem dX1_isSame_23 : decode cX1_isSame 23 = .ok (.istore 6, 2) := by decide +kernel
theorem dX1_isSame_25 : decode cX1_isSame 25 = .ok (.iconst 0, 1) := by decide +kernel
theorem dX1_isSame_26 : decode cX1_isSame 26 = .ok (.istore 7, 2) := by decide +kernel
theorem dX1_isSame_28 : decode cX1_isSame 28 = .ok (.iconst 0, 1) := by decide +kernel
theorem dX1_isSame_29 : decode cX1_isSame 29 = .ok (.istore 8, 2) := by decide +kernel
theorem dX1_isSame_31 : decode cX1_isSame 31 = .ok (.bipush 99, 2) := by decide +kernel
theorem dX1_isSame_33 : decode cX1_isSame 33 = .ok (.istore 9, 2) := by decide +kernel
theorem dX1_isSame_35 : decode cX1_isSame 35 = .ok (.iconst 0, 1) := by decide +kernel
theorem dX1_isSame_36 : decode cX1_isSame 36 = .ok (.istore 10, 2) := by decide +kernel
theorem dX1_isSame_38 : decode cX1_isSame 38 = .ok (.iconst 0, 1) := by decide +kernel
theorem dX1_isSame_39 : decode cX1_isSame 39 = .ok (.istore 11, 2) := by decide +kernel
theorem dX1_isSame_41 : decode cX1_isSame 41 = .ok (.iconst (-1), 1) := by decide +kernel
theorem dX1_isSame_42 : decode cX1_isSame 42 = .ok (.istore 12, 2) := by decide +kernel
theorem dX1_isSame_44 : decode cX1_isSame 44 = .ok (.bipush 10, 2) := by decide +kernel
theorem dX1_isSame_46 : decode cX1_isSame 46 = .ok (.newarray .int, 2) := by decide +kernel
theorem dX1_isSame_48 : decode cX1_isSame 48 = .ok (.astore 13, 2) := by decide +kernel
theorem dX1_isSame_50 : decode cX1_isSame 50 = .ok (.iconst 0, 1) := by decide +kernel
theorem dX1_isSame_51 : decode cX1_isSame 51 = .ok (.istore 14, 2) := by decide +kernel
theorem dX1_isSame_53 : decode cX1_isSame 53 = .ok (.iload 14, 2) := by decide +kernel
theorem dX1_isSame_55 : decode cX1_isSame 55 = .ok (.iload_n 2, 1) := by decide +kernel
theorem dX1_isSame_56 : decode cX1_isSame 56 = .ok (.if_icmp .ge 471, 3) := by decide +kernel
theorem dX1_isSame_59 : decode cX1_isSame 59 = .ok (.aload_n 0, 1) := by decide +kernel
theorem dX1_isSame_60 : decode cX1_isSame 60 = .ok (.getfield 9, 3) := by decide +kernel
theorem dX1_isSame_63 : decode cX1_isSame 63 = .ok (.iload 14, 2) := by decide +kernel
theorem dX1_isSame_65 : decode cX1_isSame 65 = .ok (.aaload, 1) := by decide +kernel
theorem dX1_isSame_66 : decode cX1_isSame 66 = .ok (.astore 15, 2) := by decide +kernel
theorem dX1_isSame_68 : decode cX1_isSame 68 = .ok (.aload_n 0, 1) := by decide +kernel
theorem dX1_isSame_69 : decode cX1_isSame 69 = .ok (.iload 14, 2) := by decide +kernel
theorem dX1_isSame_71 : decode cX1_isSame 71 = .ok (.invokevirtual 35, 3) := by decide +kernel
theorem dX1_isSame_74 : decode cX1_isSame 74 = .ok (.astore 16, 2) := by decide +kernel
theorem dX1_isSame_76 : decode cX1_isSame 76 = .ok (.iload 5, 2) := by decide +kernel
theorem dX1_isSame_78 : decode cX1_isSame 78 = .ok (.aload 15, 2) := by decide +kernel
theorem dX1_isSame_80 : decode cX1_isSame 80 = .ok (.iconst 0, 1) := by decide +kernel
theorem dX1_isSame_81 : decode cX1_isSame 81 = .ok (.iaload, 1) := by decide +kernel
theorem dX1_isSame_82 : decode cX1_isSame 82 = .ok (.iadd, 1) := by decide +kernel
theorem dX1_isSame_83 : decode cX1_isSame 83 = .ok (.bipush 8, 2) := by decide +kernel
theorem dX1_isSame_85 : decode cX1_isSame 85 = .ok (.iadd, 1) := by decide +kernel
theorem dX1_isSame_86 : decode cX1_isSame 86 = .ok (.bipush 8, 2) := by decide +kernel
theorem dX1_isSame_88 : decode cX1_isSame 88 = .ok (.irem, 1) := by decide +kernel
theorem dX1_isSame_89 : decode cX1_isSame 89 = .ok (.istore 5, 2) := by decide +kernel
theorem dX1_isSame_91 : decode cX1_isSame 91 = .ok (.aload_n 3, 1) := by decide +kernel
theorem dX1_isSame_92 : decode cX1_isSame 92 = .ok (.iload 14, 2) := by decide +kernel
theorem dX1_isSame_94 : decode cX1_isSame 94 = .ok (.iconst 1, 1) := by decide +kernel
theorem dX1_isSame_95 : decode cX1_isSame 95 = .ok (.iadd, 1) := by decide +kernel
theorem dX1_isSame_96 : decode cX1_isSame 96 = .ok (.aload_n 3, 1) := by decide +kernel
theorem dX1_isSame_97 : decode cX1_isSame 97 = .ok (.iload 14, 2) := by decide +kernel
theorem dX1_isSame_99 : decode cX1_isSame 99 = .ok (.iaload, 1) := by decide +kernel
theorem dX1_isSame_100 : decode cX1_isSame 100 = .ok (.iastore, 1) := by decide +kernel
theorem dX1_isSame_101 : decode cX1_isSame 101 = .ok (.aload 4, 2) := by decide +kernel
theorem dX1_isSame_103 : decode cX1_isSame 103 = .ok (.iload 14, 2) := by decide +kernel
theorem dX1_isSame_105 : decode cX1_isSame 105 = .ok (.iconst 1, 1) := by decide +kernel
theorem dX1_isSame_106 : decode cX1_isSame 106 = .ok (.iadd, 1) := by decide +kernel
theorem dX1_isSame_107 : decode cX1_isSame 107 = .ok (.aload 4, 2) := by decide +kernel
theorem dX1_isSame_109 : decode cX1_isSame 109 = .ok (.iload 14, 2) := by decide +kernel
theorem dX1_isSame_111 : decode cX1_isSame 111 = .ok (.iaload, 1) := by decide +kernel
theorem dX1_isSame_112 : decode cX1_isSame 112 = .ok (.iastore, 1) := by decide +kernel
theorem dX1_isSame_113 : decode cX1_isSame 113 = .ok (.iconst 0, 1) := by decide +kernel
theorem dX1_isSame_114 : decode cX1_isSame 114 = .ok (.istore 17, 2) := by decide +kernel
theorem dX1_isSame_116 : decode cX1_isSame 116 = .ok (.iload 17, 2) := by decide +kernel
theorem dX1_isSame_118 : decode cX1_isSame 118 = .ok (.aload 15, 2) := by decide +kernel
theorem dX1_isSame_120 : decode cX1_isSame 120 = .ok (.iconst 1, 1) := by decide +kernel
theorem dX1_isSame_121 : decode cX1_isSame 121 = .ok (.iaload, 1) := by decide +kernel
theorem dX1_isSame_122 : decode cX1_isSame 122 = .ok (.if_icmp .ge 89, 3) := by decide +kernel
theorem dX1_isSame_125 : decode cX1_isSame 125 = .ok (.aload_n 3, 1) := by decide +kernel
theorem dX1_isSame_126 : decode cX1_isSame 126 = .ok (.iload 14, 2) := by decide +kernel
theorem dX1_isSame_128 : decode cX1_isSame 128 = .ok (.iconst 1, 1) := by decide +kernel
theorem dX1_isSame_129 : decode cX1_isSame 129 = .ok (.iadd, 1) := by decide +kernel
theorem dX1_isSame_130 : decode cX1_isSame 130 = .ok (.dup2, 1) := by decide +kernel
theorem dX1_isSame_131 : decode cX1_isSame 131 = .ok (.iaload, 1) := by decide +kernel
theorem dX1_isSame_132 : decode cX1_isSame 132 = .ok (.iload 5, 2) := by decide +kernel
theorem dX1_isSame_134 : decode cX1_isSame 134 = .ok (.ifCond .le 13, 3) := by decide +kernel
theorem dX1_isSame_137 : decode cX1_isSame 137 = .ok (.iload 5, 2) := by decide +kernel
theorem dX1_isSame_139 : decode cX1_isSame 139 = .ok (.iconst 4, 1) := by decide +kernel
theorem dX1_isSame_140 : decode cX1_isSame 140 = .ok (.if_icmp .ge 7, 3) := by decide +kernel
theorem dX1_isSame_143 : decode cX1_isSame 143 = .ok (.iconst 1, 1) := by decide +kernel
theorem dX1_isSame_144 : decode cX1_isSame 144 = .ok (.goto 14, 3) := by decide +kernel
theorem dX1_isSame_147 : decode cX1_isSame 147 = .ok (.iload 5, 2) := by decide +kernel
theorem dX1_isSame_149 : decode cX1_isSame 149 = .ok (.iconst 4, 1) := by decide +kernel
theorem dX1_isSame_150 : decode cX1_isSame 150 = .ok (.if_icmp .le 7, 3) := by decide +kernel
theorem dX1_isSame_153 : decode cX1_isSame 153 = .ok (.iconst (-1), 1) := by decide +kernel
theorem dX1_isSame_154 : decode cX1_isSame 154 = .ok (.goto 4, 3) := by decide +kernel
theorem dX1_isSame_157 : decode cX1_isSame 157 = .ok (.iconst 0, 1) := by decide +kernel
theorem dX1_isSame_158 : decode cX1_isSame 158 = .ok (.iadd, 1) := by decide +kernel
theorem dX1_isSame_159 : decode cX1_isSame 159 = .ok (.iastore, 1) := by decide +kernel
theorem dX1_isSame_160 : decode cX1_isSame 160 = .ok (.aload 4, 2) := by decide +kernel
theorem dX1_isSame_162 : decode cX1_isSame 162 = .ok (.iload 14, 2) := by decide +kernel
theorem dX1_isSame_164 : decode cX1_isSame 164 = .ok (.iconst 1, 1) := by decide +kernel
theorem dX1_isSame_165 : decode cX1_isSame 165 = .ok (.iadd, 1) := by decide +kernel
theorem dX1_isSame_166 : decode cX1_isSame 166 = .ok (.dup2, 1) := by decide +kernel
theorem dX1_isSame_167 : decode cX1_isSame 167 = .ok (.iaload, 1) := by decide +kernel
theorem dX1_isSame_168 : decode cX1_isSame 168 = .ok (.iload 5, 2) := by decide +kernel
theorem dX1_isSame_170 : decode cX1_isSame 170 = .ok (.iconst 2, 1) := by decide +kernel
theorem dX1_isSame_171 : decode cX1_isSame 171 = .ok (.if_icmp .lt 10, 3) := by decide +kernel
theorem dX1_isSame_174 : decode cX1_isSame 174 = .ok (.iload 5, 2) := by decide +kernel
theorem dX1_isSame_176 : decode cX1_isSame 176 = .ok (.bipush 7, 2) := by decide +kernel
theorem dX1_isSame_178 : decode cX1_isSame 178 = .ok (.if_icmp .ne 7, 3) := by decide +kernel
theorem dX1_isSame_181 : decode cX1_isSame 181 = .ok (.iconst 1, 1) := by decide +kernel
theorem dX1_isSame_182 : decode cX1_isSame 182 = .ok (.goto 21, 3) := by decide +kernel
theorem dX1_isSame_185 : decode cX1_isSame 185 = .ok (.iload 5, 2) := by decide +kernel
theorem dX1_isSame_187 : decode cX1_isSame 187 = .ok (.iconst 2, 1) := by decide +kernel
theorem dX1_isSame_188 : decode cX1_isSame 188 = .ok (.if_icmp .le 14, 3) := by decide +kernel
theorem dX1_isSame_191 : decode cX1_isSame 191 = .ok (.iload 5, 2) := by decide +kernel
theorem dX1_isSame_193 : decode cX1_isSame 193 = .ok (.bipush 6, 2) := by decide +kernel
theorem dX1_isSame_195 : decode cX1_isSame 195 = .ok (.if_icmp .ge 7, 3) := by decide +kernel
theorem dX1_isSame_198 : decode cX1_isSame 198 = .ok (.iconst (-1), 1) := by decide +kernel
theorem dX1_isSame_199 : decode cX1_isSame 199 = .ok (.goto 4, 3) := by decide +kernel
theorem dX1_isSame_202 : decode cX1_isSame 202 = .ok (.iconst 0, 1) := by decide +kernel
theorem dX1_isSame_203 : decode cX1_isSame 203 = .ok (.iadd, 1) := by decide +kernel
theorem dX1_isSame_204 : decode cX1_isSame 204 = .ok (.iastore, 1) := by decide +kernel
theorem dX1_isSame_205 : decode cX1_isSame 205 = .ok (.iinc 17 1, 3) := by decide +kernel
theorem dX1_isSame_208 : decode cX1_isSame 208 = .ok (.goto (-92), 3) := by decide +kernel
theorem dX1_isSame_211 : decode cX1_isSame 211 = .ok (.iconst 0, 1) := by decide +kernel
theorem dX1_isSame_212 : decode cX1_isSame 212 = .ok (.istore 17, 2) := by decide +kernel
theorem dX1_isSame_214 : decode cX1_isSame 214 = .ok (.iconst 0, 1) := by decide +kernel
theorem dX1_isSame_215 : decode cX1_isSame 215 = .ok (.istore 18, 2) := by decide +kernel
theorem dX1_isSame_217 : decode cX1_isSame 217 = .ok (.iload 18, 2) := by decide +kernel
theorem dX1_isSame_219 : decode cX1_isSame 219 = .ok (.iload 14, 2) := by decide +kernel
theorem dX1_isSame_221 : decode cX1_isSame 221 = .ok (.if_icmp .gt 47, 3) := by decide +kernel
theorem dX1_isSame_224 : decode cX1_isSame 224 = .ok (.iload 17, 2) := by decide +kernel
theorem dX1_isSame_226 : decode cX1_isSame 226 = .ok (.aload_n 3, 1) := by decide +kernel
theorem dX1_isSame_227 : decode cX1_isSame 227 = .ok (.iload 18, 2) := by decide +kernel
theorem dX1_isSame_229 : decode cX1_isSame 229 = .ok (.iaload, 1) := by decide +kernel
theorem dX1_isSame_230 : decode cX1_isSame 230 = .ok (.aload_n 3, 1) := by decide +kernel
theorem dX1_isSame_231 : decode cX1_isSame 231 = .ok (.iload 14, 2) := by decide +kernel
theorem dX1_isSame_233 : decode cX1_isSame 233 = .ok (.iconst 1, 1) := by decide +kernel
theorem dX1_isSame_234 : decode cX1_isSame 234 = .ok (.iadd, 1) := by decide +kernel
theorem dX1_isSame_235 : decode cX1_isSame 235 = .ok (.iaload, 1) := by decide +kernel
theorem dX1_isSame_236 : decode cX1_isSame 236 = .ok (.if_icmp .ne 22, 3) := by decide +kernel
theorem dX1_isSame_239 : decode cX1_isSame 239 = .ok (.aload 4, 2) := by decide +kernel
theorem dX1_isSame_241 : decode cX1_isSame 241 = .ok (.iload 18, 2) := by decide +kernel
theorem dX1_isSame_243 : decode cX1_isSame 243 = .ok (.iaload, 1) := by decide +kernel
theorem dX1_isSame_244 : decode cX1_isSame 244 = .ok (.aload 4, 2) := by decide +kernel
theorem dX1_isSame_246 : decode cX1_isSame 246 = .ok (.iload 14, 2) := by decide +kernel
theorem dX1_isSame_248 : decode cX1_isSame 248 = .ok (.iconst 1, 1) := by decide +kernel
theorem dX1_isSame_249 : decode cX1_isSame 249 = .ok (.iadd, 1) := by decide +kernel
theorem dX1_isSame_250 : decode cX1_isSame 250 = .ok (.iaload, 1) := by decide +kernel
theorem dX1_isSame_251 : decode cX1_isSame 251 = .ok (.if_icmp .ne 7, 3) := by decide +kernel
theorem dX1_isSame_254 : decode cX1_isSame 254 = .ok (.iconst 1, 1) := by decide +kernel
theorem dX1_isSame_255 : decode cX1_isSame 255 = .ok (.goto 4, 3) := by decide +kernel
theorem dX1_isSame_258 : decode cX1_isSame 258 = .ok (.iconst 0, 1) := by decide +kernel
theorem dX1_isSame_259 : decode cX1_isSame 259 = .ok (.ior, 1) := by decide +kernel
theorem dX1_isSame_260 : decode cX1_isSame 260 = .ok (.istore 17, 2) := by decide +kernel
theorem dX1_isSame_262 : decode cX1_isSame 262 = .ok (.iinc 18 1, 3) := by decide +kernel
theorem dX1_isSame_265 : decode cX1_isSame 265 = .ok (.goto (-48), 3) := by decide +kernel
theorem dX1_isSame_268 : decode cX1_isSame 268 = .ok (.iload 8, 2) := by decide +kernel
theorem dX1_isSame_270 : decode cX1_isSame 270 = .ok (.iload 17, 2) := by decide +kernel
theorem dX1_isSame_272 : decode cX1_isSame 272 = .ok (.ifCond .eq 7, 3) := by decide +kernel
theorem dX1_isSame_275 : decode cX1_isSame 275 = .ok (.iconst 1, 1) := by decide +kernel
theorem dX1_isSame_276 : decode cX1_isSame 276 = .ok (.goto 4, 3) := by decide +kernel
theorem dX1_isSame_279 : decode cX1_isSame 279 = .ok (.iconst 0, 1) := by decide +kernel
theorem dX1_isSame_280 : decode cX1_isSame 280 = .ok (.iadd, 1) := by decide +kernel
theorem dX1_isSame_281 : decode cX1_isSame 281 = .ok (.istore 8, 2) := by decide +kernel
theorem dX1_isSame_283 : decode cX1_isSame 283 = .ok (.iload 6, 2) := by decide +kernel
theorem dX1_isSame_285 : decode cX1_isSame 285 = .ok (.aload 15, 2) := by decide +kernel
theorem dX1_isSame_287 : decode cX1_isSame 287 = .ok (.iconst 1, 1) := by decide +kernel
theorem dX1_isSame_288 : decode cX1_isSame 288 = .ok (.iaload, 1) := by decide +kernel
theorem dX1_isSame_289 : decode cX1_isSame 289 = .ok (.iadd, 1) := by decide +kernel
theorem dX1_isSame_290 : decode cX1_isSame 290 = .ok (.istore 6, 2) := by decide +kernel
theorem dX1_isSame_292 : decode cX1_isSame 292 = .ok (.iload 7, 2) := by decide +kernel
theorem dX1_isSame_294 : decode cX1_isSame 294 = .ok (.aload 15, 2) := by decide +kernel
theorem dX1_isSame_296 : decode cX1_isSame 296 = .ok (.iconst 4, 1) := by decide +kernel
theorem dX1_isSame_297 : decode cX1_isSame 297 = .ok (.iaload, 1) := by decide +kernel
theorem dX1_isSame_298 : decode cX1_isSame 298 = .ok (.iadd, 1) := by decide +kernel
theorem dX1_isSame_299 : decode cX1_isSame 299 = .ok (.istore 7, 2) := by decide +kernel
theorem dX1_isSame_301 : decode cX1_isSame 301 = .ok (.iload 9, 2) := by decide +kernel
theorem dX1_isSame_303 : decode cX1_isSame 303 = .ok (.aload 15, 2) := by decide +kernel
theorem dX1_isSame_305 : decode cX1_isSame 305 = .ok (.iconst 3, 1) := by decide +kernel
theorem dX1_isSame_306 : decode cX1_isSame 306 = .ok (.iaload, 1) := by decide +kernel
theorem dX1_isSame_307 : decode cX1_isSame 307 = .ok (.invokestatic 57, 3) := by decide +kernel
theorem dX1_isSame_310 : decode cX1_isSame 310 = .ok (.istore 9, 2) := by decide +kernel
theorem dX1_isSame_312 : decode cX1_isSame 312 = .ok (.iload 10, 2) := by decide +kernel
theorem dX1_isSame_314 : decode cX1_isSame 314 = .ok (.aload 15, 2) := by decide +kernel
theorem dX1_isSame_316 : decode cX1_isSame 316 = .ok (.iconst 3, 1) := by decide +kernel
theorem dX1_isSame_317 : decode cX1_isSame 317 = .ok (.iaload, 1) := by decide +kernel
theorem dX1_isSame_318 : decode cX1_isSame 318 = .ok (.invokestatic 62, 3) := by decide +kernel
theorem dX1_isSame_321 : decode cX1_isSame 321 = .ok (.istore 10, 2) := by decide +kernel
theorem dX1_isSame_323 : decode cX1_isSame 323 = .ok (.iload 11, 2) := by decide +kernel
theorem dX1_isSame_325 : decode cX1_isSame 325 = .ok (.aload 15, 2) := by decide +kernel
theorem dX1_isSame_327 : decode cX1_isSame 327 = .ok (.iconst 3, 1) := by decide +kernel
theorem dX1_isSame_328 : decode cX1_isSame 328 = .ok (.iaload, 1) := by decide +kernel
theorem dX1_isSame_329 : decode cX1_isSame 329 = .ok (.iadd, 1) := by decide +kernel
theorem dX1_isSame_330 : decode cX1_isSame 330 = .ok (.istore 11, 2) := by decide +kernel
theorem dX1_isSame_332 : decode cX1_isSame 332 = .ok (.aload 13, 2) := by decide +kernel
theorem dX1_isSame_334 : decode cX1_isSame 334 = .ok (.aload_n 0, 1) := by decide +kernel
theorem dX1_isSame_335 : decode cX1_isSame 335 = .ok (.getfield 15, 3) := by decide +kernel
theorem dX1_isSame_338 : decode cX1_isSame 338 = .ok (.aload 15, 2) := by decide +kernel
theorem dX1_isSame_340 : decode cX1_isSame 340 = .ok (.iconst 2, 1) := by decide +kernel
theorem dX1_isSame_341 : decode cX1_isSame 341 = .ok (.iaload, 1) := by decide +kernel
theorem dX1_isSame_342 : decode cX1_isSame 342 = .ok (.iaload, 1) := by decide +kernel
theorem dX1_isSame_343 : decode cX1_isSame 343 = .ok (.dup2, 1) := by decide +kernel
theorem dX1_isSame_344 : decode cX1_isSame 344 = .ok (.iaload, 1) := by decide +kernel
theorem dX1_isSame_345 : decode cX1_isSame 345 = .ok (.iconst 1, 1) := by decide +kernel
theorem dX1_isSame_346 : decode cX1_isSame 346 = .ok (.iadd, 1) := by decide +kernel
theorem dX1_isSame_347 : decode cX1_isSame 347 = .ok (.iastore, 1) := by decide +kernel
theorem dX1_isSame_348 : decode cX1_isSame 348 = .ok (.iload 12, 2) := by decide +kernel
theorem dX1_isSame_350 : decode cX1_isSame 350 = .ok (.ifCond .ge 16, 3) := by decide +kernel
theorem dX1_isSame_353 : decode cX1_isSame 353 = .ok (.aload_n 0, 1) := by decide +kernel
theorem dX1_isSame_354 : decode cX1_isSame 354 = .ok (.iload 14, 2) := by decide +kernel
theorem dX1_isSame_356 : decode cX1_isSame 356 = .ok (.invokevirtual 39, 3) := by decide +kernel
theorem dX1_isSame_359 : decode cX1_isSame 359 = .ok (.ifCond .eq 7, 3) := by decide +kernel
theorem dX1_isSame_362 : decode cX1_isSame 362 = .ok (.iload 14, 2) := by decide +kernel
theorem dX1_isSame_364 : decode cX1_isSame 364 = .ok (.istore 12, 2) := by decide +kernel
theorem dX1_isSame_366 : decode cX1_isSame 366 = .ok (.aload_n 1, 1) := by decide +kernel
theorem dX1_isSame_367 : decode cX1_isSame 367 = .ok (.iload 14, 2) := by decide +kernel
theorem dX1_isSame_369 : decode cX1_isSame 369 = .ok (.invokevirtual 65, 3) := by decide +kernel
theorem dX1_isSame_372 : decode cX1_isSame 372 = .ok (.aload 15, 2) := by decide +kernel
theorem dX1_isSame_374 : decode cX1_isSame 374 = .ok (.iconst 0, 1) := by decide +kernel
theorem dX1_isSame_375 : decode cX1_isSame 375 = .ok (.iaload, 1) := by decide +kernel
theorem dX1_isSame_376 : decode cX1_isSame 376 = .ok (.if_icmp .ne 143, 3) := by decide +kernel
theorem dX1_isSame_379 : decode cX1_isSame 379 = .ok (.aload_n 1, 1) := by decide +kernel
theorem dX1_isSame_380 : decode cX1_isSame 380 = .ok (.iload 14, 2) := by decide +kernel
theorem dX1_isSame_382 : decode cX1_isSame 382 = .ok (.invokevirtual 70, 3) := by decide +kernel
theorem dX1_isSame_385 : decode cX1_isSame 385 = .ok (.iload 5, 2) := by decide +kernel
theorem dX1_isSame_387 : decode cX1_isSame 387 = .ok (.if_icmp .ne 132, 3) := by decide +kernel
theorem dX1_isSame_390 : decode cX1_isSame 390 = .ok (.aload_n 1, 1) := by decide +kernel
theorem dX1_isSame_391 : decode cX1_isSame 391 = .ok (.iload 14, 2) := by decide +kernel
theorem dX1_isSame_393 : decode cX1_isSame 393 = .ok (.invokevirtual 73, 3) := by decide +kernel
theorem dX1_isSame_396 : decode cX1_isSame 396 = .ok (.aload 15, 2) := by decide +kernel
theorem dX1_isSame_398 : decode cX1_isSame 398 = .ok (.iconst 2, 1) := by decide +kernel
theorem dX1_isSame_399 : decode cX1_isSame 399 = .ok (.iaload, 1) := by decide +kernel
theorem dX1_isSame_400 : decode cX1_isSame 400 = .ok (.if_icmp .ne 119, 3) := by decide +kernel
theorem dX1_isSame_403 : decode cX1_isSame 403 = .ok (.aload_n 1, 1) := by decide +kernel
theorem dX1_isSame_404 : decode cX1_isSame 404 = .ok (.iload 14, 2) := by decide +kernel
theorem dX1_isSame_406 : decode cX1_isSame 406 = .ok (.invokevirtual 76, 3) := by decide +kernel
theorem dX1_isSame_409 : decode cX1_isSame 409 = .ok (.aload 15, 2) := by decide +kernel
theorem dX1_isSame_411 : decode cX1_isSame 411 = .ok (.iconst 3, 1) := by decide +kernel
theorem dX1_isSame_412 : decode cX1_isSame 412 = .ok (.iaload, 1) := by decide +kernel
theorem dX1_isSame_413 : decode cX1_isSame 413 = .ok (.if_icmp .ne 106, 3) := by decide +kernel
theorem dX1_isSame_416 : decode cX1_isSame 416 = .ok (.aload_n 1, 1) := by decide +kernel
theorem dX1_isSame_417 : decode cX1_isSame 417 = .ok (.iload 14, 2) := by decide +kernel
theorem dX1_isSame_419 : decode cX1_isSame 419 = .ok (.invokevirtual 79, 3) := by decide +kernel
theorem dX1_isSame_422 : decode cX1_isSame 422 = .ok (.aload 15, 2) := by decide +kernel
theorem dX1_isSame_424 : decode cX1_isSame 424 = .ok (.iconst 4, 1) := by decide +kernel
theorem dX1_isSame_425 : decode cX1_isSame 425 = .ok (.iaload, 1) := by decide +kernel
theorem dX1_isSame_426 : decode cX1_isSame 426 = .ok (.iconst 1, 1) := by decide +kernel
theorem dX1_isSame_427 : decode cX1_isSame 427 = .ok (.if_icmp .ne 7, 3) := by decide +kernel
theorem dX1_isSame_430 : decode cX1_isSame 430 = .ok (.iconst 1, 1) := by decide +kernel
theorem dX1_isSame_431 : decode cX1_isSame 431 = .ok (.goto 4, 3) := by decide +kernel
theorem dX1_isSame_434 : decode cX1_isSame 434 = .ok (.iconst 0, 1) := by decide +kernel
theorem dX1_isSame_435 : decode cX1_isSame 435 = .ok (.if_icmp .ne 84, 3) := by decide +kernel
theorem dX1_isSame_438 : decode cX1_isSame 438 = .ok (.aload_n 1, 1) := by decide +kernel
theorem dX1_isSame_439 : decode cX1_isSame 439 = .ok (.iload 14, 2) := by decide +kernel
theorem dX1_isSame_441 : decode cX1_isSame 441 = .ok (.invokevirtual 82, 3) := by decide +kernel
theorem dX1_isSame_444 : decode cX1_isSame 444 = .ok (.aload_n 0, 1) := by decide +kernel
theorem dX1_isSame_445 : decode cX1_isSame 445 = .ok (.getfield 15, 3) := by decide +kernel
theorem dX1_isSame_448 : decode cX1_isSame 448 = .ok (.aload 15, 2) := by decide +kernel
theorem dX1_isSame_450 : decode cX1_isSame 450 = .ok (.iconst 2, 1) := by decide +kernel
theorem dX1_isSame_451 : decode cX1_isSame 451 = .ok (.iaload, 1) := by decide +kernel
theorem dX1_isSame_452 : decode cX1_isSame 452 = .ok (.iaload, 1) := by decide +kernel
theorem dX1_isSame_453 : decode cX1_isSame 453 = .ok (.if_icmp .ne 66, 3) := by decide +kernel
theorem dX1_isSame_456 : decode cX1_isSame 456 = .ok (.aload_n 1, 1) := by decide +kernel
theorem dX1_isSame_457 : decode cX1_isSame 457 = .ok (.iload 14, 2) := by decide +kernel
theorem dX1_isSame_459 : decode cX1_isSame 459 = .ok (.invokevirtual 85, 3) := by decide +kernel
theorem dX1_isSame_462 : decode cX1_isSame 462 = .ok (.aload 16, 2) := by decide +kernel
theorem dX1_isSame_464 : decode cX1_isSame 464 = .ok (.iconst 0, 1) := by decide +kernel
theorem dX1_isSame_465 : decode cX1_isSame 465 = .ok (.iaload, 1) := by decide +kernel
theorem dX1_isSame_466 : decode cX1_isSame 466 = .ok (.if_icmp .ne 53, 3) := by decide +kernel
theorem dX1_isSame_469 : decode cX1_isSame 469 = .ok (.aload_n 1, 1) := by decide +kernel
theorem dX1_isSame_470 : decode cX1_isSame 470 = .ok (.iload 14, 2) := by decide +kernel
theorem dX1_isSame_472 : decode cX1_isSame 472 = .ok (.invokevirtual 87, 3) := by decide +kernel
theorem dX1_isSame_475 : decode cX1_isSame 475 = .ok (.aload 16, 2) := by decide +kernel
theorem dX1_isSame_477 : decode cX1_isSame 477 = .ok (.iconst 1, 1) := by decide +kernel
theorem dX1_isSame_478 : decode cX1_isSame 478 = .ok (.iaload, 1) := by decide +kernel
theorem dX1_isSame_479 : decode cX1_isSame 479 = .ok (.if_icmp .ne 40, 3) := by decide +kernel
theorem dX1_isSame_482 : decode cX1_isSame 482 = .ok (.aload_n 1, 1) := by decide +kernel
theorem dX1_isSame_483 : decode cX1_isSame 483 = .ok (.iload 14, 2) := by decide +kernel
theorem dX1_isSame_485 : decode cX1_isSame 485 = .ok (.invokevirtual 90, 3) := by decide +kernel
theorem dX1_isSame_488 : decode cX1_isSame 488 = .ok (.aload_n 0, 1) := by decide +kernel
theorem dX1_isSame_489 : decode cX1_isSame 489 = .ok (.iload 14, 2) := by decide +kernel
theorem dX1_isSame_491 : decode cX1_isSame 491 = .ok (.invokevirtual 39, 3) := by decide +kernel
theorem dX1_isSame_494 : decode cX1_isSame 494 = .ok (.if_icmp .ne 25, 3) := by decide +kernel
theorem dX1_isSame_497 : decode cX1_isSame 497 = .ok (.aload_n 1, 1) := by decide +kernel
theorem dX1_isSame_498 : decode cX1_isSame 498 = .ok (.iload 14, 2) := by decide +kernel
theorem dX1_isSame_500 : decode cX1_isSame 500 = .ok (.invokevirtual 93, 3) := by decide +kernel
theorem dX1_isSame_503 : decode cX1_isSame 503 = .ok (.aload 15, 2) := by decide +kernel
theorem dX1_isSame_505 : decode cX1_isSame 505 = .ok (.iconst 5, 1) := by decide +kernel
theorem dX1_isSame_506 : decode cX1_isSame 506 = .ok (.iaload, 1) := by decide +kernel
theorem dX1_isSame_507 : decode cX1_isSame 507 = .ok (.iconst 1, 1) := by decide +kernel
theorem dX1_isSame_508 : decode cX1_isSame 508 = .ok (.if_icmp .ne 7, 3) := by decide +kernel
theorem dX1_isSame_511 : decode cX1_isSame 511 = .ok (.iconst 1, 1) := by decide +kernel
theorem dX1_isSame_512 : decode cX1_isSame 512 = .ok (.goto 4, 3) := by decide +kernel
theorem dX1_isSame_515 : decode cX1_isSame 515 = .ok (.iconst 0, 1) := by decide +kernel
theorem dX1_isSame_516 : decode cX1_isSame 516 = .ok (.if_icmp .eq 5, 3) := by decide +kernel
theorem dX1_isSame_519 : decode cX1_isSame 519 = .ok (.iconst 0, 1) := by decide +kernel
theorem dX1_isSame_520 : decode cX1_isSame 520 = .ok (.ireturn, 1) := by decide +kernel
theorem dX1_isSame_521 : decode cX1_isSame 521 = .ok (.iinc 14 1, 3) := by decide +kernel
theorem dX1_isSame_524 : decode cX1_isSame 524 = .ok (.goto (-471), 3) := by decide +kernel
theorem dX1_isSame_527 : decode cX1_isSame 527 = .ok (.iconst 0, 1) := by decide +kernel
theorem dX1_isSame_528 : decode cX1_isSame 528 = .ok (.istore 14, 2) := by decide +kernel
theorem dX1_isSame_530 : decode cX1_isSame 530 = .ok (.iload 14, 2) := by decide +kernel
theorem dX1_isSame_532 : decode cX1_isSame 532 = .ok (.bipush 10, 2) := by decide +kernel
theorem dX1_isSame_534 : decode cX1_isSame 534 = .ok (.if_icmp .ge 41, 3) := by decide +kernel
theorem dX1_isSame_537 : decode cX1_isSame 537 = .ok (.aload_n 1, 1) := by decide +kernel
theorem dX1_isSame_538 : decode cX1_isSame 538 = .ok (.iload 14, 2) := by decide +kernel
theorem dX1_isSame_540 : decode cX1_isSame 540 = .ok (.invokevirtual 96, 3) := by decide +kernel
theorem dX1_isSame_543 : decode cX1_isSame 543 = .ok (.aload_n 0, 1) := by decide +kernel
theorem dX1_isSame_544 : decode cX1_isSame 544 = .ok (.getfield 15, 3) := by decide +kernel
theorem dX1_isSame_547 : decode cX1_isSame 547 = .ok (.iload 14, 2) := by decide +kernel
theorem dX1_isSame_549 : decode cX1_isSame 549 = .ok (.iaload, 1) := by decide +kernel
theorem dX1_isSame_550 : decode cX1_isSame 550 = .ok (.if_icmp .ne 17, 3) := by decide +kernel
theorem dX1_isSame_553 : decode cX1_isSame 553 = .ok (.aload_n 1, 1) := by decide +kernel
theorem dX1_isSame_554 : decode cX1_isSame 554 = .ok (.iload 14, 2) := by decide +kernel
theorem dX1_isSame_556 : decode cX1_isSame 556 = .ok (.invokevirtual 99, 3) := by decide +kernel
theorem dX1_isSame_559 : decode cX1_isSame 559 = .ok (.aload 13, 2) := by decide +kernel
theorem dX1_isSame_561 : decode cX1_isSame 561 = .ok (.iload 14, 2) := by decide +kernel
theorem dX1_isSame_563 : decode cX1_isSame 563 = .ok (.iaload, 1) := by decide +kernel
theorem dX1_isSame_564 : decode cX1_isSame 564 = .ok (.if_icmp .eq 5, 3) := by decide +kernel
theorem dX1_isSame_567 : decode cX1_isSame 567 = .ok (.iconst 0, 1) := by decide +kernel
theorem dX1_isSame_568 : decode cX1_isSame 568 = .ok (.ireturn, 1) := by decide +kernel
theorem dX1_isSame_569 : decode cX1_isSame 569 = .ok (.iinc 14 1, 3) := by decide +kernel
theorem dX1_isSame_572 : decode cX1_isSame 572 = .ok (.goto (-42), 3) := by decide +kernel
theorem dX1_isSame_575 : decode cX1_isSame 575 = .ok (.aload_n 1, 1) := by decide +kernel
theorem dX1_isSame_576 : decode cX1_isSame 576 = .ok (.invokevirtual 102, 3) := by decide +kernel
theorem dX1_isSame_579 : decode cX1_isSame 579 = .ok (.iload_n 2, 1) := by decide +kernel
theorem dX1_isSame_580 : decode cX1_isSame 580 = .ok (.if_icmp .ne 163, 3) := by decide +kernel
theorem dX1_isSame_583 : decode cX1_isSame 583 = .ok (.aload_n 1, 1) := by decide +kernel
theorem dX1_isSame_584 : decode cX1_isSame 584 = .ok (.invokevirtual 104, 3) := by decide +kernel
theorem dX1_isSame_587 : decode cX1_isSame 587 = .ok (.aload_n 0, 1) := by decide +kernel
theorem dX1_isSame_588 : decode cX1_isSame 588 = .ok (.getfield 18, 3) := by decide +kernel
theorem dX1_isSame_591 : decode cX1_isSame 591 = .ok (.if_icmp .ne 152, 3) := by decide +kernel
theorem dX1_isSame_594 : decode cX1_isSame 594 = .ok (.aload_n 1, 1) := by decide +kernel
theorem dX1_isSame_595 : decode cX1_isSame 595 = .ok (.invokevirtual 106, 3) := by decide +kernel
theorem dX1_isSame_598 : decode cX1_isSame 598 = .ok (.aload_n 3, 1) := by decide +kernel
theorem dX1_isSame_599 : decode cX1_isSame 599 = .ok (.iload_n 2, 1) := by decide +kernel
theorem dX1_isSame_600 : decode cX1_isSame 600 = .ok (.iaload, 1) := by decide +kernel
theorem dX1_isSame_601 : decode cX1_isSame 601 = .ok (.if_icmp .ne 142, 3) := by decide +kernel
theorem dX1_isSame_604 : decode cX1_isSame 604 = .ok (.aload_n 1, 1) := by decide +kernel
theorem dX1_isSame_605 : decode cX1_isSame 605 = .ok (.invokevirtual 109, 3) := by decide +kernel
theorem dX1_isSame_608 : decode cX1_isSame 608 = .ok (.aload 4, 2) := by decide +kernel
theorem dX1_isSame_610 : decode cX1_isSame 610 = .ok (.iload_n 2, 1) := by decide +kernel
theorem dX1_isSame_611 : decode cX1_isSame 611 = .ok (.iaload, 1) := by decide +kernel
theorem dX1_isSame_612 : decode cX1_isSame 612 = .ok (.if_icmp .ne 131, 3) := by decide +kernel
theorem dX1_isSame_615 : decode cX1_isSame 615 = .ok (.aload_n 1, 1) := by decide +kernel
theorem dX1_isSame_616 : decode cX1_isSame 616 = .ok (.invokevirtual 112, 3) := by decide +kernel
theorem dX1_isSame_619 : decode cX1_isSame 619 = .ok (.aload_n 3, 1) := by decide +kernel
theorem dX1_isSame_620 : decode cX1_isSame 620 = .ok (.iload_n 2, 1) := by decide +kernel
theorem dX1_isSame_621 : decode cX1_isSame 621 = .ok (.iaload, 1) := by decide +kernel
theorem dX1_isSame_622 : decode cX1_isSame 622 = .ok (.invokestatic 115, 3) := by decide +kernel
theorem dX1_isSame_625 : decode cX1_isSame 625 = .ok (.aload 4, 2) := by decide +kernel
theorem dX1_isSame_627 : decode cX1_isSame 627 = .ok (.iload_n 2, 1) := by decide +kernel
theorem dX1_isSame_628 : decode cX1_isSame 628 = .ok (.iaload, 1) := by decide +kernel
theorem dX1_isSame_629 : decode cX1_isSame 629 = .ok (.invokestatic 115, 3) := by decide +kernel
theorem dX1_isSame_632 : decode cX1_isSame 632 = .ok (.invokestatic 62, 3) := by decide +kernel
theorem dX1_isSame_635 : decode cX1_isSame 635 = .ok (.if_icmp .ne 108, 3) := by decide +kernel
theorem dX1_isSame_638 : decode cX1_isSame 638 = .ok (.aload_n 1, 1) := by decide +kernel
theorem dX1_isSame_639 : decode cX1_isSame 639 = .ok (.invokevirtual 118, 3) := by decide +kernel
theorem dX1_isSame_642 : decode cX1_isSame 642 = .ok (.iload 8, 2) := by decide +kernel
theorem dX1_isSame_644 : decode cX1_isSame 644 = .ok (.if_icmp .ne 99, 3) := by decide +kernel
theorem dX1_isSame_647 : decode cX1_isSame 647 = .ok (.aload_n 1, 1) := by decide +kernel
theorem dX1_isSame_648 : decode cX1_isSame 648 = .ok (.invokevirtual 121, 3) := by decide +kernel
theorem dX1_isSame_651 : decode cX1_isSame 651 = .ok (.iload 6, 2) := by decide +kernel
theorem dX1_isSame_653 : decode cX1_isSame 653 = .ok (.if_icmp .ne 90, 3) := by decide +kernel
theorem dX1_isSame_656 : decode cX1_isSame 656 = .ok (.aload_n 1, 1) := by decide +kernel
theorem dX1_isSame_657 : decode cX1_isSame 657 = .ok (.invokevirtual 124, 3) := by decide +kernel
theorem dX1_isSame_660 : decode cX1_isSame 660 = .ok (.iload 7, 2) := by decide +kernel
theorem dX1_isSame_662 : decode cX1_isSame 662 = .ok (.if_icmp .ne 81, 3) := by decide +kernel
theorem dX1_isSame_665 : decode cX1_isSame 665 = .ok (.aload_n 1, 1) := by decide +kernel
theorem dX1_isSame_666 : decode cX1_isSame 666 = .ok (.invokevirtual 127, 3) := by decide +kernel
theorem dX1_isSame_669 : decode cX1_isSame 669 = .ok (.iload_n 2, 1) := by decide +kernel
theorem dX1_isSame_670 : decode cX1_isSame 670 = .ok (.ifCond .ne 7, 3) := by decide +kernel
theorem dX1_isSame_673 : decode cX1_isSame 673 = .ok (.iconst 0, 1) := by decide +kernel
theorem dX1_isSame_674 : decode cX1_isSame 674 = .ok (.goto 8, 3) := by decide +kernel
theorem dX1_isSame_677 : decode cX1_isSame 677 = .ok (.iload 10, 2) := by decide +kernel
theorem dX1_isSame_679 : decode cX1_isSame 679 = .ok (.iload 9, 2) := by decide +kernel
theorem dX1_isSame_681 : decode cX1_isSame 681 = .ok (.isub, 1) := by decide +kernel
theorem dX1_isSame_682 : decode cX1_isSame 682 = .ok (.if_icmp .ne 61, 3) := by decide +kernel
theorem dX1_isSame_685 : decode cX1_isSame 685 = .ok (.aload_n 1, 1) := by decide +kernel
theorem dX1_isSame_686 : decode cX1_isSame 686 = .ok (.invokevirtual 130, 3) := by decide +kernel
theorem dX1_isSame_689 : decode cX1_isSame 689 = .ok (.aload_n 0, 1) := by decide +kernel
theorem dX1_isSame_690 : decode cX1_isSame 690 = .ok (.invokevirtual 53, 3) := by decide +kernel
theorem dX1_isSame_693 : decode cX1_isSame 693 = .ok (.if_icmp .ne 50, 3) := by decide +kernel
theorem dX1_isSame_696 : decode cX1_isSame 696 = .ok (.aload_n 1, 1) := by decide +kernel
theorem dX1_isSame_697 : decode cX1_isSame 697 = .ok (.invokevirtual 133, 3) := by decide +kernel
theorem dX1_isSame_700 : decode cX1_isSame 700 = .ok (.aload_n 0, 1) := by decide +kernel
theorem dX1_isSame_701 : decode cX1_isSame 701 = .ok (.invokevirtual 137, 3) := by decide +kernel
theorem dX1_isSame_704 : decode cX1_isSame 704 = .ok (.lcmp, 1) := by decide +kernel
theorem dX1_isSame_705 : decode cX1_isSame 705 = .ok (.ifCond .ne 38, 3) := by decide +kernel
theorem dX1_isSame_708 : decode cX1_isSame 708 = .ok (.aload_n 1, 1) := by decide +kernel
theorem dX1_isSame_709 : decode cX1_isSame 709 = .ok (.invokevirtual 138, 3) := by decide +kernel
theorem dX1_isSame_712 : decode cX1_isSame 712 = .ok (.iload 12, 2) := by decide +kernel
theorem dX1_isSame_714 : decode cX1_isSame 714 = .ok (.if_icmp .ne 29, 3) := by decide +kernel
theorem dX1_isSame_717 : decode cX1_isSame 717 = .ok (.aload_n 1, 1) := by decide +kernel
theorem dX1_isSame_718 : decode cX1_isSame 718 = .ok (.invokevirtual 141, 3) := by decide +kernel
theorem dX1_isSame_721 : decode cX1_isSame 721 = .ok (.iload_n 2, 1) := by decide +kernel
theorem dX1_isSame_722 : decode cX1_isSame 722 = .ok (.ifCond .ne 7, 3) := by decide +kernel
theorem dX1_isSame_725 : decode cX1_isSame 725 = .ok (.dconst 0, 1) := by decide +kernel
theorem dX1_isSame_726 : decode cX1_isSame 726 = .ok (.goto 9, 3) := by decide +kernel
theorem dX1_isSame_729 : decode cX1_isSame 729 = .ok (.iload 11, 2) := by decide +kernel
theorem dX1_isSame_731 : decode cX1_isSame 731 = .ok (.i2d, 1) := by decide +kernel
theorem dX1_isSame_732 : decode cX1_isSame 732 = .ok (.iload_n 2, 1) := by decide +kernel
theorem dX1_isSame_733 : decode cX1_isSame 733 = .ok (.i2d, 1) := by decide +kernel
theorem dX1_isSame_734 : decode cX1_isSame 734 = .ok (.ddiv, 1) := by decide +kernel
theorem dX1_isSame_735 : decode cX1_isSame 735 = .ok (.dcmp .l, 1) := by decide +kernel
theorem dX1_isSame_736 : decode cX1_isSame 736 = .ok (.ifCond .ne 7, 3) := by decide +kernel
theorem dX1_isSame_739 : decode cX1_isSame 739 = .ok (.iconst 1, 1) := by decide +kernel
theorem dX1_isSame_740 : decode cX1_isSame 740 = .ok (.goto 4, 3) := by decide +kernel
theorem dX1_isSame_743 : decode cX1_isSame 743 = .ok (.iconst 0, 1) := by decide +kernel
theorem dX1_isSame_744 : decode cX1_isSame 744 = .ok (.ireturn, 1) := by decide +kernel
end
section
theorem dJ9_floorMod_7cf53_0 : decode cJ9_floorMod_7cf53 0 = .ok (.iload_n 0, 1) := by decide +kernel
theorem dJ9_floorMod_7cf53_1 : decode cJ9_floorMod_7cf53 1 = .ok (.iload_n 1, 1) := by decide +kernel
theorem dJ9_floorMod_7cf53_2 : decode cJ9_floorMod_7cf53 2 = .ok (.irem, 1) := by decide +kernel
theorem dJ9_floorMod_7cf53_3 : decode cJ9_floorMod_7cf53 3 = .ok (.istore_n 2, 1) := by decide +kernel
theorem dJ9_floorMod_7cf53_4 : decode cJ9_floorMod_7cf53 4 = .ok (.iload_n 0, 1) := by decide +kernel
theorem dJ9_floorMod_7cf53_5 : decode cJ9_floorMod_7cf53 5 = .ok (.iload_n 1, 1) := by decide +kernel
theorem dJ9_floorMod_7cf53_6 : decode cJ9_floorMod_7cf53 6 = .ok (.ixor, 1) := by decide +kernel
theorem dJ9_floorMod_7cf53_7 : decode cJ9_floorMod_7cf53 7 = .ok (.ifCond .ge 11, 3) := by decide +kernel
theorem dJ9_floorMod_7cf53_10 : decode cJ9_floorMod_7cf53 10 = .ok (.iload_n 2, 1) := by decide +kernel
theorem dJ9_floorMod_7cf53_11 : decode cJ9_floorMod_7cf53 11 = .ok (.ifCond .eq 7, 3) := by decide +kernel
theorem dJ9_floorMod_7cf53_14 : decode cJ9_floorMod_7cf53 14 = .ok (.iload_n 2, 1) := by decide +kernel
theorem dJ9_floorMod_7cf53_15 : decode cJ9_floorMod_7cf53 15 = .ok (.iload_n 1, 1) := by decide +kernel
theorem dJ9_floorMod_7cf53_16 : decode cJ9_floorMod_7cf53 16 = .ok (.iadd, 1) := by decide +kernel
theorem dJ9_floorMod_7cf53_17 : decode cJ9_floorMod_7cf53 17 = .ok (.ireturn, 1) := by decide +kernel
theorem dJ9_floorMod_7cf53_18 : decode cJ9_floorMod_7cf53 18 = .ok (.iload_n 2, 1) := by decide +kernel
theorem dJ9_floorMod_7cf53_19 : decode cJ9_floorMod_7cf53 19 = .ok (.ireturn, 1) := by decide +kernel
theorem dJ9_abs_0f7a4_0 : decode cJ9_abs_0f7a4 0 = .ok (.iload_n 0, 1) := by decide +kernel
theorem dJ9_abs_0f7a4_1 : decode cJ9_abs_0f7a4 1 = .ok (.ifCond .ge 8, 3) := by decide +kernel
theorem dJ9_abs_0f7a4_4 : decode cJ9_abs_0f7a4 4 = .ok (.iload_n 0, 1) := by decide +kernel
theorem dJ9_abs_0f7a4_5 : decode cJ9_abs_0f7a4 5 = .ok (.ineg, 1) := by decide +kernel
theorem dJ9_abs_0f7a4_6 : decode cJ9_abs_0f7a4 6 = .ok (.goto 4, 3) := by decide +kernel
theorem dJ9_abs_0f7a4_9 : decode cJ9_abs_0f7a4 9 = .ok (.iload_n 0, 1) := by decide +kernel
theorem dJ9_abs_0f7a4_10 : decode cJ9_abs_0f7a4 10 = .ok (.ireturn, 1) := by decide +kernel
theorem dJ9_max_7cf53_0 : decode cJ9_max_7cf53 0 = .ok (.iload_n 0, 1) := by decide +kernel
theorem dJ9_max_7cf53_1 : decode cJ9_max_7cf53 1 = .ok (.iload_n 1, 1) := by decide +kernel
theorem dJ9_max_7cf53_2 : decode cJ9_max_7cf53 2 = .ok (.if_icmp .lt 7, 3) := by decide +kernel
theorem dJ9_max_7cf53_5 : decode cJ9_max_7cf53 5 = .ok (.iload_n 0, 1) := by decide +kernel
theorem dJ9_max_7cf53_6 : decode cJ9_max_7cf53 6 = .ok (.goto 4, 3) := by decide +kernel
theorem dJ9_max_7cf53_9 : decode cJ9_max_7cf53 9 = .ok (.iload_n 1, 1) := by decide +kernel
theorem dJ9_max_7cf53_10 : decode cJ9_max_7cf53 10 = .ok (.ireturn, 1) := by decide +kernel
theorem dJ9_min_7cf53_0 : decode cJ9_min_7cf53 0 = .ok (.iload_n 0, 1) := by decide +kernel
theorem dJ9_min_7cf53_1 : decode cJ9_min_7cf53 1 = .ok (.iload_n 1, 1) := by decide +kernel
theorem dJ9_min_7cf53_2 : decode cJ9_min_7cf53 2 = .ok (.if_icmp .gt 7, 3) := by decide +kernel
theorem dJ9_min_7cf53_5 : decode cJ9_min_7cf53 5 = .ok (.iload_n 0, 1) := by decide +kernel
theorem dJ9_min_7cf53_6 : decode cJ9_min_7cf53 6 = .ok (.goto 4, 3) := by decide +kernel
theorem dJ9_min_7cf53_9 : decode cJ9_min_7cf53 9 = .ok (.iload_n 1, 1) := by decide +kernel
theorem dJ9_min_7cf53_10 : decode cJ9_min_7cf53 10 = .ok (.ireturn, 1) := by decide +kernel
theorem dJ9_min_f86c9_0 : decode cJ9_min_f86c9 0 = .ok (.lload_n 0, 1) := by decide +kernel
theorem dJ9_min_f86c9_1 : decode cJ9_min_f86c9 1 = .ok (.lload_n 2, 1) := by decide +kernel
theorem dJ9_min_f86c9_2 : decode cJ9_min_f86c9 2 = .ok (.lcmp, 1) := by decide +kernel
theorem dJ9_min_f86c9_3 : decode cJ9_min_f86c9 3 = .ok (.ifCond .gt 7, 3) := by decide +kernel
theorem dJ9_min_f86c9_6 : decode cJ9_min_f86c9 6 = .ok (.lload_n 0, 1) := by decide +kernel
theorem dJ9_min_f86c9_7 : decode cJ9_min_f86c9 7 = .ok (.goto 4, 3) := by decide +kernel
theorem dJ9_min_f86c9_10 : decode cJ9_min_f86c9 10 = .ok (.lload_n 2, 1) := by decide +kernel
theorem dJ9_min_f86c9_11 : decode cJ9_min_f86c9 11 = .ok (.lreturn, 1) := by decide +kernel
theorem dL_below_0 : decode cL_below 0 = .ok (.iload_n 0, 1) := by decide +kernel
theorem dL_below_1 : decode cL_below 1 = .ok (.ldc 7, 2) := by decide +kernel
theorem dL_below_3 : decode cL_below 3 = .ok (.iand, 1) := by decide +kernel
theorem dL_below_4 : decode cL_below 4 = .ok (.iload_n 1, 1) := by decide +kernel
theorem dL_below_5 : decode cL_below 5 = .ok (.irem, 1) := by decide +kernel
theorem dL_below_6 : decode cL_below 6 = .ok (.ireturn, 1) := by decide +kernel
theorem dL_cell_0 : decode cL_cell 0 = .ok (.iload_n 1, 1) := by decide +kernel
theorem dL_cell_1 : decode cL_cell 1 = .ok (.aload_n 0, 1) := by decide +kernel
theorem dL_cell_2 : decode cL_cell 2 = .ok (.arraylength, 1) := by decide +kernel
theorem dL_cell_3 : decode cL_cell 3 = .ok (.if_icmp .ge 9, 3) := by decide +kernel
theorem dL_cell_6 : decode cL_cell 6 = .ok (.aload_n 0, 1) := by decide +kernel
theorem dL_cell_7 : decode cL_cell 7 = .ok (.iload_n 1, 1) := by decide +kernel
theorem dL_cell_8 : decode cL_cell 8 = .ok (.iaload, 1) := by decide +kernel
theorem dL_cell_9 : decode cL_cell 9 = .ok (.goto 9, 3) := by decide +kernel
theorem dL_cell_12 : decode cL_cell 12 = .ok (.ldc 8, 2) := by decide +kernel
theorem dL_cell_14 : decode cL_cell 14 = .ok (.iload_n 1, 1) := by decide +kernel
theorem dL_cell_15 : decode cL_cell 15 = .ok (.iconst 3, 1) := by decide +kernel
theorem dL_cell_16 : decode cL_cell 16 = .ok (.iadd, 1) := by decide +kernel
theorem dL_cell_17 : decode cL_cell 17 = .ok (.imul, 1) := by decide +kernel
theorem dL_cell_18 : decode cL_cell 18 = .ok (.ireturn, 1) := by decide +kernel
theorem dL_act_0 : decode cL_act 0 = .ok (.aload_n 1, 1) := by decide +kernel
theorem dL_act_1 : decode cL_act 1 = .ok (.getfield 9, 3) := by decide +kernel
theorem dL_act_4 : decode cL_act 4 = .ok (.arraylength, 1) := by decide +kernel
theorem dL_act_5 : decode cL_act 5 = .ok (.istore_n 3, 1) := by decide +kernel
theorem dL_act_6 : decode cL_act 6 = .ok (.iload_n 3, 1) := by decide +kernel
theorem dL_act_7 : decode cL_act 7 = .ok (.ifCond .ne 7, 3) := by decide +kernel
theorem dL_act_10 : decode cL_act 10 = .ok (.iconst 0, 1) := by decide +kernel
theorem dL_act_11 : decode cL_act 11 = .ok (.goto 10, 3) := by decide +kernel
theorem dL_act_14 : decode cL_act 14 = .ok (.iload_n 2, 1) := by decide +kernel
theorem dL_act_15 : decode cL_act 15 = .ok (.iconst 3, 1) := by decide +kernel
theorem dL_act_16 : decode cL_act 16 = .ok (.ishr, 1) := by decide +kernel
theorem dL_act_17 : decode cL_act 17 = .ok (.iload_n 3, 1) := by decide +kernel
theorem dL_act_18 : decode cL_act 18 = .ok (.invokestatic 15, 3) := by decide +kernel
theorem dL_act_21 : decode cL_act 21 = .ok (.istore 4, 2) := by decide +kernel
theorem dL_act_23 : decode cL_act 23 = .ok (.iload_n 3, 1) := by decide +kernel
theorem dL_act_24 : decode cL_act 24 = .ok (.ifCond .eq 13, 3) := by decide +kernel
theorem dL_act_27 : decode cL_act 27 = .ok (.iload_n 2, 1) := by decide +kernel
theorem dL_act_28 : decode cL_act 28 = .ok (.bipush 12, 2) := by decide +kernel
theorem dL_act_30 : decode cL_act 30 = .ok (.invokestatic 15, 3) := by decide +kernel
theorem dL_act_33 : decode cL_act 33 = .ok (.iconst 4, 1) := by decide +kernel
theorem dL_act_34 : decode cL_act 34 = .ok (.if_icmp .ge 111, 3) := by decide +kernel
theorem dL_act_37 : decode cL_act 37 = .ok (.iload_n 3, 1) := by decide +kernel
theorem dL_act_38 : decode cL_act 38 = .ok (.bipush 16, 2) := by decide +kernel
theorem dL_act_40 : decode cL_act 40 = .ok (.if_icmp .ne 5, 3) := by decide +kernel
theorem dL_act_43 : decode cL_act 43 = .ok (.iconst 1, 1) := by decide +kernel
theorem dL_act_44 : decode cL_act 44 = .ok (.ireturn, 1) := by decide +kernel
theorem dL_act_45 : decode cL_act 45 = .ok (.bipush 6, 2) := by decide +kernel
theorem dL_act_47 : decode cL_act 47 = .ok (.newarray .int, 2) := by decide +kernel
theorem dL_act_49 : decode cL_act 49 = .ok (.dup, 1) := by decide +kernel
theorem dL_act_50 : decode cL_act 50 = .ok (.iconst 0, 1) := by decide +kernel
theorem dL_act_51 : decode cL_act 51 = .ok (.iload_n 2, 1) := by decide +kernel
theorem dL_act_52 : decode cL_act 52 = .ok (.iconst 4, 1) := by decide +kernel
theorem dL_act_53 : decode cL_act 53 = .ok (.ishr, 1) := by decide +kernel
theorem dL_act_54 : decode cL_act 54 = .ok (.bipush 7, 2) := by decide +kernel
theorem dL_act_56 : decode cL_act 56 = .ok (.invokestatic 15, 3) := by decide +kernel
theorem dL_act_59 : decode cL_act 59 = .ok (.iconst 3, 1) := by decide +kernel
theorem dL_act_60 : decode cL_act 60 = .ok (.isub, 1) := by decide +kernel
theorem dL_act_61 : decode cL_act 61 = .ok (.iastore, 1) := by decide +kernel
theorem dL_act_62 : decode cL_act 62 = .ok (.dup, 1) := by decide +kernel
theorem dL_act_63 : decode cL_act 63 = .ok (.iconst 1, 1) := by decide +kernel
theorem dL_act_64 : decode cL_act 64 = .ok (.iconst 1, 1) := by decide +kernel
theorem dL_act_65 : decode cL_act 65 = .ok (.iload_n 2, 1) := by decide +kernel
theorem dL_act_66 : decode cL_act 66 = .ok (.bipush 6, 2) := by decide +kernel
theorem dL_act_68 : decode cL_act 68 = .ok (.ishr, 1) := by decide +kernel
theorem dL_act_69 : decode cL_act 69 = .ok (.bipush 9, 2) := by decide +kernel
theorem dL_act_71 : decode cL_act 71 = .ok (.invokestatic 15, 3) := by decide +kernel
theorem dL_act_74 : decode cL_act 74 = .ok (.iadd, 1) := by decide +kernel
theorem dL_act_75 : decode cL_act 75 = .ok (.iastore, 1) := by decide +kernel
theorem dL_act_76 : decode cL_act 76 = .ok (.dup, 1) := by decide +kernel
theorem dL_act_77 : decode cL_act 77 = .ok (.iconst 2, 1) := by decide +kernel
theorem dL_act_78 : decode cL_act 78 = .ok (.iload_n 2, 1) := by decide +kernel
theorem dL_act_79 : decode cL_act 79 = .ok (.iconst 5, 1) := by decide +kernel
theorem dL_act_80 : decode cL_act 80 = .ok (.ishr, 1) := by decide +kernel
theorem dL_act_81 : decode cL_act 81 = .ok (.bipush 10, 2) := by decide +kernel
theorem dL_act_83 : decode cL_act 83 = .ok (.invokestatic 15, 3) := by decide +kernel
theorem dL_act_86 : decode cL_act 86 = .ok (.iastore, 1) := by decide +kernel
theorem dL_act_87 : decode cL_act 87 = .ok (.dup, 1) := by decide +kernel
theorem dL_act_88 : decode cL_act 88 = .ok (.iconst 3, 1) := by decide +kernel
theorem dL_act_89 : decode cL_act 89 = .ok (.iconst 0, 1) := by decide +kernel
theorem dL_act_90 : decode cL_act 90 = .ok (.iastore, 1) := by decide +kernel
theorem dL_act_91 : decode cL_act 91 = .ok (.dup, 1) := by decide +kernel
theorem dL_act_92 : decode cL_act 92 = .ok (.iconst 4, 1) := by decide +kernel
theorem dL_act_93 : decode cL_act 93 = .ok (.iconst 0, 1) := by decide +kernel
theorem dL_act_94 : decode cL_act 94 = .ok (.iastore, 1) := by decide +kernel
theorem dL_act_95 : decode cL_act 95 = .ok (.dup, 1) := by decide +kernel
theorem dL_act_96 : decode cL_act 96 = .ok (.iconst 5, 1) := by decide +kernel
theorem dL_act_97 : decode cL_act 97 = .ok (.iconst 0, 1) := by decide +kernel
theorem dL_act_98 : decode cL_act 98 = .ok (.iastore, 1) := by decide +kernel
theorem dL_act_99 : decode cL_act 99 = .ok (.astore 5, 2) := by decide +kernel
theorem dL_act_101 : decode cL_act 101 = .ok (.aload_n 1, 1) := by decide +kernel
theorem dL_act_102 : decode cL_act 102 = .ok (.aload_n 1, 1) := by decide +kernel
theorem dL_act_103 : decode cL_act 103 = .ok (.getfield 9, 3) := by decide +kernel
theorem dL_act_106 : decode cL_act 106 = .ok (.aload 5, 2) := by decide +kernel
theorem dL_act_108 : decode cL_act 108 = .ok (.invokestatic 21, 3) := by decide +kernel
theorem dL_act_111 : decode cL_act 111 = .ok (.putfield 9, 3) := by decide +kernel
theorem dL_act_114 : decode cL_act 114 = .ok (.aload_n 1, 1) := by decide +kernel
theorem dL_act_115 : decode cL_act 115 = .ok (.iconst 0, 1) := by decide +kernel
theorem dL_act_116 : decode cL_act 116 = .ok (.invokevirtual 25, 3) := by decide +kernel
theorem dL_act_119 : decode cL_act 119 = .ok (.aload_n 0, 1) := by decide +kernel
theorem dL_act_120 : decode cL_act 120 = .ok (.aload 5, 2) := by decide +kernel
theorem dL_act_122 : decode cL_act 122 = .ok (.iconst 0, 1) := by decide +kernel
theorem dL_act_123 : decode cL_act 123 = .ok (.iaload, 1) := by decide +kernel
theorem dL_act_124 : decode cL_act 124 = .ok (.aload 5, 2) := by decide +kernel
theorem dL_act_126 : decode cL_act 126 = .ok (.iconst 1, 1) := by decide +kernel
theorem dL_act_127 : decode cL_act 127 = .ok (.iaload, 1) := by decide +kernel
theorem dL_act_128 : decode cL_act 128 = .ok (.aload 5, 2) := by decide +kernel
theorem dL_act_130 : decode cL_act 130 = .ok (.iconst 2, 1) := by decide +kernel
theorem dL_act_131 : decode cL_act 131 = .ok (.iaload, 1) := by decide +kernel
theorem dL_act_132 : decode cL_act 132 = .ok (.invokevirtual 29, 3) := by decide +kernel
theorem dL_act_135 : decode cL_act 135 = .ok (.iload_n 3, 1) := by decide +kernel
theorem dL_act_136 : decode cL_act 136 = .ok (.if_icmp .ne 7, 3) := by decide +kernel
theorem dL_act_139 : decode cL_act 139 = .ok (.iconst 1, 1) := by decide +kernel
theorem dL_act_140 : decode cL_act 140 = .ok (.goto 4, 3) := by decide +kernel
theorem dL_act_143 : decode cL_act 143 = .ok (.iconst 0, 1) := by decide +kernel
theorem dL_act_144 : decode cL_act 144 = .ok (.ireturn, 1) := by decide +kernel
theorem dL_act_145 : decode cL_act 145 = .ok (.aload_n 1, 1) := by decide +kernel
theorem dL_act_146 : decode cL_act 146 = .ok (.getfield 9, 3) := by decide +kernel
theorem dL_act_149 : decode cL_act 149 = .ok (.iload 4, 2) := by decide +kernel
theorem dL_act_151 : decode cL_act 151 = .ok (.aaload, 1) := by decide +kernel
theorem dL_act_152 : decode cL_act 152 = .ok (.astore 5, 2) := by decide +kernel
theorem dL_act_154 : decode cL_act 154 = .ok (.iload_n 2, 1) := by decide +kernel
theorem dL_act_155 : decode cL_act 155 = .ok (.bipush 12, 2) := by decide +kernel
theorem dL_act_157 : decode cL_act 157 = .ok (.invokestatic 15, 3) := by decide +kernel
theorem dL_act_160 : decode cL_act 160 = .ok (.tableswitch 244 4 9 #[40, 91, 91, 137, 137, 201], 40) := by decide +kernel
theorem dL_act_200 : decode cL_act 200 = .ok (.iload_n 2, 1) := by decide +kernel
theorem dL_act_201 : decode cL_act 201 = .ok (.bipush 6, 2) := by decide +kernel
theorem dL_act_203 : decode cL_act 203 = .ok (.ishr, 1) := by decide +kernel
theorem dL_act_204 : decode cL_act 204 = .ok (.iconst 3, 1) := by decide +kernel
theorem dL_act_205 : decode cL_act 205 = .ok (.invokestatic 15, 3) := by decide +kernel
theorem dL_act_208 : decode cL_act 208 = .ok (.ifCond .le 5, 3) := by decide +kernel
theorem dL_act_211 : decode cL_act 211 = .ok (.iconst 1, 1) := by decide +kernel
theorem dL_act_212 : decode cL_act 212 = .ok (.ireturn, 1) := by decide +kernel
theorem dL_act_213 : decode cL_act 213 = .ok (.aload_n 1, 1) := by decide +kernel
theorem dL_act_214 : decode cL_act 214 = .ok (.getfield 9, 3) := by decide +kernel
theorem dL_act_217 : decode cL_act 217 = .ok (.iload_n 3, 1) := by decide +kernel
theorem dL_act_218 : decode cL_act 218 = .ok (.iconst 1, 1) := by decide +kernel
theorem dL_act_219 : decode cL_act 219 = .ok (.isub, 1) := by decide +kernel
theorem dL_act_220 : decode cL_act 220 = .ok (.aaload, 1) := by decide +kernel
theorem dL_act_221 : decode cL_act 221 = .ok (.iconst 2, 1) := by decide +kernel
theorem dL_act_222 : decode cL_act 222 = .ok (.iaload, 1) := by decide +kernel
theorem dL_act_223 : decode cL_act 223 = .ok (.istore 6, 2) := by decide +kernel
theorem dL_act_225 : decode cL_act 225 = .ok (.aload_n 1, 1) := by decide +kernel
theorem dL_act_226 : decode cL_act 226 = .ok (.aload_n 1, 1) := by decide +kernel
theorem dL_act_227 : decode cL_act 227 = .ok (.getfield 9, 3) := by decide +kernel
theorem dL_act_230 : decode cL_act 230 = .ok (.invokestatic 35, 3) := by decide +kernel
theorem dL_act_233 : decode cL_act 233 = .ok (.putfield 9, 3) := by decide +kernel
theorem dL_act_236 : decode cL_act 236 = .ok (.aload_n 0, 1) := by decide +kernel
theorem dL_act_237 : decode cL_act 237 = .ok (.invokevirtual 39, 3) := by decide +kernel
theorem dL_act_240 : decode cL_act 240 = .ok (.iload 6, 2) := by decide +kernel
theorem dL_act_242 : decode cL_act 242 = .ok (.if_icmp .ne 7, 3) := by decide +kernel
theorem dL_act_245 : decode cL_act 245 = .ok (.iconst 1, 1) := by decide +kernel
theorem dL_act_246 : decode cL_act 246 = .ok (.goto 4, 3) := by decide +kernel
theorem dL_act_249 : decode cL_act 249 = .ok (.iconst 0, 1) := by decide +kernel
theorem dL_act_250 : decode cL_act 250 = .ok (.ireturn, 1) := by decide +kernel
theorem dL_act_251 : decode cL_act 251 = .ok (.aload 5, 2) := by decide +kernel
theorem dL_act_253 : decode cL_act 253 = .ok (.iconst 0, 1) := by decide +kernel
theorem dL_act_254 : decode cL_act 254 = .ok (.iaload, 1) := by decide +kernel
theorem dL_act_255 : decode cL_act 255 = .ok (.istore 6, 2) := by decide +kernel
theorem dL_act_257 : decode cL_act 257 = .ok (.aload 5, 2) := by decide +kernel
theorem dL_act_259 : decode cL_act 259 = .ok (.iconst 0, 1) := by decide +kernel
theorem dL_act_260 : decode cL_act 260 = .ok (.iload_n 2, 1) := by decide +kernel
theorem dL_act_261 : decode cL_act 261 = .ok (.iconst 5, 1) := by decide +kernel
theorem dL_act_262 : decode cL_act 262 = .ok (.ishr, 1) := by decide +kernel
theorem dL_act_263 : decode cL_act 263 = .ok (.bipush 7, 2) := by decide +kernel
theorem dL_act_265 : decode cL_act 265 = .ok (.invokestatic 15, 3) := by decide +kernel
theorem dL_act_268 : decode cL_act 268 = .ok (.iconst 3, 1) := by decide +kernel
theorem dL_act_269 : decode cL_act 269 = .ok (.isub, 1) := by decide +kernel
theorem dL_act_270 : decode cL_act 270 = .ok (.iastore, 1) := by decide +kernel
theorem dL_act_271 : decode cL_act 271 = .ok (.aload_n 1, 1) := by decide +kernel
theorem dL_act_272 : decode cL_act 272 = .ok (.iconst 1, 1) := by decide +kernel
theorem dL_act_273 : decode cL_act 273 = .ok (.invokevirtual 25, 3) := by decide +kernel
theorem dL_act_276 : decode cL_act 276 = .ok (.aload_n 0, 1) := by decide +kernel
theorem dL_act_277 : decode cL_act 277 = .ok (.iload 4, 2) := by decide +kernel
theorem dL_act_279 : decode cL_act 279 = .ok (.aload 5, 2) := by decide +kernel
theorem dL_act_281 : decode cL_act 281 = .ok (.iconst 0, 1) := by decide +kernel
theorem dL_act_282 : decode cL_act 282 = .ok (.iaload, 1) := by decide +kernel
theorem dL_act_283 : decode cL_act 283 = .ok (.invokevirtual 43, 3) := by decide +kernel
theorem dL_act_286 : decode cL_act 286 = .ok (.iload 6, 2) := by decide +kernel
theorem dL_act_288 : decode cL_act 288 = .ok (.if_icmp .ne 7, 3) := by decide +kernel
theorem dL_act_291 : decode cL_act 291 = .ok (.iconst 1, 1) := by decide +kernel
theorem dL_act_292 : decode cL_act 292 = .ok (.goto 4, 3) := by decide +kernel
theorem dL_act_295 : decode cL_act 295 = .ok (.iconst 0, 1) := by decide +kernel
theorem dL_act_296 : decode cL_act 296 = .ok (.ireturn, 1) := by decide +kernel
theorem dL_act_297 : decode cL_act 297 = .ok (.iload_n 2, 1) := by decide +kernel
theorem dL_act_298 : decode cL_act 298 = .ok (.iconst 4, 1) := by decide +kernel
theorem dL_act_299 : decode cL_act 299 = .ok (.ishr, 1) := by decide +kernel
theorem dL_act_300 : decode cL_act 300 = .ok (.bipush 10, 2) := by decide +kernel
theorem dL_act_302 : decode cL_act 302 = .ok (.invokestatic 15, 3) := by decide +kernel
theorem dL_act_305 : decode cL_act 305 = .ok (.istore 6, 2) := by decide +kernel
theorem dL_act_307 : decode cL_act 307 = .ok (.aload_n 1, 1) := by decide +kernel
theorem dL_act_308 : decode cL_act 308 = .ok (.getfield 46, 3) := by decide +kernel
theorem dL_act_311 : decode cL_act 311 = .ok (.iload 6, 2) := by decide +kernel
theorem dL_act_313 : decode cL_act 313 = .ok (.iaload, 1) := by decide +kernel
theorem dL_act_314 : decode cL_act 314 = .ok (.istore 7, 2) := by decide +kernel
theorem dL_act_316 : decode cL_act 316 = .ok (.aload_n 1, 1) := by decide +kernel
theorem dL_act_317 : decode cL_act 317 = .ok (.getfield 46, 3) := by decide +kernel
theorem dL_act_320 : decode cL_act 320 = .ok (.iload 6, 2) := by decide +kernel
theorem dL_act_322 : decode cL_act 322 = .ok (.iload_n 2, 1) := by decide +kernel
theorem dL_act_323 : decode cL_act 323 = .ok (.bipush 6, 2) := by decide +kernel
theorem dL_act_325 : decode cL_act 325 = .ok (.ishr, 1) := by decide +kernel
theorem dL_act_326 : decode cL_act 326 = .ok (.bipush 10, 2) := by decide +kernel
theorem dL_act_328 : decode cL_act 328 = .ok (.invokestatic 15, 3) := by decide +kernel
theorem dL_act_331 : decode cL_act 331 = .ok (.iastore, 1) := by decide +kernel
theorem dL_act_332 : decode cL_act 332 = .ok (.aload_n 1, 1) := by decide +kernel
theorem dL_act_333 : decode cL_act 333 = .ok (.iconst 1, 1) := by decide +kernel
theorem dL_act_334 : decode cL_act 334 = .ok (.invokevirtual 25, 3) := by decide +kernel
theorem dL_act_337 : decode cL_act 337 = .ok (.aload_n 0, 1) := by decide +kernel
theorem dL_act_338 : decode cL_act 338 = .ok (.iload 6, 2) := by decide +kernel
theorem dL_act_340 : decode cL_act 340 = .ok (.aload_n 1, 1) := by decide +kernel
theorem dL_act_341 : decode cL_act 341 = .ok (.getfield 46, 3) := by decide +kernel
theorem dL_act_344 : decode cL_act 344 = .ok (.iload 6, 2) := by decide +kernel
theorem dL_act_346 : decode cL_act 346 = .ok (.iaload, 1) := by decide +kernel
theorem dL_act_347 : decode cL_act 347 = .ok (.invokevirtual 50, 3) := by decide +kernel
theorem dL_act_350 : decode cL_act 350 = .ok (.iload 7, 2) := by decide +kernel
theorem dL_act_352 : decode cL_act 352 = .ok (.if_icmp .ne 7, 3) := by decide +kernel
theorem dL_act_355 : decode cL_act 355 = .ok (.iconst 1, 1) := by decide +kernel
theorem dL_act_356 : decode cL_act 356 = .ok (.goto 4, 3) := by decide +kernel
theorem dL_act_359 : decode cL_act 359 = .ok (.iconst 0, 1) := by decide +kernel
theorem dL_act_360 : decode cL_act 360 = .ok (.ireturn, 1) := by decide +kernel
theorem dL_act_361 : decode cL_act 361 = .ok (.aload_n 1, 1) := by decide +kernel
theorem dL_act_362 : decode cL_act 362 = .ok (.getfield 53, 3) := by decide +kernel
theorem dL_act_365 : decode cL_act 365 = .ok (.istore 6, 2) := by decide +kernel
theorem dL_act_367 : decode cL_act 367 = .ok (.aload_n 1, 1) := by decide +kernel
theorem dL_act_368 : decode cL_act 368 = .ok (.iconst 1, 1) := by decide +kernel
theorem dL_act_369 : decode cL_act 369 = .ok (.iload_n 2, 1) := by decide +kernel
theorem dL_act_370 : decode cL_act 370 = .ok (.iconst 5, 1) := by decide +kernel
theorem dL_act_371 : decode cL_act 371 = .ok (.ishr, 1) := by decide +kernel
theorem dL_act_372 : decode cL_act 372 = .ok (.iconst 4, 1) := by decide +kernel
theorem dL_act_373 : decode cL_act 373 = .ok (.invokestatic 15, 3) := by decide +kernel
theorem dL_act_376 : decode cL_act 376 = .ok (.iadd, 1) := by decide +kernel
theorem dL_act_377 : decode cL_act 377 = .ok (.putfield 53, 3) := by decide +kernel
theorem dL_act_380 : decode cL_act 380 = .ok (.aload_n 1, 1) := by decide +kernel
theorem dL_act_381 : decode cL_act 381 = .ok (.iconst 1, 1) := by decide +kernel
theorem dL_act_382 : decode cL_act 382 = .ok (.invokevirtual 25, 3) := by decide +kernel
theorem dL_act_385 : decode cL_act 385 = .ok (.aload_n 0, 1) := by decide +kernel
theorem dL_act_386 : decode cL_act 386 = .ok (.aload_n 1, 1) := by decide +kernel
theorem dL_act_387 : decode cL_act 387 = .ok (.getfield 53, 3) := by decide +kernel
theorem dL_act_390 : decode cL_act 390 = .ok (.invokevirtual 57, 3) := by decide +kernel
theorem dL_act_393 : decode cL_act 393 = .ok (.iload 6, 2) := by decide +kernel
theorem dL_act_395 : decode cL_act 395 = .ok (.if_icmp .ne 7, 3) := by decide +kernel
theorem dL_act_398 : decode cL_act 398 = .ok (.iconst 1, 1) := by decide +kernel
theorem dL_act_399 : decode cL_act 399 = .ok (.goto 4, 3) := by decide +kernel
theorem dL_act_402 : decode cL_act 402 = .ok (.iconst 0, 1) := by decide +kernel
theorem dL_act_403 : decode cL_act 403 = .ok (.ireturn, 1) := by decide +kernel
theorem dL_act_404 : decode cL_act 404 = .ok (.aload_n 1, 1) := by decide +kernel
theorem dL_act_405 : decode cL_act 405 = .ok (.iload 4, 2) := by decide +kernel
theorem dL_act_407 : decode cL_act 407 = .ok (.invokevirtual 61, 3) := by decide +kernel
theorem dL_act_410 : decode cL_act 410 = .ok (.istore 6, 2) := by decide +kernel
theorem dL_act_412 : decode cL_act 412 = .ok (.iload 6, 2) := by decide +kernel
theorem dL_act_414 : decode cL_act 414 = .ok (.ifCond .eq 8, 3) := by decide +kernel
theorem dL_act_417 : decode cL_act 417 = .ok (.aload 5, 2) := by decide +kernel
theorem dL_act_419 : decode cL_act 419 = .ok (.iconst 5, 1) := by decide +kernel
theorem dL_act_420 : decode cL_act 420 = .ok (.iconst 1, 1) := by decide +kernel
theorem dL_act_421 : decode cL_act 421 = .ok (.iastore, 1) := by decide +kernel
theorem dL_act_422 : decode cL_act 422 = .ok (.aload_n 0, 1) := by decide +kernel
theorem dL_act_423 : decode cL_act 423 = .ok (.iload 4, 2) := by decide +kernel
theorem dL_act_425 : decode cL_act 425 = .ok (.invokevirtual 65, 3) := by decide +kernel
theorem dL_act_428 : decode cL_act 428 = .ok (.aload_n 1, 1) := by decide +kernel
theorem dL_act_429 : decode cL_act 429 = .ok (.iload 4, 2) := by decide +kernel
theorem dL_act_431 : decode cL_act 431 = .ok (.invokevirtual 68, 3) := by decide +kernel
theorem dL_act_434 : decode cL_act 434 = .ok (.iconst 1, 1) := by decide +kernel
theorem dL_act_435 : decode cL_act 435 = .ok (.iaload, 1) := by decide +kernel
theorem dL_act_436 : decode cL_act 436 = .ok (.if_icmp .ne 12, 3) := by decide +kernel
theorem dL_act_439 : decode cL_act 439 = .ok (.iload 6, 2) := by decide +kernel
theorem dL_act_441 : decode cL_act 441 = .ok (.ifCond .eq 7, 3) := by decide +kernel
theorem dL_act_444 : decode cL_act 444 = .ok (.iconst 1, 1) := by decide +kernel
theorem dL_act_445 : decode cL_act 445 = .ok (.goto 4, 3) := by decide +kernel
theorem dL_act_448 : decode cL_act 448 = .ok (.iconst 0, 1) := by decide +kernel
theorem dL_act_449 : decode cL_act 449 = .ok (.ireturn, 1) := by decide +kernel
theorem dL_act_450 : decode cL_act 450 = .ok (.astore 7, 2) := by decide +kernel
theorem dL_act_452 : decode cL_act 452 = .ok (.iload 6, 2) := by decide +kernel
theorem dL_act_454 : decode cL_act 454 = .ok (.ifCond .ne 7, 3) := by decide +kernel
theorem dL_act_457 : decode cL_act 457 = .ok (.iconst 1, 1) := by decide +kernel
theorem dL_act_458 : decode cL_act 458 = .ok (.goto 4, 3) := by decide +kernel
theorem dL_act_461 : decode cL_act 461 = .ok (.iconst 0, 1) := by decide +kernel
theorem dL_act_462 : decode cL_act 462 = .ok (.ireturn, 1) := by decide +kernel
theorem dL_build_0 : decode cL_build 0 = .ok (.new 10, 3) := by decide +kernel
theorem dL_build_3 : decode cL_build 3 = .ok (.dup, 1) := by decide +kernel
theorem dL_build_4 : decode cL_build 4 = .ok (.invokespecial 74, 3) := by decide +kernel
theorem dL_build_7 : decode cL_build 7 = .ok (.astore_n 2, 1) := by decide +kernel
theorem dL_build_8 : decode cL_build 8 = .ok (.iconst 3, 1) := by decide +kernel
theorem dL_build_9 : decode cL_build 9 = .ok (.aload_n 1, 1) := by decide +kernel
theorem dL_build_10 : decode cL_build 10 = .ok (.iconst 0, 1) := by decide +kernel
theorem dL_build_11 : decode cL_build 11 = .ok (.invokestatic 75, 3) := by decide +kernel
theorem dL_build_14 : decode cL_build 14 = .ok (.bipush 26, 2) := by decide +kernel
theorem dL_build_16 : decode cL_build 16 = .ok (.invokestatic 15, 3) := by decide +kernel
theorem dL_build_19 : decode cL_build 19 = .ok (.iadd, 1) := by decide +kernel
theorem dL_build_20 : decode cL_build 20 = .ok (.istore_n 3, 1) := by decide +kernel
theorem dL_build_21 : decode cL_build 21 = .ok (.iconst 0, 1) := by decide +kernel
theorem dL_build_22 : decode cL_build 22 = .ok (.istore 4, 2) := by decide +kernel
theorem dL_build_24 : decode cL_build 24 = .ok (.iload 4, 2) := by decide +kernel
theorem dL_build_26 : decode cL_build 26 = .ok (.iload_n 3, 1) := by decide +kernel
theorem dL_build_27 : decode cL_build 27 = .ok (.if_icmp .ge 44, 3) := by decide +kernel
theorem dL_build_30 : decode cL_build 30 = .ok (.aload_n 0, 1) := by decide +kernel
theorem dL_build_31 : decode cL_build 31 = .ok (.aload_n 2, 1) := by decide +kernel
theorem dL_build_32 : decode cL_build 32 = .ok (.aload_n 1, 1) := by decide +kernel
theorem dL_build_33 : decode cL_build 33 = .ok (.iconst 1, 1) := by decide +kernel
theorem dL_build_34 : decode cL_build 34 = .ok (.iload 4, 2) := by decide +kernel
theorem dL_build_36 : decode cL_build 36 = .ok (.bipush 15, 2) := by decide +kernel
theorem dL_build_38 : decode cL_build 38 = .ok (.irem, 1) := by decide +kernel
theorem dL_build_39 : decode cL_build 39 = .ok (.iadd, 1) := by decide +kernel
theorem dL_build_40 : decode cL_build 40 = .ok (.invokestatic 75, 3) := by decide +kernel
theorem dL_build_43 : decode cL_build 43 = .ok (.iload 4, 2) := by decide +kernel
theorem dL_build_45 : decode cL_build 45 = .ok (.bipush 15, 2) := by decide +kernel
theorem dL_build_47 : decode cL_build 47 = .ok (.idiv, 1) := by decide +kernel
theorem dL_build_48 : decode cL_build 48 = .ok (.iconst 3, 1) := by decide +kernel
theorem dL_build_49 : decode cL_build 49 = .ok (.imul, 1) := by decide +kernel
theorem dL_build_50 : decode cL_build 50 = .ok (.ishr, 1) := by decide +kernel
theorem dL_build_51 : decode cL_build 51 = .ok (.bipush 41, 2) := by decide +kernel
theorem dL_build_53 : decode cL_build 53 = .ok (.iload 4, 2) := by decide +kernel
theorem dL_build_55 : decode cL_build 55 = .ok (.imul, 1) := by decide +kernel
theorem dL_build_56 : decode cL_build 56 = .ok (.iadd, 1) := by decide +kernel
theorem dL_build_57 : decode cL_build 57 = .ok (.invokestatic 79, 3) := by decide +kernel
theorem dL_build_60 : decode cL_build 60 = .ok (.ifCond .ne 5, 3) := by decide +kernel
theorem dL_build_63 : decode cL_build 63 = .ok (.aconst_null, 1) := by decide +kernel
theorem dL_build_64 : decode cL_build 64 = .ok (.areturn, 1) := by decide +kernel
theorem dL_build_65 : decode cL_build 65 = .ok (.iinc 4 1, 3) := by decide +kernel
theorem dL_build_68 : decode cL_build 68 = .ok (.goto (-44), 3) := by decide +kernel
theorem dL_build_71 : decode cL_build 71 = .ok (.aload_n 2, 1) := by decide +kernel
theorem dL_build_72 : decode cL_build 72 = .ok (.areturn, 1) := by decide +kernel
theorem dL_law_0 : decode cL_law 0 = .ok (.new 30, 3) := by decide +kernel
theorem dL_law_3 : decode cL_law 3 = .ok (.dup, 1) := by decide +kernel
theorem dL_law_4 : decode cL_law 4 = .ok (.invokespecial 83, 3) := by decide +kernel
theorem dL_law_7 : decode cL_law 7 = .ok (.astore_n 1, 1) := by decide +kernel
theorem dL_law_8 : decode cL_law 8 = .ok (.aload_n 1, 1) := by decide +kernel
theorem dL_law_9 : decode cL_law 9 = .ok (.aload_n 0, 1) := by decide +kernel
theorem dL_law_10 : decode cL_law 10 = .ok (.invokestatic 84, 3) := by decide +kernel
theorem dL_law_13 : decode cL_law 13 = .ok (.astore_n 2, 1) := by decide +kernel
theorem dL_law_14 : decode cL_law 14 = .ok (.aload_n 2, 1) := by decide +kernel
theorem dL_law_15 : decode cL_law 15 = .ok (.ifnonnull 5, 3) := by decide +kernel
theorem dL_law_18 : decode cL_law 18 = .ok (.iconst 0, 1) := by decide +kernel
theorem dL_law_19 : decode cL_law 19 = .ok (.ireturn, 1) := by decide +kernel
theorem dL_law_20 : decode cL_law 20 = .ok (.iconst 0, 1) := by decide +kernel
theorem dL_law_21 : decode cL_law 21 = .ok (.istore_n 3, 1) := by decide +kernel
theorem dL_law_22 : decode cL_law 22 = .ok (.iload_n 3, 1) := by decide +kernel
theorem dL_law_23 : decode cL_law 23 = .ok (.bipush 7, 2) := by decide +kernel
theorem dL_law_25 : decode cL_law 25 = .ok (.if_icmp .ge 1015, 3) := by decide +kernel
theorem dL_law_28 : decode cL_law 28 = .ok (.aload_n 0, 1) := by decide +kernel
theorem dL_law_29 : decode cL_law 29 = .ok (.iload_n 3, 1) := by decide +kernel
theorem dL_law_30 : decode cL_law 30 = .ok (.iconst 1, 1) := by decide +kernel
theorem dL_law_31 : decode cL_law 31 = .ok (.iadd, 1) := by decide +kernel
theorem dL_law_32 : decode cL_law 32 = .ok (.invokestatic 75, 3) := by decide +kernel
theorem dL_law_35 : decode cL_law 35 = .ok (.iconst 2, 1) := by decide +kernel
theorem dL_law_36 : decode cL_law 36 = .ok (.ishr, 1) := by decide +kernel
theorem dL_law_37 : decode cL_law 37 = .ok (.bipush 53, 2) := by decide +kernel
theorem dL_law_39 : decode cL_law 39 = .ok (.iload_n 3, 1) := by decide +kernel
theorem dL_law_40 : decode cL_law 40 = .ok (.imul, 1) := by decide +kernel
theorem dL_law_41 : decode cL_law 41 = .ok (.iadd, 1) := by decide +kernel
theorem dL_law_42 : decode cL_law 42 = .ok (.istore 4, 2) := by decide +kernel
theorem dL_law_44 : decode cL_law 44 = .ok (.iconst 0, 1) := by decide +kernel
theorem dL_law_45 : decode cL_law 45 = .ok (.istore 5, 2) := by decide +kernel
theorem dL_law_47 : decode cL_law 47 = .ok (.iload 5, 2) := by decide +kernel
theorem dL_law_49 : decode cL_law 49 = .ok (.iconst 3, 1) := by decide +kernel
theorem dL_law_50 : decode cL_law 50 = .ok (.if_icmp .ge 32, 3) := by decide +kernel
theorem dL_law_53 : decode cL_law 53 = .ok (.aload_n 1, 1) := by decide +kernel
theorem dL_law_54 : decode cL_law 54 = .ok (.aload_n 2, 1) := by decide +kernel
theorem dL_law_55 : decode cL_law 55 = .ok (.iload 4, 2) := by decide +kernel
theorem dL_law_57 : decode cL_law 57 = .ok (.iconst 3, 1) := by decide +kernel
theorem dL_law_58 : decode cL_law 58 = .ok (.iload 5, 2) := by decide +kernel
theorem dL_law_60 : decode cL_law 60 = .ok (.imul, 1) := by decide +kernel
theorem dL_law_61 : decode cL_law 61 = .ok (.ishr, 1) := by decide +kernel
theorem dL_law_62 : decode cL_law 62 = .ok (.bipush 29, 2) := by decide +kernel
theorem dL_law_64 : decode cL_law 64 = .ok (.iload 5, 2) := by decide +kernel
theorem dL_law_66 : decode cL_law 66 = .ok (.imul, 1) := by decide +kernel
theorem dL_law_67 : decode cL_law 67 = .ok (.iadd, 1) := by decide +kernel
theorem dL_law_68 : decode cL_law 68 = .ok (.invokestatic 79, 3) := by decide +kernel
theorem dL_law_71 : decode cL_law 71 = .ok (.ifCond .ne 5, 3) := by decide +kernel
theorem dL_law_74 : decode cL_law 74 = .ok (.iconst 0, 1) := by decide +kernel
theorem dL_law_75 : decode cL_law 75 = .ok (.ireturn, 1) := by decide +kernel
theorem dL_law_76 : decode cL_law 76 = .ok (.iinc 5 1, 3) := by decide +kernel
theorem dL_law_79 : decode cL_law 79 = .ok (.goto (-32), 3) := by decide +kernel
theorem dL_law_82 : decode cL_law 82 = .ok (.aload_n 1, 1) := by decide +kernel
theorem dL_law_83 : decode cL_law 83 = .ok (.invokevirtual 88, 3) := by decide +kernel
theorem dL_law_86 : decode cL_law 86 = .ok (.lstore 5, 2) := by decide +kernel
theorem dL_law_88 : decode cL_law 88 = .ok (.aload_n 1, 1) := by decide +kernel
theorem dL_law_89 : decode cL_law 89 = .ok (.invokevirtual 92, 3) := by decide +kernel
theorem dL_law_92 : decode cL_law 92 = .ok (.istore 7, 2) := by decide +kernel
theorem dL_law_94 : decode cL_law 94 = .ok (.aload_n 1, 1) := by decide +kernel
theorem dL_law_95 : decode cL_law 95 = .ok (.invokevirtual 94, 3) := by decide +kernel
theorem dL_law_98 : decode cL_law 98 = .ok (.istore 8, 2) := by decide +kernel
theorem dL_law_100 : decode cL_law 100 = .ok (.bipush 12, 2) := by decide +kernel
theorem dL_law_102 : decode cL_law 102 = .ok (.istore 9, 2) := by decide +kernel
theorem dL_law_104 : decode cL_law 104 = .ok (.iconst 0, 1) := by decide +kernel
theorem dL_law_105 : decode cL_law 105 = .ok (.istore 10, 2) := by decide +kernel
theorem dL_law_107 : decode cL_law 107 = .ok (.iconst 0, 1) := by decide +kernel
theorem dL_law_108 : decode cL_law 108 = .ok (.istore 11, 2) := by decide +kernel
theorem dL_law_110 : decode cL_law 110 = .ok (.iconst 0, 1) := by decide +kernel
theorem dL_law_111 : decode cL_law 111 = .ok (.istore 12, 2) := by decide +kernel
theorem dL_law_113 : decode cL_law 113 = .ok (.iconst 0, 1) := by decide +kernel
theorem dL_law_114 : decode cL_law 114 = .ok (.istore 13, 2) := by decide +kernel
theorem dL_law_116 : decode cL_law 116 = .ok (.iconst 0, 1) := by decide +kernel
theorem dL_law_117 : decode cL_law 117 = .ok (.istore 14, 2) := by decide +kernel
theorem dL_law_119 : decode cL_law 119 = .ok (.iconst (-1), 1) := by decide +kernel
theorem dL_law_120 : decode cL_law 120 = .ok (.istore 15, 2) := by decide +kernel
theorem dL_law_122 : decode cL_law 122 = .ok (.lconst 1, 1) := by decide +kernel
theorem dL_law_123 : decode cL_law 123 = .ok (.lstore 16, 2) := by decide +kernel
theorem dL_law_125 : decode cL_law 125 = .ok (.iconst 0, 1) := by decide +kernel
theorem dL_law_126 : decode cL_law 126 = .ok (.istore 18, 2) := by decide +kernel
theorem dL_law_128 : decode cL_law 128 = .ok (.iload 18, 2) := by decide +kernel
theorem dL_law_130 : decode cL_law 130 = .ok (.iload 7, 2) := by decide +kernel
theorem dL_law_132 : decode cL_law 132 = .ok (.if_icmp .ge 376, 3) := by decide +kernel
theorem dL_law_135 : decode cL_law 135 = .ok (.aload_n 1, 1) := by decide +kernel
theorem dL_law_136 : decode cL_law 136 = .ok (.iload 18, 2) := by decide +kernel
theorem dL_law_138 : decode cL_law 138 = .ok (.invokevirtual 96, 3) := by decide +kernel
theorem dL_law_141 : decode cL_law 141 = .ok (.istore 19, 2) := by decide +kernel
theorem dL_law_143 : decode cL_law 143 = .ok (.iload 8, 2) := by decide +kernel
theorem dL_law_145 : decode cL_law 145 = .ok (.aload_n 1, 1) := by decide +kernel
theorem dL_law_146 : decode cL_law 146 = .ok (.iload 18, 2) := by decide +kernel
theorem dL_law_148 : decode cL_law 148 = .ok (.invokevirtual 99, 3) := by decide +kernel
theorem dL_law_151 : decode cL_law 151 = .ok (.imul, 1) := by decide +kernel
theorem dL_law_152 : decode cL_law 152 = .ok (.istore 20, 2) := by decide +kernel
theorem dL_law_154 : decode cL_law 154 = .ok (.aload_n 1, 1) := by decide +kernel
theorem dL_law_155 : decode cL_law 155 = .ok (.iload 18, 2) := by decide +kernel
theorem dL_law_157 : decode cL_law 157 = .ok (.invokevirtual 102, 3) := by decide +kernel
theorem dL_law_160 : decode cL_law 160 = .ok (.istore 21, 2) := by decide +kernel
theorem dL_law_162 : decode cL_law 162 = .ok (.iconst 0, 1) := by decide +kernel
theorem dL_law_163 : decode cL_law 163 = .ok (.istore 22, 2) := by decide +kernel
theorem dL_law_165 : decode cL_law 165 = .ok (.iconst 0, 1) := by decide +kernel
theorem dL_law_166 : decode cL_law 166 = .ok (.istore 23, 2) := by decide +kernel
theorem dL_law_168 : decode cL_law 168 = .ok (.iload 23, 2) := by decide +kernel
theorem dL_law_170 : decode cL_law 170 = .ok (.bipush 10, 2) := by decide +kernel
theorem dL_law_172 : decode cL_law 172 = .ok (.if_icmp .ge 34, 3) := by decide +kernel
theorem dL_law_175 : decode cL_law 175 = .ok (.iload 22, 2) := by decide +kernel
theorem dL_law_177 : decode cL_law 177 = .ok (.aload_n 1, 1) := by decide +kernel
theorem dL_law_178 : decode cL_law 178 = .ok (.iload 23, 2) := by decide +kernel
theorem dL_law_180 : decode cL_law 180 = .ok (.invokevirtual 104, 3) := by decide +kernel
theorem dL_law_183 : decode cL_law 183 = .ok (.aload_n 1, 1) := by decide +kernel
theorem dL_law_184 : decode cL_law 184 = .ok (.iload 18, 2) := by decide +kernel
theorem dL_law_186 : decode cL_law 186 = .ok (.invokevirtual 107, 3) := by decide +kernel
theorem dL_law_189 : decode cL_law 189 = .ok (.if_icmp .ne 7, 3) := by decide +kernel
theorem dL_law_192 : decode cL_law 192 = .ok (.iconst 1, 1) := by decide +kernel
theorem dL_law_193 : decode cL_law 193 = .ok (.goto 4, 3) := by decide +kernel
theorem dL_law_196 : decode cL_law 196 = .ok (.iconst 0, 1) := by decide +kernel
theorem dL_law_197 : decode cL_law 197 = .ok (.iadd, 1) := by decide +kernel
theorem dL_law_198 : decode cL_law 198 = .ok (.istore 22, 2) := by decide +kernel
theorem dL_law_200 : decode cL_law 200 = .ok (.iinc 23 1, 3) := by decide +kernel
theorem dL_law_203 : decode cL_law 203 = .ok (.goto (-35), 3) := by decide +kernel
theorem dL_law_206 : decode cL_law 206 = .ok (.iload 10, 2) := by decide +kernel
theorem dL_law_208 : decode cL_law 208 = .ok (.aload_n 1, 1) := by decide +kernel
theorem dL_law_209 : decode cL_law 209 = .ok (.iload 18, 2) := by decide +kernel
theorem dL_law_211 : decode cL_law 211 = .ok (.invokevirtual 99, 3) := by decide +kernel
theorem dL_law_214 : decode cL_law 214 = .ok (.iadd, 1) := by decide +kernel
theorem dL_law_215 : decode cL_law 215 = .ok (.bipush 8, 2) := by decide +kernel
theorem dL_law_217 : decode cL_law 217 = .ok (.iadd, 1) := by decide +kernel
theorem dL_law_218 : decode cL_law 218 = .ok (.bipush 8, 2) := by decide +kernel
theorem dL_law_220 : decode cL_law 220 = .ok (.irem, 1) := by decide +kernel
theorem dL_law_221 : decode cL_law 221 = .ok (.istore 10, 2) := by decide +kernel
theorem dL_law_223 : decode cL_law 223 = .ok (.iload 19, 2) := by decide +kernel
theorem dL_law_225 : decode cL_law 225 = .ok (.ifCond .lt 184, 3) := by decide +kernel
theorem dL_law_228 : decode cL_law 228 = .ok (.iload 19, 2) := by decide +kernel
theorem dL_law_230 : decode cL_law 230 = .ok (.bipush 24, 2) := by decide +kernel
theorem dL_law_232 : decode cL_law 232 = .ok (.if_icmp .gt 177, 3) := by decide +kernel
theorem dL_law_235 : decode cL_law 235 = .ok (.iload 19, 2) := by decide +kernel
theorem dL_law_237 : decode cL_law 237 = .ok (.aload_n 1, 1) := by decide +kernel
theorem dL_law_238 : decode cL_law 238 = .ok (.iload 18, 2) := by decide +kernel
theorem dL_law_240 : decode cL_law 240 = .ok (.invokevirtual 110, 3) := by decide +kernel
theorem dL_law_243 : decode cL_law 243 = .ok (.ifCond .eq 11, 3) := by decide +kernel
theorem dL_law_246 : decode cL_law 246 = .ok (.iload 9, 2) := by decide +kernel
theorem dL_law_248 : decode cL_law 248 = .ok (.iload 20, 2) := by decide +kernel
theorem dL_law_250 : decode cL_law 250 = .ok (.isub, 1) := by decide +kernel
theorem dL_law_251 : decode cL_law 251 = .ok (.goto 8, 3) := by decide +kernel
theorem dL_law_254 : decode cL_law 254 = .ok (.iload 9, 2) := by decide +kernel
theorem dL_law_256 : decode cL_law 256 = .ok (.iload 20, 2) := by decide +kernel
theorem dL_law_258 : decode cL_law 258 = .ok (.iadd, 1) := by decide +kernel
theorem dL_law_259 : decode cL_law 259 = .ok (.if_icmp .ne 150, 3) := by decide +kernel
theorem dL_law_262 : decode cL_law 262 = .ok (.aload_n 1, 1) := by decide +kernel
theorem dL_law_263 : decode cL_law 263 = .ok (.iload 18, 2) := by decide +kernel
theorem dL_law_265 : decode cL_law 265 = .ok (.invokevirtual 110, 3) := by decide +kernel
theorem dL_law_268 : decode cL_law 268 = .ok (.ifCond .eq 8, 3) := by decide +kernel
theorem dL_law_271 : decode cL_law 271 = .ok (.iload 20, 2) := by decide +kernel
theorem dL_law_273 : decode cL_law 273 = .ok (.ifCond .eq 136, 3) := by decide +kernel
theorem dL_law_276 : decode cL_law 276 = .ok (.aload_n 1, 1) := by decide +kernel
theorem dL_law_277 : decode cL_law 277 = .ok (.iload 18, 2) := by decide +kernel
theorem dL_law_279 : decode cL_law 279 = .ok (.invokevirtual 113, 3) := by decide +kernel
theorem dL_law_282 : decode cL_law 282 = .ok (.iload 10, 2) := by decide +kernel
theorem dL_law_284 : decode cL_law 284 = .ok (.if_icmp .ne 125, 3) := by decide +kernel
theorem dL_law_287 : decode cL_law 287 = .ok (.aload_n 1, 1) := by decide +kernel
theorem dL_law_288 : decode cL_law 288 = .ok (.iload 18, 2) := by decide +kernel
theorem dL_law_290 : decode cL_law 290 = .ok (.invokevirtual 107, 3) := by decide +kernel
theorem dL_law_293 : decode cL_law 293 = .ok (.aload_n 1, 1) := by decide +kernel
theorem dL_law_294 : decode cL_law 294 = .ok (.aload_n 1, 1) := by decide +kernel
theorem dL_law_295 : decode cL_law 295 = .ok (.iload 18, 2) := by decide +kernel
theorem dL_law_297 : decode cL_law 297 = .ok (.invokevirtual 116, 3) := by decide +kernel
theorem dL_law_300 : decode cL_law 300 = .ok (.invokevirtual 104, 3) := by decide +kernel
theorem dL_law_303 : decode cL_law 303 = .ok (.if_icmp .ne 106, 3) := by decide +kernel
theorem dL_law_306 : decode cL_law 306 = .ok (.aload_n 1, 1) := by decide +kernel
theorem dL_law_307 : decode cL_law 307 = .ok (.iload 18, 2) := by decide +kernel
theorem dL_law_309 : decode cL_law 309 = .ok (.invokevirtual 119, 3) := by decide +kernel
theorem dL_law_312 : decode cL_law 312 = .ok (.ifCond .lt 97, 3) := by decide +kernel
theorem dL_law_315 : decode cL_law 315 = .ok (.aload_n 1, 1) := by decide +kernel
theorem dL_law_316 : decode cL_law 316 = .ok (.iload 18, 2) := by decide +kernel
theorem dL_law_318 : decode cL_law 318 = .ok (.invokevirtual 119, 3) := by decide +kernel
theorem dL_law_321 : decode cL_law 321 = .ok (.iload 21, 2) := by decide +kernel
theorem dL_law_323 : decode cL_law 323 = .ok (.if_icmp .ge 86, 3) := by decide +kernel
theorem dL_law_326 : decode cL_law 326 = .ok (.iload 21, 2) := by decide +kernel
theorem dL_law_328 : decode cL_law 328 = .ok (.iload 22, 2) := by decide +kernel
theorem dL_law_330 : decode cL_law 330 = .ok (.if_icmp .eq 17, 3) := by decide +kernel
theorem dL_law_333 : decode cL_law 333 = .ok (.iload 21, 2) := by decide +kernel
theorem dL_law_335 : decode cL_law 335 = .ok (.iconst 2, 1) := by decide +kernel
theorem dL_law_336 : decode cL_law 336 = .ok (.iload 22, 2) := by decide +kernel
theorem dL_law_338 : decode cL_law 338 = .ok (.imul, 1) := by decide +kernel
theorem dL_law_339 : decode cL_law 339 = .ok (.if_icmp .ne 70, 3) := by decide +kernel
theorem dL_law_342 : decode cL_law 342 = .ok (.iload 20, 2) := by decide +kernel
theorem dL_law_344 : decode cL_law 344 = .ok (.ifCond .eq 65, 3) := by decide +kernel
theorem dL_law_347 : decode cL_law 347 = .ok (.aload_n 1, 1) := by decide +kernel
theorem dL_law_348 : decode cL_law 348 = .ok (.iload 18, 2) := by decide +kernel
theorem dL_law_350 : decode cL_law 350 = .ok (.invokevirtual 110, 3) := by decide +kernel
theorem dL_law_353 : decode cL_law 353 = .ok (.ifCond .eq 12, 3) := by decide +kernel
theorem dL_law_356 : decode cL_law 356 = .ok (.iload 21, 2) := by decide +kernel
theorem dL_law_358 : decode cL_law 358 = .ok (.iconst 2, 1) := by decide +kernel
theorem dL_law_359 : decode cL_law 359 = .ok (.iload 22, 2) := by decide +kernel
theorem dL_law_361 : decode cL_law 361 = .ok (.imul, 1) := by decide +kernel
theorem dL_law_362 : decode cL_law 362 = .ok (.if_icmp .ne 47, 3) := by decide +kernel
theorem dL_law_365 : decode cL_law 365 = .ok (.aload_n 1, 1) := by decide +kernel
theorem dL_law_366 : decode cL_law 366 = .ok (.iload 18, 2) := by decide +kernel
theorem dL_law_368 : decode cL_law 368 = .ok (.invokevirtual 122, 3) := by decide +kernel
theorem dL_law_371 : decode cL_law 371 = .ok (.iload 21, 2) := by decide +kernel
theorem dL_law_373 : decode cL_law 373 = .ok (.iconst 1, 1) := by decide +kernel
theorem dL_law_374 : decode cL_law 374 = .ok (.if_icmp .le 16, 3) := by decide +kernel
theorem dL_law_377 : decode cL_law 377 = .ok (.aload_n 1, 1) := by decide +kernel
theorem dL_law_378 : decode cL_law 378 = .ok (.iload 18, 2) := by decide +kernel
theorem dL_law_380 : decode cL_law 380 = .ok (.invokevirtual 125, 3) := by decide +kernel
theorem dL_law_383 : decode cL_law 383 = .ok (.ifCond .ne 7, 3) := by decide +kernel
theorem dL_law_386 : decode cL_law 386 = .ok (.iconst 1, 1) := by decide +kernel
theorem dL_law_387 : decode cL_law 387 = .ok (.goto 4, 3) := by decide +kernel
theorem dL_law_390 : decode cL_law 390 = .ok (.iconst 0, 1) := by decide +kernel
theorem dL_law_391 : decode cL_law 391 = .ok (.if_icmp .ne 18, 3) := by decide +kernel
theorem dL_law_394 : decode cL_law 394 = .ok (.aload_n 1, 1) := by decide +kernel
theorem dL_law_395 : decode cL_law 395 = .ok (.iload 18, 2) := by decide +kernel
theorem dL_law_397 : decode cL_law 397 = .ok (.invokevirtual 125, 3) := by decide +kernel
theorem dL_law_400 : decode cL_law 400 = .ok (.ifCond .eq 11, 3) := by decide +kernel
theorem dL_law_403 : decode cL_law 403 = .ok (.iload 21, 2) := by decide +kernel
theorem dL_law_405 : decode cL_law 405 = .ok (.iconst 2, 1) := by decide +kernel
theorem dL_law_406 : decode cL_law 406 = .ok (.if_icmp .ge 5, 3) := by decide +kernel
theorem dL_law_409 : decode cL_law 409 = .ok (.iconst 0, 1) := by decide +kernel
theorem dL_law_410 : decode cL_law 410 = .ok (.ireturn, 1) := by decide +kernel
theorem dL_law_411 : decode cL_law 411 = .ok (.iload 19, 2) := by decide +kernel
theorem dL_law_413 : decode cL_law 413 = .ok (.istore 9, 2) := by decide +kernel
theorem dL_law_415 : decode cL_law 415 = .ok (.iload 13, 2) := by decide +kernel
theorem dL_law_417 : decode cL_law 417 = .ok (.aload_n 1, 1) := by decide +kernel
theorem dL_law_418 : decode cL_law 418 = .ok (.iload 18, 2) := by decide +kernel
theorem dL_law_420 : decode cL_law 420 = .ok (.invokevirtual 110, 3) := by decide +kernel
theorem dL_law_423 : decode cL_law 423 = .ok (.ifCond .eq 7, 3) := by decide +kernel
theorem dL_law_426 : decode cL_law 426 = .ok (.iconst 1, 1) := by decide +kernel
theorem dL_law_427 : decode cL_law 427 = .ok (.goto 4, 3) := by decide +kernel
theorem dL_law_430 : decode cL_law 430 = .ok (.iconst 0, 1) := by decide +kernel
theorem dL_law_431 : decode cL_law 431 = .ok (.iadd, 1) := by decide +kernel
theorem dL_law_432 : decode cL_law 432 = .ok (.istore 13, 2) := by decide +kernel
theorem dL_law_434 : decode cL_law 434 = .ok (.iload 14, 2) := by decide +kernel
theorem dL_law_436 : decode cL_law 436 = .ok (.aload_n 2, 1) := by decide +kernel
theorem dL_law_437 : decode cL_law 437 = .ok (.getfield 9, 3) := by decide +kernel
theorem dL_law_440 : decode cL_law 440 = .ok (.iload 18, 2) := by decide +kernel
theorem dL_law_442 : decode cL_law 442 = .ok (.aaload, 1) := by decide +kernel
theorem dL_law_443 : decode cL_law 443 = .ok (.iconst 1, 1) := by decide +kernel
theorem dL_law_444 : decode cL_law 444 = .ok (.iaload, 1) := by decide +kernel
theorem dL_law_445 : decode cL_law 445 = .ok (.iadd, 1) := by decide +kernel
theorem dL_law_446 : decode cL_law 446 = .ok (.istore 14, 2) := by decide +kernel
theorem dL_law_448 : decode cL_law 448 = .ok (.iload 12, 2) := by decide +kernel
theorem dL_law_450 : decode cL_law 450 = .ok (.iload 21, 2) := by decide +kernel
theorem dL_law_452 : decode cL_law 452 = .ok (.iconst 1, 1) := by decide +kernel
theorem dL_law_453 : decode cL_law 453 = .ok (.if_icmp .le 7, 3) := by decide +kernel
theorem dL_law_456 : decode cL_law 456 = .ok (.iconst 1, 1) := by decide +kernel
theorem dL_law_457 : decode cL_law 457 = .ok (.goto 4, 3) := by decide +kernel
theorem dL_law_460 : decode cL_law 460 = .ok (.iconst 0, 1) := by decide +kernel
theorem dL_law_461 : decode cL_law 461 = .ok (.iadd, 1) := by decide +kernel
theorem dL_law_462 : decode cL_law 462 = .ok (.istore 12, 2) := by decide +kernel
theorem dL_law_464 : decode cL_law 464 = .ok (.aload_n 1, 1) := by decide +kernel
theorem dL_law_465 : decode cL_law 465 = .ok (.iload 18, 2) := by decide +kernel
theorem dL_law_467 : decode cL_law 467 = .ok (.invokevirtual 122, 3) := by decide +kernel
theorem dL_law_470 : decode cL_law 470 = .ok (.ifCond .ne 6, 3) := by decide +kernel
theorem dL_law_473 : decode cL_law 473 = .ok (.goto 29, 3) := by decide +kernel
theorem dL_law_476 : decode cL_law 476 = .ok (.iload 15, 2) := by decide +kernel
theorem dL_law_478 : decode cL_law 478 = .ok (.ifCond .ge 7, 3) := by decide +kernel
theorem dL_law_481 : decode cL_law 481 = .ok (.iload 18, 2) := by decide +kernel
theorem dL_law_483 : decode cL_law 483 = .ok (.istore 15, 2) := by decide +kernel
theorem dL_law_485 : decode cL_law 485 = .ok (.iinc 11 1, 3) := by decide +kernel
theorem dL_law_488 : decode cL_law 488 = .ok (.ldc2_w 128, 3) := by decide +kernel
theorem dL_law_491 : decode cL_law 491 = .ok (.lload 16, 2) := by decide +kernel
theorem dL_law_493 : decode cL_law 493 = .ok (.iload 21, 2) := by decide +kernel
theorem dL_law_495 : decode cL_law 495 = .ok (.i2l, 1) := by decide +kernel
theorem dL_law_496 : decode cL_law 496 = .ok (.lmul, 1) := by decide +kernel
theorem dL_law_497 : decode cL_law 497 = .ok (.invokestatic 130, 3) := by decide +kernel
theorem dL_law_500 : decode cL_law 500 = .ok (.lstore 16, 2) := by decide +kernel
theorem dL_law_502 : decode cL_law 502 = .ok (.iinc 18 1, 3) := by decide +kernel
theorem dL_law_505 : decode cL_law 505 = .ok (.goto (-377), 3) := by decide +kernel
theorem dL_law_508 : decode cL_law 508 = .ok (.iconst 0, 1) := by decide +kernel
theorem dL_law_509 : decode cL_law 509 = .ok (.istore 18, 2) := by decide +kernel
theorem dL_law_511 : decode cL_law 511 = .ok (.iconst 0, 1) := by decide +kernel
theorem dL_law_512 : decode cL_law 512 = .ok (.istore 19, 2) := by decide +kernel
theorem dL_law_514 : decode cL_law 514 = .ok (.iload 19, 2) := by decide +kernel
theorem dL_law_516 : decode cL_law 516 = .ok (.bipush 10, 2) := by decide +kernel
theorem dL_law_518 : decode cL_law 518 = .ok (.if_icmp .ge 20, 3) := by decide +kernel
theorem dL_law_521 : decode cL_law 521 = .ok (.iload 18, 2) := by decide +kernel
theorem dL_law_523 : decode cL_law 523 = .ok (.aload_n 1, 1) := by decide +kernel
theorem dL_law_524 : decode cL_law 524 = .ok (.iload 19, 2) := by decide +kernel
theorem dL_law_526 : decode cL_law 526 = .ok (.invokevirtual 136, 3) := by decide +kernel
theorem dL_law_529 : decode cL_law 529 = .ok (.iadd, 1) := by decide +kernel
theorem dL_law_530 : decode cL_law 530 = .ok (.istore 18, 2) := by decide +kernel
theorem dL_law_532 : decode cL_law 532 = .ok (.iinc 19 1, 3) := by decide +kernel
theorem dL_law_535 : decode cL_law 535 = .ok (.goto (-21), 3) := by decide +kernel
theorem dL_law_538 : decode cL_law 538 = .ok (.iload 18, 2) := by decide +kernel
theorem dL_law_540 : decode cL_law 540 = .ok (.iload 7, 2) := by decide +kernel
theorem dL_law_542 : decode cL_law 542 = .ok (.if_icmp .ne 141, 3) := by decide +kernel
theorem dL_law_545 : decode cL_law 545 = .ok (.iload 11, 2) := by decide +kernel
theorem dL_law_547 : decode cL_law 547 = .ok (.aload_n 1, 1) := by decide +kernel
theorem dL_law_548 : decode cL_law 548 = .ok (.invokevirtual 139, 3) := by decide +kernel
theorem dL_law_551 : decode cL_law 551 = .ok (.if_icmp .ne 132, 3) := by decide +kernel
theorem dL_law_554 : decode cL_law 554 = .ok (.iload 15, 2) := by decide +kernel
theorem dL_law_556 : decode cL_law 556 = .ok (.aload_n 1, 1) := by decide +kernel
theorem dL_law_557 : decode cL_law 557 = .ok (.invokevirtual 142, 3) := by decide +kernel
theorem dL_law_560 : decode cL_law 560 = .ok (.if_icmp .ne 123, 3) := by decide +kernel
theorem dL_law_563 : decode cL_law 563 = .ok (.lload 16, 2) := by decide +kernel
theorem dL_law_565 : decode cL_law 565 = .ok (.aload_n 1, 1) := by decide +kernel
theorem dL_law_566 : decode cL_law 566 = .ok (.invokevirtual 145, 3) := by decide +kernel
theorem dL_law_569 : decode cL_law 569 = .ok (.lcmp, 1) := by decide +kernel
theorem dL_law_570 : decode cL_law 570 = .ok (.ifCond .ne 113, 3) := by decide +kernel
theorem dL_law_573 : decode cL_law 573 = .ok (.aload_n 1, 1) := by decide +kernel
theorem dL_law_574 : decode cL_law 574 = .ok (.invokevirtual 145, 3) := by decide +kernel
theorem dL_law_577 : decode cL_law 577 = .ok (.lconst 1, 1) := by decide +kernel
theorem dL_law_578 : decode cL_law 578 = .ok (.lcmp, 1) := by decide +kernel
theorem dL_law_579 : decode cL_law 579 = .ok (.ifCond .ne 7, 3) := by decide +kernel
theorem dL_law_582 : decode cL_law 582 = .ok (.iconst 1, 1) := by decide +kernel
theorem dL_law_583 : decode cL_law 583 = .ok (.goto 4, 3) := by decide +kernel
theorem dL_law_586 : decode cL_law 586 = .ok (.iconst 0, 1) := by decide +kernel
theorem dL_law_587 : decode cL_law 587 = .ok (.iload 11, 2) := by decide +kernel
theorem dL_law_589 : decode cL_law 589 = .ok (.ifCond .ne 7, 3) := by decide +kernel
theorem dL_law_592 : decode cL_law 592 = .ok (.iconst 1, 1) := by decide +kernel
theorem dL_law_593 : decode cL_law 593 = .ok (.goto 4, 3) := by decide +kernel
theorem dL_law_596 : decode cL_law 596 = .ok (.iconst 0, 1) := by decide +kernel
theorem dL_law_597 : decode cL_law 597 = .ok (.if_icmp .ne 86, 3) := by decide +kernel
theorem dL_law_600 : decode cL_law 600 = .ok (.iload 13, 2) := by decide +kernel
theorem dL_law_602 : decode cL_law 602 = .ok (.aload_n 1, 1) := by decide +kernel
theorem dL_law_603 : decode cL_law 603 = .ok (.invokevirtual 148, 3) := by decide +kernel
theorem dL_law_606 : decode cL_law 606 = .ok (.if_icmp .ne 77, 3) := by decide +kernel
theorem dL_law_609 : decode cL_law 609 = .ok (.iload 14, 2) := by decide +kernel
theorem dL_law_611 : decode cL_law 611 = .ok (.aload_n 1, 1) := by decide +kernel
theorem dL_law_612 : decode cL_law 612 = .ok (.invokevirtual 151, 3) := by decide +kernel
theorem dL_law_615 : decode cL_law 615 = .ok (.if_icmp .ne 68, 3) := by decide +kernel
theorem dL_law_618 : decode cL_law 618 = .ok (.aload_n 1, 1) := by decide +kernel
theorem dL_law_619 : decode cL_law 619 = .ok (.invokevirtual 154, 3) := by decide +kernel
theorem dL_law_622 : decode cL_law 622 = .ok (.iload 14, 2) := by decide +kernel
theorem dL_law_624 : decode cL_law 624 = .ok (.if_icmp .gt 59, 3) := by decide +kernel
theorem dL_law_627 : decode cL_law 627 = .ok (.aload_n 1, 1) := by decide +kernel
theorem dL_law_628 : decode cL_law 628 = .ok (.invokevirtual 154, 3) := by decide +kernel
theorem dL_law_631 : decode cL_law 631 = .ok (.aload_n 1, 1) := by decide +kernel
theorem dL_law_632 : decode cL_law 632 = .ok (.invokevirtual 157, 3) := by decide +kernel
theorem dL_law_635 : decode cL_law 635 = .ok (.invokestatic 160, 3) := by decide +kernel
theorem dL_law_638 : decode cL_law 638 = .ok (.aload_n 1, 1) := by decide +kernel
theorem dL_law_639 : decode cL_law 639 = .ok (.invokevirtual 163, 3) := by decide +kernel
theorem dL_law_642 : decode cL_law 642 = .ok (.invokestatic 160, 3) := by decide +kernel
theorem dL_law_645 : decode cL_law 645 = .ok (.invokestatic 166, 3) := by decide +kernel
theorem dL_law_648 : decode cL_law 648 = .ok (.if_icmp .ne 35, 3) := by decide +kernel
theorem dL_law_651 : decode cL_law 651 = .ok (.aload_n 1, 1) := by decide +kernel
theorem dL_law_652 : decode cL_law 652 = .ok (.invokevirtual 169, 3) := by decide +kernel
theorem dL_law_655 : decode cL_law 655 = .ok (.ifCond .lt 28, 3) := by decide +kernel
theorem dL_law_658 : decode cL_law 658 = .ok (.aload_n 1, 1) := by decide +kernel
theorem dL_law_659 : decode cL_law 659 = .ok (.invokevirtual 169, 3) := by decide +kernel
theorem dL_law_662 : decode cL_law 662 = .ok (.iload 7, 2) := by decide +kernel
theorem dL_law_664 : decode cL_law 664 = .ok (.if_icmp .gt 19, 3) := by decide +kernel
theorem dL_law_667 : decode cL_law 667 = .ok (.aload_n 1, 1) := by decide +kernel
theorem dL_law_668 : decode cL_law 668 = .ok (.invokevirtual 172, 3) := by decide +kernel
theorem dL_law_671 : decode cL_law 671 = .ok (.ifCond .lt 12, 3) := by decide +kernel
theorem dL_law_674 : decode cL_law 674 = .ok (.aload_n 1, 1) := by decide +kernel
theorem dL_law_675 : decode cL_law 675 = .ok (.invokevirtual 172, 3) := by decide +kernel
theorem dL_law_678 : decode cL_law 678 = .ok (.bipush 24, 2) := by decide +kernel
theorem dL_law_680 : decode cL_law 680 = .ok (.if_icmp .le 5, 3) := by decide +kernel
theorem dL_law_683 : decode cL_law 683 = .ok (.iconst 0, 1) := by decide +kernel
theorem dL_law_684 : decode cL_law 684 = .ok (.ireturn, 1) := by decide +kernel
theorem dL_law_685 : decode cL_law 685 = .ok (.iload 4, 2) := by decide +kernel
theorem dL_law_687 : decode cL_law 687 = .ok (.iconst 3, 1) := by decide +kernel
theorem dL_law_688 : decode cL_law 688 = .ok (.ishr, 1) := by decide +kernel
theorem dL_law_689 : decode cL_law 689 = .ok (.bipush 10, 2) := by decide +kernel
theorem dL_law_691 : decode cL_law 691 = .ok (.invokestatic 15, 3) := by decide +kernel
theorem dL_law_694 : decode cL_law 694 = .ok (.istore 19, 2) := by decide +kernel
theorem dL_law_696 : decode cL_law 696 = .ok (.aload_n 1, 1) := by decide +kernel
theorem dL_law_697 : decode cL_law 697 = .ok (.iload 19, 2) := by decide +kernel
theorem dL_law_699 : decode cL_law 699 = .ok (.invokevirtual 175, 3) := by decide +kernel
theorem dL_law_702 : decode cL_law 702 = .ok (.istore 20, 2) := by decide +kernel
theorem dL_law_704 : decode cL_law 704 = .ok (.iload 4, 2) := by decide +kernel
theorem dL_law_706 : decode cL_law 706 = .ok (.iconst 5, 1) := by decide +kernel
theorem dL_law_707 : decode cL_law 707 = .ok (.ishr, 1) := by decide +kernel
theorem dL_law_708 : decode cL_law 708 = .ok (.bipush 10, 2) := by decide +kernel
theorem dL_law_710 : decode cL_law 710 = .ok (.invokestatic 15, 3) := by decide +kernel
theorem dL_law_713 : decode cL_law 713 = .ok (.istore 21, 2) := by decide +kernel
theorem dL_law_715 : decode cL_law 715 = .ok (.aload_n 1, 1) := by decide +kernel
theorem dL_law_716 : decode cL_law 716 = .ok (.iload 19, 2) := by decide +kernel
theorem dL_law_718 : decode cL_law 718 = .ok (.aload_n 1, 1) := by decide +kernel
theorem dL_law_719 : decode cL_law 719 = .ok (.iload 19, 2) := by decide +kernel
theorem dL_law_721 : decode cL_law 721 = .ok (.invokevirtual 104, 3) := by decide +kernel
theorem dL_law_724 : decode cL_law 724 = .ok (.invokevirtual 178, 3) := by decide +kernel
theorem dL_law_727 : decode cL_law 727 = .ok (.iload 12, 2) := by decide +kernel
theorem dL_law_729 : decode cL_law 729 = .ok (.if_icmp .ne 61, 3) := by decide +kernel
theorem dL_law_732 : decode cL_law 732 = .ok (.aload_n 1, 1) := by decide +kernel
theorem dL_law_733 : decode cL_law 733 = .ok (.iload 19, 2) := by decide +kernel
theorem dL_law_735 : decode cL_law 735 = .ok (.iload 20, 2) := by decide +kernel
theorem dL_law_737 : decode cL_law 737 = .ok (.invokevirtual 178, 3) := by decide +kernel
theorem dL_law_740 : decode cL_law 740 = .ok (.iload 12, 2) := by decide +kernel
theorem dL_law_742 : decode cL_law 742 = .ok (.if_icmp .gt 48, 3) := by decide +kernel
theorem dL_law_745 : decode cL_law 745 = .ok (.aload_n 1, 1) := by decide +kernel
theorem dL_law_746 : decode cL_law 746 = .ok (.iload 19, 2) := by decide +kernel
theorem dL_law_748 : decode cL_law 748 = .ok (.iload 21, 2) := by decide +kernel
theorem dL_law_750 : decode cL_law 750 = .ok (.invokevirtual 178, 3) := by decide +kernel
theorem dL_law_753 : decode cL_law 753 = .ok (.aload_n 1, 1) := by decide +kernel
theorem dL_law_754 : decode cL_law 754 = .ok (.iload 19, 2) := by decide +kernel
theorem dL_law_756 : decode cL_law 756 = .ok (.iload 20, 2) := by decide +kernel
theorem dL_law_758 : decode cL_law 758 = .ok (.invokevirtual 178, 3) := by decide +kernel
theorem dL_law_761 : decode cL_law 761 = .ok (.if_icmp .lt 29, 3) := by decide +kernel
theorem dL_law_764 : decode cL_law 764 = .ok (.aload_n 1, 1) := by decide +kernel
theorem dL_law_765 : decode cL_law 765 = .ok (.iload 19, 2) := by decide +kernel
theorem dL_law_767 : decode cL_law 767 = .ok (.iload 21, 2) := by decide +kernel
theorem dL_law_769 : decode cL_law 769 = .ok (.invokevirtual 178, 3) := by decide +kernel
theorem dL_law_772 : decode cL_law 772 = .ok (.aload_n 1, 1) := by decide +kernel
theorem dL_law_773 : decode cL_law 773 = .ok (.iload 19, 2) := by decide +kernel
theorem dL_law_775 : decode cL_law 775 = .ok (.iload 20, 2) := by decide +kernel
theorem dL_law_777 : decode cL_law 777 = .ok (.invokevirtual 178, 3) := by decide +kernel
theorem dL_law_780 : decode cL_law 780 = .ok (.if_icmp .ne 12, 3) := by decide +kernel
theorem dL_law_783 : decode cL_law 783 = .ok (.iload 21, 2) := by decide +kernel
theorem dL_law_785 : decode cL_law 785 = .ok (.iload 20, 2) := by decide +kernel
theorem dL_law_787 : decode cL_law 787 = .ok (.if_icmp .ge 5, 3) := by decide +kernel
theorem dL_law_790 : decode cL_law 790 = .ok (.iconst 0, 1) := by decide +kernel
theorem dL_law_791 : decode cL_law 791 = .ok (.ireturn, 1) := by decide +kernel
theorem dL_law_792 : decode cL_law 792 = .ok (.aload_n 1, 1) := by decide +kernel
theorem dL_law_793 : decode cL_law 793 = .ok (.invokevirtual 181, 3) := by decide +kernel
theorem dL_law_796 : decode cL_law 796 = .ok (.istore 22, 2) := by decide +kernel
theorem dL_law_798 : decode cL_law 798 = .ok (.iload 22, 2) := by decide +kernel
theorem dL_law_800 : decode cL_law 800 = .ok (.iconst 1, 1) := by decide +kernel
theorem dL_law_801 : decode cL_law 801 = .ok (.if_icmp .lt 30, 3) := by decide +kernel
theorem dL_law_804 : decode cL_law 804 = .ok (.iload 22, 2) := by decide +kernel
theorem dL_law_806 : decode cL_law 806 = .ok (.iconst 4, 1) := by decide +kernel
theorem dL_law_807 : decode cL_law 807 = .ok (.if_icmp .gt 24, 3) := by decide +kernel
theorem dL_law_810 : decode cL_law 810 = .ok (.aload_n 2, 1) := by decide +kernel
theorem dL_law_811 : decode cL_law 811 = .ok (.iload 22, 2) := by decide +kernel
theorem dL_law_813 : decode cL_law 813 = .ok (.invokevirtual 184, 3) := by decide +kernel
theorem dL_law_816 : decode cL_law 816 = .ok (.iload 12, 2) := by decide +kernel
theorem dL_law_818 : decode cL_law 818 = .ok (.if_icmp .gt 13, 3) := by decide +kernel
theorem dL_law_821 : decode cL_law 821 = .ok (.aload_n 1, 1) := by decide +kernel
theorem dL_law_822 : decode cL_law 822 = .ok (.invokevirtual 88, 3) := by decide +kernel
theorem dL_law_825 : decode cL_law 825 = .ok (.lload 5, 2) := by decide +kernel
theorem dL_law_827 : decode cL_law 827 = .ok (.lcmp, 1) := by decide +kernel
theorem dL_law_828 : decode cL_law 828 = .ok (.ifCond .eq 5, 3) := by decide +kernel
theorem dL_law_831 : decode cL_law 831 = .ok (.iconst 0, 1) := by decide +kernel
theorem dL_law_832 : decode cL_law 832 = .ok (.ireturn, 1) := by decide +kernel
theorem dL_law_833 : decode cL_law 833 = .ok (.iload 11, 2) := by decide +kernel
theorem dL_law_835 : decode cL_law 835 = .ok (.ifCond .ne 6, 3) := by decide +kernel
theorem dL_law_838 : decode cL_law 838 = .ok (.goto 196, 3) := by decide +kernel
theorem dL_law_841 : decode cL_law 841 = .ok (.iload 4, 2) := by decide +kernel
theorem dL_law_843 : decode cL_law 843 = .ok (.bipush 6, 2) := by decide +kernel
theorem dL_law_845 : decode cL_law 845 = .ok (.ishr, 1) := by decide +kernel
theorem dL_law_846 : decode cL_law 846 = .ok (.iconst 2, 1) := by decide +kernel
theorem dL_law_847 : decode cL_law 847 = .ok (.invokestatic 15, 3) := by decide +kernel
theorem dL_law_850 : decode cL_law 850 = .ok (.ifCond .ne 67, 3) := by decide +kernel
theorem dL_law_853 : decode cL_law 853 = .ok (.aload_n 1, 1) := by decide +kernel
theorem dL_law_854 : decode cL_law 854 = .ok (.iload 15, 2) := by decide +kernel
theorem dL_law_856 : decode cL_law 856 = .ok (.invokevirtual 65, 3) := by decide +kernel
theorem dL_law_859 : decode cL_law 859 = .ok (.istore 23, 2) := by decide +kernel
theorem dL_law_861 : decode cL_law 861 = .ok (.aload_n 2, 1) := by decide +kernel
theorem dL_law_862 : decode cL_law 862 = .ok (.getfield 9, 3) := by decide +kernel
theorem dL_law_865 : decode cL_law 865 = .ok (.iload 15, 2) := by decide +kernel
theorem dL_law_867 : decode cL_law 867 = .ok (.aaload, 1) := by decide +kernel
theorem dL_law_868 : decode cL_law 868 = .ok (.iconst 5, 1) := by decide +kernel
theorem dL_law_869 : decode cL_law 869 = .ok (.iconst 1, 1) := by decide +kernel
theorem dL_law_870 : decode cL_law 870 = .ok (.iastore, 1) := by decide +kernel
theorem dL_law_871 : decode cL_law 871 = .ok (.iload 23, 2) := by decide +kernel
theorem dL_law_873 : decode cL_law 873 = .ok (.aload_n 1, 1) := by decide +kernel
theorem dL_law_874 : decode cL_law 874 = .ok (.iload 15, 2) := by decide +kernel
theorem dL_law_876 : decode cL_law 876 = .ok (.invokevirtual 119, 3) := by decide +kernel
theorem dL_law_879 : decode cL_law 879 = .ok (.if_icmp .ne 33, 3) := by decide +kernel
theorem dL_law_882 : decode cL_law 882 = .ok (.aload_n 1, 1) := by decide +kernel
theorem dL_law_883 : decode cL_law 883 = .ok (.invokevirtual 139, 3) := by decide +kernel
theorem dL_law_886 : decode cL_law 886 = .ok (.iload 11, 2) := by decide +kernel
theorem dL_law_888 : decode cL_law 888 = .ok (.iconst 1, 1) := by decide +kernel
theorem dL_law_889 : decode cL_law 889 = .ok (.isub, 1) := by decide +kernel
theorem dL_law_890 : decode cL_law 890 = .ok (.if_icmp .ne 22, 3) := by decide +kernel
theorem dL_law_893 : decode cL_law 893 = .ok (.aload_n 1, 1) := by decide +kernel
theorem dL_law_894 : decode cL_law 894 = .ok (.iload 15, 2) := by decide +kernel
theorem dL_law_896 : decode cL_law 896 = .ok (.invokevirtual 122, 3) := by decide +kernel
theorem dL_law_899 : decode cL_law 899 = .ok (.ifCond .ne 13, 3) := by decide +kernel
theorem dL_law_902 : decode cL_law 902 = .ok (.aload_n 1, 1) := by decide +kernel
theorem dL_law_903 : decode cL_law 903 = .ok (.invokevirtual 145, 3) := by decide +kernel
theorem dL_law_906 : decode cL_law 906 = .ok (.lload 16, 2) := by decide +kernel
theorem dL_law_908 : decode cL_law 908 = .ok (.lcmp, 1) := by decide +kernel
theorem dL_law_909 : decode cL_law 909 = .ok (.ifCond .le 5, 3) := by decide +kernel
theorem dL_law_912 : decode cL_law 912 = .ok (.iconst 0, 1) := by decide +kernel
theorem dL_law_913 : decode cL_law 913 = .ok (.ireturn, 1) := by decide +kernel
theorem dL_law_914 : decode cL_law 914 = .ok (.goto 120, 3) := by decide +kernel
theorem dL_law_917 : decode cL_law 917 = .ok (.iconst 1, 1) := by decide +kernel
theorem dL_law_918 : decode cL_law 918 = .ok (.iload 4, 2) := by decide +kernel
theorem dL_law_920 : decode cL_law 920 = .ok (.iconst 4, 1) := by decide +kernel
theorem dL_law_921 : decode cL_law 921 = .ok (.ishr, 1) := by decide +kernel
theorem dL_law_922 : decode cL_law 922 = .ok (.bipush 50, 2) := by decide +kernel
theorem dL_law_924 : decode cL_law 924 = .ok (.invokestatic 15, 3) := by decide +kernel
theorem dL_law_927 : decode cL_law 927 = .ok (.iadd, 1) := by decide +kernel
theorem dL_law_928 : decode cL_law 928 = .ok (.istore 23, 2) := by decide +kernel
theorem dL_law_930 : decode cL_law 930 = .ok (.aload_n 1, 1) := by decide +kernel
theorem dL_law_931 : decode cL_law 931 = .ok (.iload 23, 2) := by decide +kernel
theorem dL_law_933 : decode cL_law 933 = .ok (.invokevirtual 187, 3) := by decide +kernel
theorem dL_law_936 : decode cL_law 936 = .ok (.istore 24, 2) := by decide +kernel
theorem dL_law_938 : decode cL_law 938 = .ok (.aload_n 1, 1) := by decide +kernel
theorem dL_law_939 : decode cL_law 939 = .ok (.invokevirtual 139, 3) := by decide +kernel
theorem dL_law_942 : decode cL_law 942 = .ok (.istore 25, 2) := by decide +kernel
theorem dL_law_944 : decode cL_law 944 = .ok (.iload 24, 2) := by decide +kernel
theorem dL_law_946 : decode cL_law 946 = .ok (.iload 11, 2) := by decide +kernel
theorem dL_law_948 : decode cL_law 948 = .ok (.iload 25, 2) := by decide +kernel
theorem dL_law_950 : decode cL_law 950 = .ok (.isub, 1) := by decide +kernel
theorem dL_law_951 : decode cL_law 951 = .ok (.if_icmp .ne 42, 3) := by decide +kernel
theorem dL_law_954 : decode cL_law 954 = .ok (.aload_n 1, 1) := by decide +kernel
theorem dL_law_955 : decode cL_law 955 = .ok (.invokevirtual 145, 3) := by decide +kernel
theorem dL_law_958 : decode cL_law 958 = .ok (.iload 23, 2) := by decide +kernel
theorem dL_law_960 : decode cL_law 960 = .ok (.i2l, 1) := by decide +kernel
theorem dL_law_961 : decode cL_law 961 = .ok (.lcmp, 1) := by decide +kernel
theorem dL_law_962 : decode cL_law 962 = .ok (.ifCond .gt 31, 3) := by decide +kernel
theorem dL_law_965 : decode cL_law 965 = .ok (.iload 24, 2) := by decide +kernel
theorem dL_law_967 : decode cL_law 967 = .ok (.ifCond .ne 12, 3) := by decide +kernel
theorem dL_law_970 : decode cL_law 970 = .ok (.lload 16, 2) := by decide +kernel
theorem dL_law_972 : decode cL_law 972 = .ok (.iload 23, 2) := by decide +kernel
theorem dL_law_974 : decode cL_law 974 = .ok (.i2l, 1) := by decide +kernel
theorem dL_law_975 : decode cL_law 975 = .ok (.lcmp, 1) := by decide +kernel
theorem dL_law_976 : decode cL_law 976 = .ok (.ifCond .gt 17, 3) := by decide +kernel
theorem dL_law_979 : decode cL_law 979 = .ok (.iload 24, 2) := by decide +kernel
theorem dL_law_981 : decode cL_law 981 = .ok (.ifCond .le 14, 3) := by decide +kernel
theorem dL_law_984 : decode cL_law 984 = .ok (.lload 16, 2) := by decide +kernel
theorem dL_law_986 : decode cL_law 986 = .ok (.iload 23, 2) := by decide +kernel
theorem dL_law_988 : decode cL_law 988 = .ok (.i2l, 1) := by decide +kernel
theorem dL_law_989 : decode cL_law 989 = .ok (.lcmp, 1) := by decide +kernel
theorem dL_law_990 : decode cL_law 990 = .ok (.ifCond .gt 5, 3) := by decide +kernel
theorem dL_law_993 : decode cL_law 993 = .ok (.iconst 0, 1) := by decide +kernel
theorem dL_law_994 : decode cL_law 994 = .ok (.ireturn, 1) := by decide +kernel
theorem dL_law_995 : decode cL_law 995 = .ok (.iconst 0, 1) := by decide +kernel
theorem dL_law_996 : decode cL_law 996 = .ok (.istore 26, 2) := by decide +kernel
theorem dL_law_998 : decode cL_law 998 = .ok (.iload 26, 2) := by decide +kernel
theorem dL_law_1000 : decode cL_law 1000 = .ok (.iload 7, 2) := by decide +kernel
theorem dL_law_1002 : decode cL_law 1002 = .ok (.if_icmp .ge 32, 3) := by decide +kernel
theorem dL_law_1005 : decode cL_law 1005 = .ok (.aload_n 2, 1) := by decide +kernel
theorem dL_law_1006 : decode cL_law 1006 = .ok (.getfield 9, 3) := by decide +kernel
theorem dL_law_1009 : decode cL_law 1009 = .ok (.iload 26, 2) := by decide +kernel
theorem dL_law_1011 : decode cL_law 1011 = .ok (.aaload, 1) := by decide +kernel
theorem dL_law_1012 : decode cL_law 1012 = .ok (.iconst 5, 1) := by decide +kernel
theorem dL_law_1013 : decode cL_law 1013 = .ok (.aload_n 1, 1) := by decide +kernel
theorem dL_law_1014 : decode cL_law 1014 = .ok (.iload 26, 2) := by decide +kernel
theorem dL_law_1016 : decode cL_law 1016 = .ok (.invokevirtual 125, 3) := by decide +kernel
theorem dL_law_1019 : decode cL_law 1019 = .ok (.ifCond .eq 7, 3) := by decide +kernel
theorem dL_law_1022 : decode cL_law 1022 = .ok (.iconst 1, 1) := by decide +kernel
theorem dL_law_1023 : decode cL_law 1023 = .ok (.goto 4, 3) := by decide +kernel
theorem dL_law_1026 : decode cL_law 1026 = .ok (.iconst 0, 1) := by decide +kernel
theorem dL_law_1027 : decode cL_law 1027 = .ok (.iastore, 1) := by decide +kernel
theorem dL_law_1028 : decode cL_law 1028 = .ok (.iinc 26 1, 3) := by decide +kernel
theorem dL_law_1031 : decode cL_law 1031 = .ok (.goto (-33), 3) := by decide +kernel
theorem dL_law_1034 : decode cL_law 1034 = .ok (.iinc 3 1, 3) := by decide +kernel
theorem dL_law_1037 : decode cL_law 1037 = .ok (.goto (-1015), 3) := by decide +kernel
theorem dL_law_1040 : decode cL_law 1040 = .ok (.aload_n 2, 1) := by decide +kernel
theorem dL_law_1041 : decode cL_law 1041 = .ok (.aload_n 1, 1) := by decide +kernel
theorem dL_law_1042 : decode cL_law 1042 = .ok (.invokevirtual 190, 3) := by decide +kernel
theorem dL_law_1045 : decode cL_law 1045 = .ok (.ireturn, 1) := by decide +kernel
end
section
/-! the words of the tables that methods need, one by one: w ∈ wA -/
def wA : List Cond := lw_tbl.filter goodWord
theorem wA_ts {args : Array Value} {s : State} (h : ∀ w ∈ lw_tbl, w.before args s = true) : ∀ w ∈ wA, w.before args s = true := fun w hw => h w (List.mem_filter.mp hw).1
theorem gA : GoodIn wA wA := fun w h => ⟨h, good_of_word (List.mem_filter.mp h).2⟩
theorem taP {w : Cond} (i : Nat) (h : (k2_sels lw_privs)[i]? = some w) (g : goodWord w = true) : w ∈ wA := List.mem_filter.mpr ⟨List.mem_append_left _ (List.mem_of_getElem? h), g⟩
theorem ta1 {w : Cond} (i : Nat) (h : tables_1_1[i]? = some w) (g : goodWord w = true) : w ∈ wA := List.mem_filter.mpr ⟨List.mem_append_right _ (List.mem_append_left _ (List.mem_of_getElem? h)), g⟩
theorem ta2 {w : Cond} (i : Nat) (h : tables_1_2[i]? = some w) (g : goodWord w = true) : w ∈ wA := List.mem_filter.mpr ⟨List.mem_append_right _ (List.mem_append_right _ (List.mem_append_left _ (List.mem_of_getElem? h))), g⟩
theorem ta3 {w : Cond} (i : Nat) (h : tables_1_3[i]? = some w) (g : goodWord w = true) : w ∈ wA := List.mem_filter.mpr ⟨List.mem_append_right _ (List.mem_append_right _ (List.mem_append_right _ (List.mem_of_getElem? h))), g⟩
theorem kc_RL_30 : Cond.classLink RL 30 RX0 ∈ wA := ta1 10 rfl rfl
theorem kb_RX0 : Cond.instantiable RX0 11 ∈ wA := ta1 11 rfl rfl
theorem kn_RX0 : Cond.initialized RX0 ∈ wA := ta1 1 rfl rfl
theorem kf_RL_9 : Cond.fieldLink RL 9 "MapSongsLaw$Sim" "legs" "[[I" ∈ wA := ta2 161 rfl rfl
theorem kk_RL_128 : Cond.constantLong RL 128 (1000000000) ∈ wA := ta3 73 rfl rfl
theorem kl_RL_130 : Cond.methodLink RL 130 Lib.MathLoose.min_long.x ∈ wA := ta3 72 rfl rfl
theorem ks_LM_min_long_x : Cond.static Lib.MathLoose.min_long.x ∈ wA := ta2 75 rfl rfl
theorem kn_Math : Cond.initialized "java/lang/Math" ∈ wA := ta1 8 rfl rfl
theorem kd_LM_min_long_x : Cond.code Lib.MathLoose.min_long.x Lib.MathLoose.min_long.code 4 (some .long) ∈ wA := ta2 76 rfl rfl
theorem kl_RL_160 : Cond.methodLink RL 160 Lib.Math.abs.name ∈ wA := ta3 70 rfl rfl
theorem ks_LM_abs_name : Cond.static Lib.Math.abs.name ∈ wA := ta1 84 rfl rfl
theorem kd_LM_abs_name : Cond.code Lib.Math.abs.name Lib.Math.abs.code 1 (some .int) ∈ wA := ta1 85 rfl rfl
theorem kl_RL_166 : Cond.methodLink RL 166 Lib.Math.max.name ∈ wA := ta3 71 rfl rfl
theorem ks_LM_max_name : Cond.static Lib.Math.max.name ∈ wA := ta1 88 rfl rfl
theorem kd_LM_max_name : Cond.code Lib.Math.max.name Lib.Math.max.code 2 (some .int) ∈ wA := ta1 89 rfl rfl
theorem kl_RL_83 : Cond.methodLink RL 83 yX0_init ∈ wA := ta1 12 rfl rfl
theorem ki_yX0_init : Cond.instanceMethod yX0_init ∈ wA := ta1 13 rfl rfl
theorem kd_yX0_init : Cond.code yX0_init cX0_init 2 none ∈ wA := ta1 14 rfl rfl
theorem kl_RX0_1 : Cond.methodLink RX0 1 objectInit ∈ wA := ta1 15 rfl rfl
theorem ki_objectInit : Cond.instanceMethod objectInit ∈ wA := ta1 16 rfl rfl
theorem kd_objectInit : Cond.code objectInit ⟨#[0xb1]⟩ 1 none ∈ wA := ta1 17 rfl rfl
theorem ka_int : Cond.arrayClass .int ∈ wA := ta1 52 rfl rfl
theorem kf_RX0_9 : Cond.fieldLink RX0 9 "MapSongs" "turns" "[I" ∈ wA := ta1 18 rfl rfl
theorem kf_RX0_13 : Cond.fieldLink RX0 13 "MapSongs" "lengths" "[I" ∈ wA := ta1 19 rfl rfl
theorem kf_RX0_16 : Cond.fieldLink RX0 16 "MapSongs" "landmarks" "[I" ∈ wA := ta1 20 rfl rfl
theorem ka_boolean : Cond.arrayClass .boolean ∈ wA := ta1 53 rfl rfl
theorem kf_RX0_19 : Cond.fieldLink RX0 19 "MapSongs" "marked" "[Z" ∈ wA := ta1 21 rfl rfl
theorem kf_RX0_23 : Cond.fieldLink RX0 23 "MapSongs" "words" "[I" ∈ wA := ta1 22 rfl rfl
theorem kf_RX0_26 : Cond.fieldLink RX0 26 "MapSongs" "headings" "[I" ∈ wA := ta1 25 rfl rfl
theorem kf_RX0_29 : Cond.fieldLink RX0 29 "MapSongs" "xs" "[I" ∈ wA := ta1 26 rfl rfl
theorem kf_RX0_32 : Cond.fieldLink RX0 32 "MapSongs" "ys" "[I" ∈ wA := ta1 27 rfl rfl
theorem kf_RX0_35 : Cond.fieldLink RX0 35 "MapSongs" "notes" "[I" ∈ wA := ta1 28 rfl rfl
theorem kf_RX0_38 : Cond.fieldLink RX0 38 "MapSongs" "songStep" "I" ∈ wA := ta1 24 rfl rfl
theorem kl_RL_84 : Cond.methodLink RL 84 yL_build ∈ wA := ta3 65 rfl rfl
theorem ks_yL_build : Cond.static yL_build ∈ wA := ta3 66 rfl rfl
theorem kn_RL : Cond.initialized RL ∈ wA := ta1 0 rfl rfl
theorem kd_yL_build : Cond.code yL_build cL_build 5 (some (.object "MapSongsLaw$Sim")) ∈ wA := ta3 67 rfl rfl
theorem kc_RL_10 : Cond.classLink RL 10 RX1 ∈ wA := ta3 68 rfl rfl
theorem kb_RX1 : Cond.instantiable RX1 3 ∈ wA := ta2 153 rfl rfl
theorem kn_RX1 : Cond.initialized RX1 ∈ wA := ta1 2 rfl rfl
theorem ki_yX1_init : Cond.instanceMethod yX1_init ∈ wA := ta2 155 rfl rfl
theorem kd_yX1_init : Cond.code yX1_init cX1_init 1 none ∈ wA := ta2 156 rfl rfl
theorem kl_RX1_1 : Cond.methodLink RX1 1 objectInit ∈ wA := ta2 157 rfl rfl
theorem kc_RX1_7 : Cond.classLink RX1 7 "[I" ∈ wA := ta2 158 rfl rfl
theorem kf_RX1_9 : Cond.fieldLink RX1 9 "MapSongsLaw$Sim" "legs" "[[I" ∈ wA := ta2 160 rfl rfl
theorem kf_RX1_15 : Cond.fieldLink RX1 15 "MapSongsLaw$Sim" "word" "[I" ∈ wA := ta2 162 rfl rfl
theorem kf_RX1_18 : Cond.fieldLink RX1 18 "MapSongsLaw$Sim" "step" "I" ∈ wA := ta2 164 rfl rfl
theorem kl_RL_75 : Cond.methodLink RL 75 yL_cell ∈ wA := ta3 3 rfl rfl
theorem ks_yL_cell : Cond.static yL_cell ∈ wA := ta3 4 rfl rfl
theorem kd_yL_cell : Cond.code yL_cell cL_cell 2 (some .int) ∈ wA := ta3 5 rfl rfl
theorem kk_RL_8 : Cond.constant RL 8 (790386105) ∈ wA := ta3 6 rfl rfl
theorem kl_RL_15 : Cond.methodLink RL 15 yL_below ∈ wA := ta2 239 rfl rfl
theorem ks_yL_below : Cond.static yL_below ∈ wA := ta3 0 rfl rfl
theorem kd_yL_below : Cond.code yL_below cL_below 2 (some .int) ∈ wA := ta3 1 rfl rfl
theorem kk_RL_7 : Cond.constant RL 7 (2147483647) ∈ wA := ta3 2 rfl rfl
theorem kl_RL_79 : Cond.methodLink RL 79 yL_act ∈ wA := ta3 7 rfl rfl
theorem ks_yL_act : Cond.static yL_act ∈ wA := ta3 8 rfl rfl
theorem kd_yL_act : Cond.codeWith yL_act cL_act 8 (some .boolean) [(422, 449, 450, 72)] ∈ wA := ta3 9 rfl rfl
theorem kc_RL_72 : Cond.classLink RL 72 "java/lang/IllegalStateException" ∈ wA := ta3 10 rfl rfl
theorem kf_RL_46 : Cond.fieldLink RL 46 "MapSongsLaw$Sim" "word" "[I" ∈ wA := ta2 163 rfl rfl
theorem kf_RL_53 : Cond.fieldLink RL 53 "MapSongsLaw$Sim" "step" "I" ∈ wA := ta2 165 rfl rfl
theorem kl_RL_21 : Cond.methodLink RL 21 yX1_with ∈ wA := ta3 11 rfl rfl
theorem ks_yX1_with : Cond.static yX1_with ∈ wA := ta2 174 rfl rfl
theorem kd_yX1_with : Cond.code yX1_with cX1_with 4 (some (.array (.array .int))) ∈ wA := ta2 175 rfl rfl
theorem kl_RL_25 : Cond.methodLink RL 25 yX1_sing ∈ wA := ta3 12 rfl rfl
theorem ki_yX1_sing : Cond.instanceMethod yX1_sing ∈ wA := ta2 177 rfl rfl
theorem kz_yX1_sing : Cond.selects RX1 yX1_sing yX1_sing ∈ wA := ta2 178 rfl rfl
theorem kd_yX1_sing : Cond.code yX1_sing cX1_sing 4 none ∈ wA := ta2 179 rfl rfl
theorem kl_RX1_27 : Cond.methodLink RX1 27 yX1_ahead ∈ wA := ta2 180 rfl rfl
theorem ki_yX1_ahead : Cond.instanceMethod yX1_ahead ∈ wA := ta2 181 rfl rfl
theorem kz_yX1_ahead : Cond.selects RX1 yX1_ahead yX1_ahead ∈ wA := ta2 182 rfl rfl
theorem kd_yX1_ahead : Cond.code yX1_ahead cX1_ahead 2 (some .int) ∈ wA := ta2 183 rfl rfl
theorem kl_RX1_31 : Cond.methodLink RX1 31 yX1_sung ∈ wA := ta2 184 rfl rfl
theorem ks_yX1_sung : Cond.static yX1_sung ∈ wA := ta2 185 rfl rfl
theorem kd_yX1_sung : Cond.code yX1_sung cX1_sung 2 (some .int) ∈ wA := ta2 186 rfl rfl
theorem kl_RL_29 : Cond.methodLink RL 29 yX0_addLeg ∈ wA := ta3 13 rfl rfl
theorem ki_yX0_addLeg : Cond.instanceMethod yX0_addLeg ∈ wA := ta3 14 rfl rfl
theorem kz_yX0_addLeg : Cond.selects RX0 yX0_addLeg yX0_addLeg ∈ wA := ta3 15 rfl rfl
theorem kd_yX0_addLeg : Cond.code yX0_addLeg cX0_addLeg 5 (some .int) ∈ wA := ta3 16 rfl rfl
theorem kc_RX0_46 : Cond.classLink RX0 46 "java/lang/IllegalArgumentException" ∈ wA := ta2 53 rfl rfl
theorem kn_IllegalArgumentException : Cond.initialized "java/lang/IllegalArgumentException" ∈ wA := ta1 6 rfl rfl
theorem kc_RX0_62 : Cond.classLink RX0 62 "java/lang/IllegalStateException" ∈ wA := ta2 31 rfl rfl
theorem kn_IllegalStateException : Cond.initialized "java/lang/IllegalStateException" ∈ wA := ta1 7 rfl rfl
theorem kf_RX0_59 : Cond.fieldLink RX0 59 "MapSongs" "legCount" "I" ∈ wA := ta1 23 rfl rfl
theorem kl_RX0_42 : Cond.methodLink RX0 42 yX0_checkTurn ∈ wA := ta3 17 rfl rfl
theorem ks_yX0_checkTurn : Cond.static yX0_checkTurn ∈ wA := ta3 18 rfl rfl
theorem kd_yX0_checkTurn : Cond.code yX0_checkTurn cX0_checkTurn 1 none ∈ wA := ta3 19 rfl rfl
theorem kl_RX0_53 : Cond.methodLink RX0 53 yX0_isLandmark ∈ wA := ta1 208 rfl rfl
theorem ks_yX0_isLandmark : Cond.static yX0_isLandmark ∈ wA := ta1 209 rfl rfl
theorem kd_yX0_isLandmark : Cond.code yX0_isLandmark cX0_isLandmark 1 (some .boolean) ∈ wA := ta1 210 rfl rfl
theorem kl_RX0_67 : Cond.methodLink RX0 67 yX0_follow ∈ wA := ta3 23 rfl rfl
theorem ki_yX0_follow : Cond.instanceMethod yX0_follow ∈ wA := ta3 25 rfl rfl
theorem kz_yX0_follow : Cond.selects RX0 yX0_follow yX0_follow ∈ wA := taP 12 rfl rfl
theorem kd_yX0_follow : Cond.code yX0_follow cX0_follow 4 none ∈ wA := ta3 26 rfl rfl
theorem kf_RX0_221 : Cond.fieldLink RX0 221 "MapSongs" "STEP_EAST" "[I" ∈ wA := ta3 34 rfl rfl
theorem kf_RX0_224 : Cond.fieldLink RX0 224 "MapSongs" "STEP_NORTH" "[I" ∈ wA := ta3 36 rfl rfl
theorem kl_RX0_215 : Cond.methodLink RX0 215 yX0_headingAhead ∈ wA := ta3 27 rfl rfl
theorem ki_yX0_headingAhead : Cond.instanceMethod yX0_headingAhead ∈ wA := ta3 29 rfl rfl
theorem kz_yX0_headingAhead : Cond.selects RX0 yX0_headingAhead yX0_headingAhead ∈ wA := taP 13 rfl rfl
theorem kd_yX0_headingAhead : Cond.code yX0_headingAhead cX0_headingAhead 2 (some .int) ∈ wA := ta3 30 rfl rfl
theorem kl_RX0_218 : Cond.methodLink RX0 218 yJ9_floorMod_7cf53 ∈ wA := ta3 31 rfl rfl
theorem ks_yJ9_floorMod_7cf53 : Cond.static yJ9_floorMod_7cf53 ∈ wA := ta3 32 rfl rfl
theorem kn_RJ9 : Cond.initialized RJ9 ∈ wA := ta1 8 rfl rfl
theorem kd_yJ9_floorMod_7cf53 : Cond.code yJ9_floorMod_7cf53 cJ9_floorMod_7cf53 3 (some .int) ∈ wA := ta3 33 rfl rfl
theorem kl_RX0_88 : Cond.methodLink RX0 88 yX0_xAhead ∈ wA := ta1 66 rfl rfl
theorem ki_yX0_xAhead : Cond.instanceMethod yX0_xAhead ∈ wA := ta1 68 rfl rfl
theorem kz_yX0_xAhead : Cond.selects RX0 yX0_xAhead yX0_xAhead ∈ wA := taP 0 rfl rfl
theorem kd_yX0_xAhead : Cond.code yX0_xAhead cX0_xAhead 2 (some .int) ∈ wA := ta1 69 rfl rfl
theorem kl_RX0_92 : Cond.methodLink RX0 92 yX0_yAhead ∈ wA := ta1 74 rfl rfl
theorem ki_yX0_yAhead : Cond.instanceMethod yX0_yAhead ∈ wA := ta1 76 rfl rfl
theorem kz_yX0_yAhead : Cond.selects RX0 yX0_yAhead yX0_yAhead ∈ wA := taP 1 rfl rfl
theorem kd_yX0_yAhead : Cond.code yX0_yAhead cX0_yAhead 2 (some .int) ∈ wA := ta1 77 rfl rfl
theorem kl_RX0_114 : Cond.methodLink RX0 114 yX0_noteAhead ∈ wA := ta1 190 rfl rfl
theorem ki_yX0_noteAhead : Cond.instanceMethod yX0_noteAhead ∈ wA := ta1 192 rfl rfl
theorem kz_yX0_noteAhead : Cond.selects RX0 yX0_noteAhead yX0_noteAhead ∈ wA := taP 5 rfl rfl
theorem kd_yX0_noteAhead : Cond.code yX0_noteAhead cX0_noteAhead 2 (some .int) ∈ wA := ta1 193 rfl rfl
theorem kl_RX0_227 : Cond.methodLink RX0 227 yX0_noteBehind ∈ wA := ta2 6 rfl rfl
theorem ks_yX0_noteBehind : Cond.static yX0_noteBehind ∈ wA := ta2 7 rfl rfl
theorem kd_yX0_noteBehind : Cond.code yX0_noteBehind cX0_noteBehind 3 (some .int) ∈ wA := ta2 8 rfl rfl
theorem kl_RX0_117 : Cond.methodLink RX0 117 yX0_leavesVoice ∈ wA := ta1 194 rfl rfl
theorem ks_yX0_leavesVoice : Cond.static yX0_leavesVoice ∈ wA := ta1 195 rfl rfl
theorem kd_yX0_leavesVoice : Cond.code yX0_leavesVoice cX0_leavesVoice 1 (some .boolean) ∈ wA := ta1 196 rfl rfl
theorem kl_RL_35 : Cond.methodLink RL 35 yX1_less ∈ wA := ta3 38 rfl rfl
theorem ks_yX1_less : Cond.static yX1_less ∈ wA := ta3 39 rfl rfl
theorem kd_yX1_less : Cond.code yX1_less cX1_less 3 (some (.array (.array .int))) ∈ wA := ta3 40 rfl rfl
theorem kl_RL_39 : Cond.methodLink RL 39 yX0_strikeLeg ∈ wA := ta3 41 rfl rfl
theorem ki_yX0_strikeLeg : Cond.instanceMethod yX0_strikeLeg ∈ wA := ta3 42 rfl rfl
theorem kz_yX0_strikeLeg : Cond.selects RX0 yX0_strikeLeg yX0_strikeLeg ∈ wA := ta3 43 rfl rfl
theorem kd_yX0_strikeLeg : Cond.code yX0_strikeLeg cX0_strikeLeg 1 (some .int) ∈ wA := ta3 44 rfl rfl
theorem kl_RL_43 : Cond.methodLink RL 43 yX0_bend ∈ wA := ta3 46 rfl rfl
theorem ki_yX0_bend : Cond.instanceMethod yX0_bend ∈ wA := ta3 47 rfl rfl
theorem kz_yX0_bend : Cond.selects RX0 yX0_bend yX0_bend ∈ wA := ta3 48 rfl rfl
theorem kd_yX0_bend : Cond.code yX0_bend cX0_bend 4 (some .int) ∈ wA := ta3 49 rfl rfl
theorem kl_RX0_72 : Cond.methodLink RX0 72 yX0_checkLeg ∈ wA := ta1 102 rfl rfl
theorem ki_yX0_checkLeg : Cond.instanceMethod yX0_checkLeg ∈ wA := ta1 104 rfl rfl
theorem kz_yX0_checkLeg : Cond.selects RX0 yX0_checkLeg yX0_checkLeg ∈ wA := taP 3 rfl rfl
theorem kd_yX0_checkLeg : Cond.code yX0_checkLeg cX0_checkLeg 2 none ∈ wA := ta1 105 rfl rfl
theorem kc_RX0_210 : Cond.classLink RX0 210 "java/lang/IndexOutOfBoundsException" ∈ wA := ta1 106 rfl rfl
theorem kn_IndexOutOfBoundsException : Cond.initialized "java/lang/IndexOutOfBoundsException" ∈ wA := ta1 9 rfl rfl
theorem kl_RX0_75 : Cond.methodLink RX0 75 yX0_dropMarks ∈ wA := ta3 50 rfl rfl
theorem ki_yX0_dropMarks : Cond.instanceMethod yX0_dropMarks ∈ wA := ta3 52 rfl rfl
theorem kz_yX0_dropMarks : Cond.selects RX0 yX0_dropMarks yX0_dropMarks ∈ wA := taP 14 rfl rfl
theorem kd_yX0_dropMarks : Cond.code yX0_dropMarks cX0_dropMarks 2 none ∈ wA := ta3 53 rfl rfl
theorem kl_RL_50 : Cond.methodLink RL 50 yX0_setWord ∈ wA := ta3 54 rfl rfl
theorem ki_yX0_setWord : Cond.instanceMethod yX0_setWord ∈ wA := ta3 55 rfl rfl
theorem kz_yX0_setWord : Cond.selects RX0 yX0_setWord yX0_setWord ∈ wA := ta3 56 rfl rfl
theorem kd_yX0_setWord : Cond.code yX0_setWord cX0_setWord 4 (some .int) ∈ wA := ta3 57 rfl rfl
theorem kl_RX0_78 : Cond.methodLink RX0 78 yX0_checkLandmark ∈ wA := ta1 205 rfl rfl
theorem ks_yX0_checkLandmark : Cond.static yX0_checkLandmark ∈ wA := ta1 206 rfl rfl
theorem kd_yX0_checkLandmark : Cond.code yX0_checkLandmark cX0_checkLandmark 1 none ∈ wA := ta1 207 rfl rfl
theorem kl_RX0_81 : Cond.methodLink RX0 81 yX0_isWord ∈ wA := ta1 235 rfl rfl
theorem ks_yX0_isWord : Cond.static yX0_isWord ∈ wA := ta1 236 rfl rfl
theorem kd_yX0_isWord : Cond.code yX0_isWord cX0_isWord 1 (some .boolean) ∈ wA := ta1 237 rfl rfl
theorem kl_RL_57 : Cond.methodLink RL 57 yX0_setStep ∈ wA := ta3 58 rfl rfl
theorem ki_yX0_setStep : Cond.instanceMethod yX0_setStep ∈ wA := ta3 59 rfl rfl
theorem kz_yX0_setStep : Cond.selects RX0 yX0_setStep yX0_setStep ∈ wA := ta3 60 rfl rfl
theorem kd_yX0_setStep : Cond.code yX0_setStep cX0_setStep 3 (some .int) ∈ wA := ta3 61 rfl rfl
theorem kl_RL_61 : Cond.methodLink RL 61 yX1_isOpen ∈ wA := ta3 63 rfl rfl
theorem ki_yX1_isOpen : Cond.instanceMethod yX1_isOpen ∈ wA := ta2 192 rfl rfl
theorem kz_yX1_isOpen : Cond.selects RX1 yX1_isOpen yX1_isOpen ∈ wA := ta2 193 rfl rfl
theorem kd_yX1_isOpen : Cond.code yX1_isOpen cX1_isOpen 2 (some .boolean) ∈ wA := ta2 194 rfl rfl
theorem kl_RX1_35 : Cond.methodLink RX1 35 yX1_readings ∈ wA := ta2 195 rfl rfl
theorem ki_yX1_readings : Cond.instanceMethod yX1_readings ∈ wA := ta2 196 rfl rfl
theorem kz_yX1_readings : Cond.selects RX1 yX1_readings yX1_readings ∈ wA := ta2 197 rfl rfl
theorem kd_yX1_readings : Cond.code yX1_readings cX1_readings 6 (some (.array .int)) ∈ wA := ta2 198 rfl rfl
theorem kl_RL_65 : Cond.methodLink RL 65 yX0_mend ∈ wA := ta2 26 rfl rfl
theorem ki_yX0_mend : Cond.instanceMethod yX0_mend ∈ wA := ta2 27 rfl rfl
theorem kz_yX0_mend : Cond.selects RX0 yX0_mend yX0_mend ∈ wA := ta2 28 rfl rfl
theorem kd_yX0_mend : Cond.code yX0_mend cX0_mend 2 (some .int) ∈ wA := ta2 29 rfl rfl
theorem kl_RX0_139 : Cond.methodLink RX0 139 yX0_isAmbiguous ∈ wA := ta2 30 rfl rfl
theorem ki_yX0_isAmbiguous : Cond.instanceMethod yX0_isAmbiguous ∈ wA := ta2 18 rfl rfl
theorem kz_yX0_isAmbiguous : Cond.selects RX0 yX0_isAmbiguous yX0_isAmbiguous ∈ wA := ta2 19 rfl rfl
theorem kd_yX0_isAmbiguous : Cond.code yX0_isAmbiguous cX0_isAmbiguous 2 (some .boolean) ∈ wA := ta2 20 rfl rfl
theorem kl_RX0_136 : Cond.methodLink RX0 136 yX0_readings ∈ wA := ta2 21 rfl rfl
theorem ki_yX0_readings : Cond.instanceMethod yX0_readings ∈ wA := ta2 0 rfl rfl
theorem kz_yX0_readings : Cond.selects RX0 yX0_readings yX0_readings ∈ wA := ta2 1 rfl rfl
theorem kd_yX0_readings : Cond.code yX0_readings cX0_readings 3 (some .int) ∈ wA := ta2 2 rfl rfl
theorem kl_RX0_129 : Cond.methodLink RX0 129 yX0_turnsSungAs ∈ wA := ta2 3 rfl rfl
theorem ks_yX0_turnsSungAs : Cond.static yX0_turnsSungAs ∈ wA := ta2 4 rfl rfl
theorem kd_yX0_turnsSungAs : Cond.code yX0_turnsSungAs cX0_turnsSungAs 6 (some .int) ∈ wA := ta2 5 rfl rfl
theorem kl_RX0_133 : Cond.methodLink RX0 133 yX0_landmarksNamed ∈ wA := ta2 9 rfl rfl
theorem ki_yX0_landmarksNamed : Cond.instanceMethod yX0_landmarksNamed ∈ wA := ta2 11 rfl rfl
theorem kz_yX0_landmarksNamed : Cond.selects RX0 yX0_landmarksNamed yX0_landmarksNamed ∈ wA := taP 6 rfl rfl
theorem kd_yX0_landmarksNamed : Cond.code yX0_landmarksNamed cX0_landmarksNamed 5 (some .int) ∈ wA := ta2 12 rfl rfl
theorem kl_RX0_144 : Cond.methodLink RX0 144 yX0_rightReading ∈ wA := ta2 47 rfl rfl
theorem ki_yX0_rightReading : Cond.instanceMethod yX0_rightReading ∈ wA := ta2 14 rfl rfl
theorem kz_yX0_rightReading : Cond.selects RX0 yX0_rightReading yX0_rightReading ∈ wA := ta2 15 rfl rfl
theorem kd_yX0_rightReading : Cond.code yX0_rightReading cX0_rightReading 4 (some .int) ∈ wA := ta2 16 rfl rfl
theorem kl_RL_68 : Cond.methodLink RL 68 yX1_readings ∈ wA := ta3 64 rfl rfl
theorem kl_RL_88 : Cond.methodLink RL 88 yX0_digest ∈ wA := ta2 114 rfl rfl
theorem ki_yX0_digest : Cond.instanceMethod yX0_digest ∈ wA := ta2 115 rfl rfl
theorem kz_yX0_digest : Cond.selects RX0 yX0_digest yX0_digest ∈ wA := ta2 116 rfl rfl
theorem kd_yX0_digest : Cond.code yX0_digest cX0_digest 4 (some .long) ∈ wA := ta2 117 rfl rfl
theorem kk_RX0_166 : Cond.constantLong RX0 166 (1051) ∈ wA := ta2 118 rfl rfl
theorem kl_RX0_168 : Cond.methodLink RX0 168 yX0_legs ∈ wA := ta2 119 rfl rfl
theorem ki_yX0_legs : Cond.instanceMethod yX0_legs ∈ wA := ta1 55 rfl rfl
theorem kz_yX0_legs : Cond.selects RX0 yX0_legs yX0_legs ∈ wA := ta1 56 rfl rfl
theorem kd_yX0_legs : Cond.code yX0_legs cX0_legs 1 (some .int) ∈ wA := ta1 57 rfl rfl
theorem kl_RX0_171 : Cond.methodLink RX0 171 yX0_digested ∈ wA := ta2 120 rfl rfl
theorem ks_yX0_digested : Cond.static yX0_digested ∈ wA := ta2 121 rfl rfl
theorem kd_yX0_digested : Cond.code yX0_digested cX0_digested 4 (some .long) ∈ wA := ta2 122 rfl rfl
theorem kk_RX0_237 : Cond.constantLong RX0 237 (31) ∈ wA := ta2 123 rfl rfl
theorem kl_RX0_174 : Cond.methodLink RX0 174 yX0_step ∈ wA := ta2 124 rfl rfl
theorem ki_yX0_step : Cond.instanceMethod yX0_step ∈ wA := ta1 59 rfl rfl
theorem kz_yX0_step : Cond.selects RX0 yX0_step yX0_step ∈ wA := ta1 60 rfl rfl
theorem kd_yX0_step : Cond.code yX0_step cX0_step 1 (some .int) ∈ wA := ta1 61 rfl rfl
theorem kl_RX0_95 : Cond.methodLink RX0 95 yX0_endX ∈ wA := ta1 82 rfl rfl
theorem ki_yX0_endX : Cond.instanceMethod yX0_endX ∈ wA := ta1 63 rfl rfl
theorem kz_yX0_endX : Cond.selects RX0 yX0_endX yX0_endX ∈ wA := ta1 64 rfl rfl
theorem kd_yX0_endX : Cond.code yX0_endX cX0_endX 1 (some .int) ∈ wA := ta1 65 rfl rfl
theorem kl_RX0_104 : Cond.methodLink RX0 104 yX0_endY ∈ wA := ta1 86 rfl rfl
theorem ki_yX0_endY : Cond.instanceMethod yX0_endY ∈ wA := ta1 71 rfl rfl
theorem kz_yX0_endY : Cond.selects RX0 yX0_endY yX0_endY ∈ wA := ta1 72 rfl rfl
theorem kd_yX0_endY : Cond.code yX0_endY cX0_endY 1 (some .int) ∈ wA := ta1 73 rfl rfl
theorem kl_RX0_177 : Cond.methodLink RX0 177 yX0_stepsHome ∈ wA := ta2 125 rfl rfl
theorem ki_yX0_stepsHome : Cond.instanceMethod yX0_stepsHome ∈ wA := ta1 79 rfl rfl
theorem kz_yX0_stepsHome : Cond.selects RX0 yX0_stepsHome yX0_stepsHome ∈ wA := ta1 80 rfl rfl
theorem kd_yX0_stepsHome : Cond.code yX0_stepsHome cX0_stepsHome 1 (some .int) ∈ wA := ta1 81 rfl rfl
theorem kl_RX0_99 : Cond.methodLink RX0 99 Lib.Math.abs.name ∈ wA := ta1 83 rfl rfl
theorem kl_RX0_107 : Cond.methodLink RX0 107 Lib.Math.max.name ∈ wA := ta1 87 rfl rfl
theorem kl_RX0_180 : Cond.methodLink RX0 180 yX0_returns ∈ wA := ta2 126 rfl rfl
theorem ki_yX0_returns : Cond.instanceMethod yX0_returns ∈ wA := ta1 91 rfl rfl
theorem kz_yX0_returns : Cond.selects RX0 yX0_returns yX0_returns ∈ wA := ta1 92 rfl rfl
theorem kd_yX0_returns : Cond.code yX0_returns cX0_returns 3 (some .int) ∈ wA := ta1 93 rfl rfl
theorem kl_RX0_111 : Cond.methodLink RX0 111 yX0_endsWhereItWas ∈ wA := ta1 94 rfl rfl
theorem ki_yX0_endsWhereItWas : Cond.instanceMethod yX0_endsWhereItWas ∈ wA := ta1 96 rfl rfl
theorem kz_yX0_endsWhereItWas : Cond.selects RX0 yX0_endsWhereItWas yX0_endsWhereItWas ∈ wA := taP 2 rfl rfl
theorem kd_yX0_endsWhereItWas : Cond.code yX0_endsWhereItWas cX0_endsWhereItWas 3 (some .boolean) ∈ wA := ta1 97 rfl rfl
theorem kl_RX0_183 : Cond.methodLink RX0 183 yX0_beats ∈ wA := ta2 127 rfl rfl
theorem ki_yX0_beats : Cond.instanceMethod yX0_beats ∈ wA := ta1 213 rfl rfl
theorem kz_yX0_beats : Cond.selects RX0 yX0_beats yX0_beats ∈ wA := ta1 214 rfl rfl
theorem kd_yX0_beats : Cond.code yX0_beats cX0_beats 3 (some .int) ∈ wA := ta1 215 rfl rfl
theorem kl_RX0_186 : Cond.methodLink RX0 186 yX0_folded ∈ wA := ta2 128 rfl rfl
theorem ki_yX0_folded : Cond.instanceMethod yX0_folded ∈ wA := ta1 217 rfl rfl
theorem kz_yX0_folded : Cond.selects RX0 yX0_folded yX0_folded ∈ wA := ta1 218 rfl rfl
theorem kd_yX0_folded : Cond.code yX0_folded cX0_folded 3 (some .int) ∈ wA := ta1 219 rfl rfl
theorem kl_RX0_120 : Cond.methodLink RX0 120 yX0_isFolded ∈ wA := ta1 220 rfl rfl
theorem ki_yX0_isFolded : Cond.instanceMethod yX0_isFolded ∈ wA := ta1 187 rfl rfl
theorem kz_yX0_isFolded : Cond.selects RX0 yX0_isFolded yX0_isFolded ∈ wA := ta1 188 rfl rfl
theorem kd_yX0_isFolded : Cond.code yX0_isFolded cX0_isFolded 2 (some .boolean) ∈ wA := ta1 189 rfl rfl
theorem kl_RX0_189 : Cond.methodLink RX0 189 yX0_range ∈ wA := ta2 129 rfl rfl
theorem ki_yX0_range : Cond.instanceMethod yX0_range ∈ wA := ta1 222 rfl rfl
theorem kz_yX0_range : Cond.selects RX0 yX0_range yX0_range ∈ wA := ta1 223 rfl rfl
theorem kd_yX0_range : Cond.code yX0_range cX0_range 4 (some .int) ∈ wA := ta1 224 rfl rfl
theorem kl_RX0_123 : Cond.methodLink RX0 123 Lib.Math.min.name ∈ wA := ta1 225 rfl rfl
theorem ks_LM_min_name : Cond.static Lib.Math.min.name ∈ wA := ta1 226 rfl rfl
theorem kd_LM_min_name : Cond.code Lib.Math.min.name Lib.Math.min.code 2 (some .int) ∈ wA := ta1 227 rfl rfl
theorem kl_RX0_192 : Cond.methodLink RX0 192 yX0_ambiguous ∈ wA := ta2 130 rfl rfl
theorem ki_yX0_ambiguous : Cond.instanceMethod yX0_ambiguous ∈ wA := ta2 82 rfl rfl
theorem kz_yX0_ambiguous : Cond.selects RX0 yX0_ambiguous yX0_ambiguous ∈ wA := ta2 83 rfl rfl
theorem kd_yX0_ambiguous : Cond.code yX0_ambiguous cX0_ambiguous 3 (some .int) ∈ wA := ta2 84 rfl rfl
theorem kl_RX0_150 : Cond.methodLink RX0 150 yX0_ways ∈ wA := ta2 69 rfl rfl
theorem ki_yX0_ways : Cond.instanceMethod yX0_ways ∈ wA := ta2 70 rfl rfl
theorem kz_yX0_ways : Cond.selects RX0 yX0_ways yX0_ways ∈ wA := ta2 71 rfl rfl
theorem kd_yX0_ways : Cond.code yX0_ways cX0_ways 4 (some .long) ∈ wA := ta2 72 rfl rfl
theorem kk_RX0_157 : Cond.constantLong RX0 157 (1000000000) ∈ wA := ta2 73 rfl rfl
theorem kl_RX0_159 : Cond.methodLink RX0 159 Lib.MathLoose.min_long.x ∈ wA := ta2 74 rfl rfl
theorem kl_RX0_195 : Cond.methodLink RX0 195 yX0_bestStep ∈ wA := ta2 131 rfl rfl
theorem ki_yX0_bestStep : Cond.instanceMethod yX0_bestStep ∈ wA := ta2 111 rfl rfl
theorem kz_yX0_bestStep : Cond.selects RX0 yX0_bestStep yX0_bestStep ∈ wA := ta2 112 rfl rfl
theorem kd_yX0_bestStep : Cond.code yX0_bestStep cX0_bestStep 5 (some .int) ∈ wA := ta2 113 rfl rfl
theorem kl_RX0_162 : Cond.methodLink RX0 162 yX0_unmendedWith ∈ wA := ta2 94 rfl rfl
theorem ki_yX0_unmendedWith : Cond.instanceMethod yX0_unmendedWith ∈ wA := ta2 96 rfl rfl
theorem kz_yX0_unmendedWith : Cond.selects RX0 yX0_unmendedWith yX0_unmendedWith ∈ wA := taP 8 rfl rfl
theorem kd_yX0_unmendedWith : Cond.code yX0_unmendedWith cX0_unmendedWith 9 (some .int) ∈ wA := ta2 97 rfl rfl
theorem kl_RX0_230 : Cond.methodLink RX0 230 yX0_sharesWordIf ∈ wA := ta2 98 rfl rfl
theorem ki_yX0_sharesWordIf : Cond.instanceMethod yX0_sharesWordIf ∈ wA := ta2 100 rfl rfl
theorem kz_yX0_sharesWordIf : Cond.selects RX0 yX0_sharesWordIf yX0_sharesWordIf ∈ wA := taP 9 rfl rfl
theorem kd_yX0_sharesWordIf : Cond.code yX0_sharesWordIf cX0_sharesWordIf 6 (some .boolean) ∈ wA := ta2 101 rfl rfl
theorem kl_RX0_234 : Cond.methodLink RX0 234 yX0_wordIf ∈ wA := ta2 102 rfl rfl
theorem ki_yX0_wordIf : Cond.instanceMethod yX0_wordIf ∈ wA := ta2 104 rfl rfl
theorem kz_yX0_wordIf : Cond.selects RX0 yX0_wordIf yX0_wordIf ∈ wA := taP 10 rfl rfl
theorem kd_yX0_wordIf : Cond.code yX0_wordIf cX0_wordIf 4 (some .int) ∈ wA := ta2 105 rfl rfl
theorem kl_RX0_198 : Cond.methodLink RX0 198 yX0_digestOfLeg ∈ wA := ta2 132 rfl rfl
theorem ki_yX0_digestOfLeg : Cond.instanceMethod yX0_digestOfLeg ∈ wA := ta2 134 rfl rfl
theorem kz_yX0_digestOfLeg : Cond.selects RX0 yX0_digestOfLeg yX0_digestOfLeg ∈ wA := taP 11 rfl rfl
theorem kd_yX0_digestOfLeg : Cond.code yX0_digestOfLeg cX0_digestOfLeg 6 (some .long) ∈ wA := ta2 135 rfl rfl
theorem kl_RX0_239 : Cond.methodLink RX0 239 yX0_turnOf ∈ wA := ta2 136 rfl rfl
theorem ki_yX0_turnOf : Cond.instanceMethod yX0_turnOf ∈ wA := ta1 99 rfl rfl
theorem kz_yX0_turnOf : Cond.selects RX0 yX0_turnOf yX0_turnOf ∈ wA := ta1 100 rfl rfl
theorem kd_yX0_turnOf : Cond.code yX0_turnOf cX0_turnOf 2 (some .int) ∈ wA := ta1 101 rfl rfl
theorem kl_RX0_242 : Cond.methodLink RX0 242 yX0_headingOf ∈ wA := ta2 137 rfl rfl
theorem ki_yX0_headingOf : Cond.instanceMethod yX0_headingOf ∈ wA := ta1 175 rfl rfl
theorem kz_yX0_headingOf : Cond.selects RX0 yX0_headingOf yX0_headingOf ∈ wA := ta1 176 rfl rfl
theorem kd_yX0_headingOf : Cond.code yX0_headingOf cX0_headingOf 2 (some .int) ∈ wA := ta1 177 rfl rfl
theorem kl_RX0_245 : Cond.methodLink RX0 245 yX0_landmarkOf ∈ wA := ta2 138 rfl rfl
theorem ki_yX0_landmarkOf : Cond.instanceMethod yX0_landmarkOf ∈ wA := ta1 179 rfl rfl
theorem kz_yX0_landmarkOf : Cond.selects RX0 yX0_landmarkOf yX0_landmarkOf ∈ wA := ta1 180 rfl rfl
theorem kd_yX0_landmarkOf : Cond.code yX0_landmarkOf cX0_landmarkOf 2 (some .int) ∈ wA := ta1 181 rfl rfl
theorem kl_RX0_248 : Cond.methodLink RX0 248 yX0_noteOf ∈ wA := ta2 139 rfl rfl
theorem ki_yX0_noteOf : Cond.instanceMethod yX0_noteOf ∈ wA := ta1 183 rfl rfl
theorem kz_yX0_noteOf : Cond.selects RX0 yX0_noteOf yX0_noteOf ∈ wA := ta1 184 rfl rfl
theorem kd_yX0_noteOf : Cond.code yX0_noteOf cX0_noteOf 2 (some .int) ∈ wA := ta1 185 rfl rfl
theorem kl_RX0_251 : Cond.methodLink RX0 251 yX0_wordIn ∈ wA := ta2 140 rfl rfl
theorem ki_yX0_wordIn : Cond.instanceMethod yX0_wordIn ∈ wA := ta1 198 rfl rfl
theorem kz_yX0_wordIn : Cond.selects RX0 yX0_wordIn yX0_wordIn ∈ wA := ta1 199 rfl rfl
theorem kd_yX0_wordIn : Cond.code yX0_wordIn cX0_wordIn 2 (some .int) ∈ wA := ta1 200 rfl rfl
theorem kl_RX0_254 : Cond.methodLink RX0 254 yX0_isMended ∈ wA := ta2 141 rfl rfl
theorem ki_yX0_isMended : Cond.instanceMethod yX0_isMended ∈ wA := ta2 23 rfl rfl
theorem kz_yX0_isMended : Cond.selects RX0 yX0_isMended yX0_isMended ∈ wA := ta2 24 rfl rfl
theorem kd_yX0_isMended : Cond.code yX0_isMended cX0_isMended 2 (some .boolean) ∈ wA := ta2 25 rfl rfl
theorem kl_RX0_202 : Cond.methodLink RX0 202 yX0_wordOf ∈ wA := ta2 142 rfl rfl
theorem ki_yX0_wordOf : Cond.instanceMethod yX0_wordOf ∈ wA := ta1 202 rfl rfl
theorem kz_yX0_wordOf : Cond.selects RX0 yX0_wordOf yX0_wordOf ∈ wA := ta1 203 rfl rfl
theorem kd_yX0_wordOf : Cond.code yX0_wordOf cX0_wordOf 2 (some .int) ∈ wA := ta1 204 rfl rfl
theorem kl_RX0_205 : Cond.methodLink RX0 205 yX0_bestWord ∈ wA := ta2 143 rfl rfl
theorem ki_yX0_bestWord : Cond.instanceMethod yX0_bestWord ∈ wA := ta2 107 rfl rfl
theorem kz_yX0_bestWord : Cond.selects RX0 yX0_bestWord yX0_bestWord ∈ wA := ta2 108 rfl rfl
theorem kd_yX0_bestWord : Cond.code yX0_bestWord cX0_bestWord 6 (some .int) ∈ wA := ta2 109 rfl rfl
theorem kl_RL_92 : Cond.methodLink RL 92 yX0_legs ∈ wA := ta1 54 rfl rfl
theorem kl_RL_94 : Cond.methodLink RL 94 yX0_step ∈ wA := ta1 58 rfl rfl
theorem kl_RL_96 : Cond.methodLink RL 96 yX0_noteOf ∈ wA := ta1 182 rfl rfl
theorem kl_RL_99 : Cond.methodLink RL 99 yX0_turnOf ∈ wA := ta1 98 rfl rfl
theorem kl_RL_102 : Cond.methodLink RL 102 yX0_readings ∈ wA := ta1 239 rfl rfl
theorem kl_RL_104 : Cond.methodLink RL 104 yX0_wordOf ∈ wA := ta1 201 rfl rfl
theorem kl_RL_107 : Cond.methodLink RL 107 yX0_wordIn ∈ wA := ta1 197 rfl rfl
theorem kl_RL_110 : Cond.methodLink RL 110 yX0_isFolded ∈ wA := ta1 186 rfl rfl
theorem kl_RL_113 : Cond.methodLink RL 113 yX0_headingOf ∈ wA := ta1 174 rfl rfl
theorem kl_RL_116 : Cond.methodLink RL 116 yX0_landmarkOf ∈ wA := ta1 178 rfl rfl
theorem kl_RL_119 : Cond.methodLink RL 119 yX0_rightReading ∈ wA := ta2 13 rfl rfl
theorem kl_RL_122 : Cond.methodLink RL 122 yX0_isAmbiguous ∈ wA := ta2 17 rfl rfl
theorem kl_RL_125 : Cond.methodLink RL 125 yX0_isMended ∈ wA := ta2 22 rfl rfl
theorem kl_RL_136 : Cond.methodLink RL 136 yX0_sungWith ∈ wA := ta1 228 rfl rfl
theorem ki_yX0_sungWith : Cond.instanceMethod yX0_sungWith ∈ wA := ta1 229 rfl rfl
theorem kz_yX0_sungWith : Cond.selects RX0 yX0_sungWith yX0_sungWith ∈ wA := ta1 230 rfl rfl
theorem kd_yX0_sungWith : Cond.code yX0_sungWith cX0_sungWith 4 (some .int) ∈ wA := ta1 231 rfl rfl
theorem kl_RX0_126 : Cond.methodLink RX0 126 yX0_checkWord ∈ wA := ta1 232 rfl rfl
theorem ks_yX0_checkWord : Cond.static yX0_checkWord ∈ wA := ta1 233 rfl rfl
theorem kd_yX0_checkWord : Cond.code yX0_checkWord cX0_checkWord 1 none ∈ wA := ta1 234 rfl rfl
theorem kl_RL_139 : Cond.methodLink RL 139 yX0_ambiguous ∈ wA := ta2 81 rfl rfl
theorem kl_RL_142 : Cond.methodLink RL 142 yX0_firstAmbiguous ∈ wA := ta2 86 rfl rfl
theorem ki_yX0_firstAmbiguous : Cond.instanceMethod yX0_firstAmbiguous ∈ wA := ta2 87 rfl rfl
theorem kz_yX0_firstAmbiguous : Cond.selects RX0 yX0_firstAmbiguous yX0_firstAmbiguous ∈ wA := ta2 88 rfl rfl
theorem kd_yX0_firstAmbiguous : Cond.code yX0_firstAmbiguous cX0_firstAmbiguous 2 (some .int) ∈ wA := ta2 89 rfl rfl
theorem kl_RL_145 : Cond.methodLink RL 145 yX0_ways ∈ wA := ta2 85 rfl rfl
theorem kl_RL_148 : Cond.methodLink RL 148 yX0_folded ∈ wA := ta1 216 rfl rfl
theorem kl_RL_151 : Cond.methodLink RL 151 yX0_beats ∈ wA := ta1 212 rfl rfl
theorem kl_RL_154 : Cond.methodLink RL 154 yX0_stepsHome ∈ wA := ta1 78 rfl rfl
theorem kl_RL_157 : Cond.methodLink RL 157 yX0_endX ∈ wA := ta1 62 rfl rfl
theorem kl_RL_163 : Cond.methodLink RL 163 yX0_endY ∈ wA := ta1 70 rfl rfl
theorem kl_RL_169 : Cond.methodLink RL 169 yX0_returns ∈ wA := ta1 90 rfl rfl
theorem kl_RL_172 : Cond.methodLink RL 172 yX0_range ∈ wA := ta1 221 rfl rfl
theorem kl_RL_175 : Cond.methodLink RL 175 yX0_bestWord ∈ wA := ta2 106 rfl rfl
theorem kl_RL_178 : Cond.methodLink RL 178 yX0_ambiguousWith ∈ wA := ta2 90 rfl rfl
theorem ki_yX0_ambiguousWith : Cond.instanceMethod yX0_ambiguousWith ∈ wA := ta2 91 rfl rfl
theorem kz_yX0_ambiguousWith : Cond.selects RX0 yX0_ambiguousWith yX0_ambiguousWith ∈ wA := ta2 92 rfl rfl
theorem kd_yX0_ambiguousWith : Cond.code yX0_ambiguousWith cX0_ambiguousWith 3 (some .int) ∈ wA := ta2 93 rfl rfl
theorem kl_RL_181 : Cond.methodLink RL 181 yX0_bestStep ∈ wA := ta2 110 rfl rfl
theorem kl_RL_184 : Cond.methodLink RL 184 yX1_openBy ∈ wA := ta2 144 rfl rfl
theorem ki_yX1_openBy : Cond.instanceMethod yX1_openBy ∈ wA := ta2 145 rfl rfl
theorem kz_yX1_openBy : Cond.selects RX1 yX1_openBy yX1_openBy ∈ wA := ta2 146 rfl rfl
theorem kd_yX1_openBy : Cond.code yX1_openBy cX1_openBy 3 (some .int) ∈ wA := ta2 147 rfl rfl
theorem kl_RX1_45 : Cond.methodLink RX1 45 yX1_copy ∈ wA := ta2 148 rfl rfl
theorem ki_yX1_copy : Cond.instanceMethod yX1_copy ∈ wA := ta2 149 rfl rfl
theorem kz_yX1_copy : Cond.selects RX1 yX1_copy yX1_copy ∈ wA := ta2 150 rfl rfl
theorem kd_yX1_copy : Cond.code yX1_copy cX1_copy 6 (some (.object "MapSongsLaw$Sim")) ∈ wA := ta2 151 rfl rfl
theorem kc_RX1_10 : Cond.classLink RX1 10 RX1 ∈ wA := ta2 152 rfl rfl
theorem kl_RX1_22 : Cond.methodLink RX1 22 yX1_init ∈ wA := ta2 154 rfl rfl
theorem kl_RX1_23 : Cond.methodLink RX1 23 yX1_with ∈ wA := ta2 173 rfl rfl
theorem kl_RX1_49 : Cond.methodLink RX1 49 yX1_sing ∈ wA := ta2 176 rfl rfl
theorem kl_RX1_53 : Cond.methodLink RX1 53 yX1_open ∈ wA := ta2 187 rfl rfl
theorem ki_yX1_open : Cond.instanceMethod yX1_open ∈ wA := ta2 188 rfl rfl
theorem kz_yX1_open : Cond.selects RX1 yX1_open yX1_open ∈ wA := ta2 189 rfl rfl
theorem kd_yX1_open : Cond.code yX1_open cX1_open 3 (some .int) ∈ wA := ta2 190 rfl rfl
theorem kl_RX1_39 : Cond.methodLink RX1 39 yX1_isOpen ∈ wA := ta2 191 rfl rfl
theorem kl_RL_187 : Cond.methodLink RL 187 yX0_mendTo ∈ wA := ta2 48 rfl rfl
theorem ki_yX0_mendTo : Cond.instanceMethod yX0_mendTo ∈ wA := ta2 49 rfl rfl
theorem kz_yX0_mendTo : Cond.selects RX0 yX0_mendTo yX0_mendTo ∈ wA := ta2 50 rfl rfl
theorem kd_yX0_mendTo : Cond.code yX0_mendTo cX0_mendTo 4 (some .int) ∈ wA := ta2 51 rfl rfl
theorem kk_RX0_147 : Cond.constant RX0 147 (1000000) ∈ wA := ta2 52 rfl rfl
theorem kl_RX0_154 : Cond.methodLink RX0 154 yX0_mostAmbiguous ∈ wA := ta2 77 rfl rfl
theorem ki_yX0_mostAmbiguous : Cond.instanceMethod yX0_mostAmbiguous ∈ wA := ta2 79 rfl rfl
theorem kz_yX0_mostAmbiguous : Cond.selects RX0 yX0_mostAmbiguous yX0_mostAmbiguous ∈ wA := taP 7 rfl rfl
theorem kd_yX0_mostAmbiguous : Cond.code yX0_mostAmbiguous cX0_mostAmbiguous 5 (some .int) ∈ wA := ta2 80 rfl rfl
theorem kl_RL_190 : Cond.methodLink RL 190 yX1_isSame ∈ wA := ta2 199 rfl rfl
theorem ki_yX1_isSame : Cond.instanceMethod yX1_isSame ∈ wA := ta2 200 rfl rfl
theorem kz_yX1_isSame : Cond.selects RX1 yX1_isSame yX1_isSame ∈ wA := ta2 201 rfl rfl
theorem kd_yX1_isSame : Cond.code yX1_isSame cX1_isSame 19 (some .boolean) ∈ wA := ta2 202 rfl rfl
theorem kl_RX1_57 : Cond.methodLink RX1 57 Lib.Math.min.name ∈ wA := ta2 203 rfl rfl
theorem kl_RX1_62 : Cond.methodLink RX1 62 Lib.Math.max.name ∈ wA := ta2 204 rfl rfl
theorem kl_RX1_115 : Cond.methodLink RX1 115 Lib.Math.abs.name ∈ wA := ta2 222 rfl rfl
theorem kl_RX1_65 : Cond.methodLink RX1 65 yX0_turnOf ∈ wA := ta2 205 rfl rfl
theorem kl_RX1_70 : Cond.methodLink RX1 70 yX0_headingOf ∈ wA := ta2 206 rfl rfl
theorem kl_RX1_73 : Cond.methodLink RX1 73 yX0_landmarkOf ∈ wA := ta2 207 rfl rfl
theorem kl_RX1_76 : Cond.methodLink RX1 76 yX0_noteOf ∈ wA := ta2 208 rfl rfl
theorem kl_RX1_79 : Cond.methodLink RX1 79 yX0_isFolded ∈ wA := ta2 209 rfl rfl
theorem kl_RX1_82 : Cond.methodLink RX1 82 yX0_wordIn ∈ wA := ta2 210 rfl rfl
theorem kl_RX1_85 : Cond.methodLink RX1 85 yX0_readings ∈ wA := ta2 211 rfl rfl
theorem kl_RX1_87 : Cond.methodLink RX1 87 yX0_rightReading ∈ wA := ta2 212 rfl rfl
theorem kl_RX1_90 : Cond.methodLink RX1 90 yX0_isAmbiguous ∈ wA := ta2 213 rfl rfl
theorem kl_RX1_93 : Cond.methodLink RX1 93 yX0_isMended ∈ wA := ta2 214 rfl rfl
theorem kl_RX1_96 : Cond.methodLink RX1 96 yX0_wordOf ∈ wA := ta2 215 rfl rfl
theorem kl_RX1_99 : Cond.methodLink RX1 99 yX0_sungWith ∈ wA := ta2 216 rfl rfl
theorem kl_RX1_102 : Cond.methodLink RX1 102 yX0_legs ∈ wA := ta2 217 rfl rfl
theorem kl_RX1_104 : Cond.methodLink RX1 104 yX0_step ∈ wA := ta2 218 rfl rfl
theorem kl_RX1_106 : Cond.methodLink RX1 106 yX0_endX ∈ wA := ta2 219 rfl rfl
theorem kl_RX1_109 : Cond.methodLink RX1 109 yX0_endY ∈ wA := ta2 220 rfl rfl
theorem kl_RX1_112 : Cond.methodLink RX1 112 yX0_stepsHome ∈ wA := ta2 221 rfl rfl
theorem kl_RX1_118 : Cond.methodLink RX1 118 yX0_returns ∈ wA := ta2 223 rfl rfl
theorem kl_RX1_121 : Cond.methodLink RX1 121 yX0_beats ∈ wA := ta2 224 rfl rfl
theorem kl_RX1_124 : Cond.methodLink RX1 124 yX0_folded ∈ wA := ta2 225 rfl rfl
theorem kl_RX1_127 : Cond.methodLink RX1 127 yX0_range ∈ wA := ta2 226 rfl rfl
theorem kl_RX1_130 : Cond.methodLink RX1 130 yX0_ambiguous ∈ wA := ta2 227 rfl rfl
theorem kl_RX1_133 : Cond.methodLink RX1 133 yX0_ways ∈ wA := ta2 228 rfl rfl
theorem kl_RX1_137 : Cond.methodLink RX1 137 yX1_ways ∈ wA := ta2 229 rfl rfl
theorem ki_yX1_ways : Cond.instanceMethod yX1_ways ∈ wA := ta2 230 rfl rfl
theorem kz_yX1_ways : Cond.selects RX1 yX1_ways yX1_ways ∈ wA := ta2 231 rfl rfl
theorem kd_yX1_ways : Cond.code yX1_ways cX1_ways 4 (some .long) ∈ wA := ta2 232 rfl rfl
theorem kk_RX1_43 : Cond.constantLong RX1 43 (1000000000) ∈ wA := ta2 233 rfl rfl
theorem kl_RX1_138 : Cond.methodLink RX1 138 yX0_firstAmbiguous ∈ wA := ta2 234 rfl rfl
theorem kl_RX1_141 : Cond.methodLink RX1 141 yX0_meanNote ∈ wA := ta2 235 rfl rfl
theorem ki_yX0_meanNote : Cond.instanceMethod yX0_meanNote ∈ wA := ta2 236 rfl rfl
theorem kz_yX0_meanNote : Cond.selects RX0 yX0_meanNote yX0_meanNote ∈ wA := ta2 237 rfl rfl
theorem kd_yX0_meanNote : Cond.code yX0_meanNote cX0_meanNote 3 (some .double) ∈ wA := ta2 238 rfl rfl
theorem wx0 : ∀ w ∈ wsX00, w ∈ wA := by
  show ∀ w ∈ (List.range 11).map (u_lay RX0 TX0), w ∈ wA
  exact List.forall_mem_cons.mpr ⟨ta1 29 rfl rfl, List.forall_mem_cons.mpr ⟨ta1 31 rfl rfl, List.forall_mem_cons.mpr ⟨ta1 33 rfl rfl, List.forall_mem_cons.mpr ⟨ta1 35 rfl rfl, List.forall_mem_cons.mpr ⟨ta1 37 rfl rfl, List.forall_mem_cons.mpr ⟨ta1 39 rfl rfl, List.forall_mem_cons.mpr ⟨ta1 41 rfl rfl, List.forall_mem_cons.mpr ⟨ta1 43 rfl rfl, List.forall_mem_cons.mpr ⟨ta1 45 rfl rfl, List.forall_mem_cons.mpr ⟨ta1 47 rfl rfl, List.forall_mem_cons.mpr ⟨ta1 49 rfl rfl, fun _ h => absurd h List.not_mem_nil⟩⟩⟩⟩⟩⟩⟩⟩⟩⟩⟩
theorem wx1 : ∀ w ∈ wsX10, w ∈ wA := by
  show ∀ w ∈ (List.range 3).map (u_lay RX1 TX1), w ∈ wA
  exact List.forall_mem_cons.mpr ⟨ta2 166 rfl rfl, List.forall_mem_cons.mpr ⟨ta2 168 rfl rfl, List.forall_mem_cons.mpr ⟨ta2 170 rfl rfl, fun _ h => absurd h List.not_mem_nil⟩⟩⟩
end
section
/-! OWN ROWS: a method's words, its start, loops, calls -/
def wm (y : MethodName) (c : ByteArray) (n : Nat) (r : Option FieldType) : List Cond := .code y c n r :: wA
theorem gm {y : MethodName} {c : ByteArray} {n : Nat} {r : Option FieldType} (h : Cond.code y c n r ∈ wA) : GoodIn wA (wm y c n r) := by
  intro w hw
  rcases List.mem_cons.mp hw with e | hw
  · rw [e]; exact gA _ h
  · exact gA _ hw
/-- what a call of an instance method needs of the words -/
abbrev IM (C : String) (y : MethodName) (c : ByteArray) (n : Nat) (r : Option FieldType) (k : Nat) : Prop :=
  (Cond.instanceMethod y ∈ wA ∧ Cond.selects C y y ∈ wA ∧ Cond.initialized C ∈ wA ∧ Cond.code y c n r ∈ wA) ∧ (y.cls = C ∧ y.cls ≠ "java/lang/invoke/MethodHandle" ∧ y.cls ≠ "java/lang/invoke/VarHandle" ∧ (parseMethodDescriptor y.desc).map (fun d => d.parameters.length) = some k)
abbrev SM (y : MethodName) (c : ByteArray) (n : Nat) (r : Option FieldType) (k : Nat) : Prop :=
  (Cond.static y ∈ wA ∧ Cond.initialized y.cls ∈ wA ∧ Cond.code y c n r ∈ wA) ∧ (y.cls ≠ "java/lang/invoke/MethodHandle" ∧ y.cls ≠ "java/lang/invoke/VarHandle" ∧ (parseMethodDescriptor y.desc).map (fun d => d.parameters.length) = some k)
theorem gV {own C : String} {idx : Nat} {y : MethodName} {c : ByteArray} {n : Nat} {r : Option FieldType} (h1 : Cond.methodLink own idx y ∈ wA) (h : Cond.instanceMethod y ∈ wA ∧ Cond.selects C y y ∈ wA ∧ Cond.initialized C ∈ wA ∧ Cond.code y c n r ∈ wA) : GoodIn wA (wsV own idx C y (wm y c n r)) := by
  intro w hw
  unfold wsV at hw
  rcases List.mem_append.mp hw with hw | hw
  · simp only [List.mem_cons, List.not_mem_nil, or_false] at hw
    rcases hw with e | e | e | e <;> rw [e]
    · exact gA _ h1
    · exact gA _ h.1
    · exact gA _ h.2.1
    · exact gA _ h.2.2.1
  · exact gm h.2.2.2 _ hw
theorem gS {own : String} {idx : Nat} {y : MethodName} {c : ByteArray} {n : Nat} {r : Option FieldType} (h1 : Cond.methodLink own idx y ∈ wA) (h : Cond.static y ∈ wA ∧ Cond.initialized y.cls ∈ wA ∧ Cond.code y c n r ∈ wA) : GoodIn wA (va_wsS own idx y (wm y c n r)) := by
  intro w hw
  unfold va_wsS at hw
  rcases List.mem_append.mp hw with hw | hw
  · simp only [List.mem_cons, List.not_mem_nil, or_false] at hw
    rcases hw with e | e | e <;> rw [e]
    · exact gA _ h1
    · exact gA _ h.1
    · exact gA _ h.2.1
  · exact gm h.2.2 _ hw
/-- a picture of the heap that the machine's own changes leave -/
def Mv (X : State → Heap → Prop) : Prop := ∀ (u U : State) (H : Heap), u.vm.Alike U.vm → X u H → X U H
theorem mvBlind {X : State → Heap → Prop} {av : List Value} (h : Mv X) : FrameBlind (va_Pc av (fun U => X U U.heap)) := by
  intro a U g mk q
  exact ⟨q.1, h U (U.calling g mk a) U.heap (Vm.Alike.refl U.vm) q.2⟩
theorem mvPre {X : State → Heap → Prop} {s U : State} {H : Heap} {av : List Value} (h : Mv X) (hX : X s H) (hU : U.heap = H) (hW : s.WarmedH U.vm) : va_Pc av (fun U => X U U.heap) av.toArray U := by
  refine ⟨rfl, ?_⟩
  show X U U.heap
  rw [hU]
  exact h s U H hW.alike hX
theorem Mv.and {X Y : State → Heap → Prop} (h1 : Mv X) (h2 : Mv Y) : Mv (fun U H => X U H ∧ Y U H) := fun u U H a h => ⟨h1 u U H a h.1, h2 u U H a h.2⟩
theorem Mv.const {P : Prop} : Mv (fun _ _ => P) := fun _ _ _ _ h => h
/-- a method's start -/
theorem mt {l : Launch} {y : MethodName} {cc : ByteArray} {maxL : Nat} {ret : Option FieldType} {rm : Room} {av : List Value} {Pre : State → Prop} {Qc : Array Value → State → Outcome → State → Prop} {mc ms : Nat} {free : Addr → Prop}
    (hy : plainName y.cls = true) (hsz : (lg_sl av).length ≤ maxL)
    (body : ∀ (p : Program) (e : Env) (s : State) (m : MethodId) (below : List Frame) (meth : Method) (c : Code) (ls : Array Slot), CallFix p m c cc maxL s av.toArray wA y.cls → meth.sig.returnType = ret → meth.locks = false → meth.name = y.name → Pre s → lv_has ls maxL (lv_args 0 av) →
      W p l e rm s m av.toArray below meth c s.heap [] 0 0 (MQ below Qc av.toArray s mc ms free) (F0 m 0 ls [])) : Met l y (wm y cc maxL ret) rm (va_Pc av Pre) Qc mc ms free := by
  refine Met.ofW (cc := cc) (maxL := maxL) (ret := ret) hy rfl ?_
  intro p e s m args below meth c s₁ B hml hv
  obtain ⟨rfl, hp⟩ := hv
  have hts := atoms_spec (ws := wm y cc maxL ret) B.pre
  have hl := lv_entry av hsz
  rw [lg_entry_eq]
  exact body p e s m below meth c _ ⟨B.exec, B.bytes, hml, findClass_of_methodNamed B.named, fun w h => hts w (List.mem_cons_of_mem _ h)⟩ B.returns B.notSynchronized (name_of_methodNamed B.named B.method).1 hp hl
/-- the same for a method of the JDK's own that is no native one -/
theorem mtF {l : Launch} {y : MethodName} {cc : ByteArray} {maxL : Nat} {ret : Option FieldType} {rm : Room} {av : List Value} {Pre : State → Prop} {Qc : Array Value → State → Outcome → State → Prop} {mc ms : Nat} {free : Addr → Prop}
    (hy : plainFor y = true) (hsz : (lg_sl av).length ≤ maxL)
    (body : ∀ (p : Program) (e : Env) (s : State) (m : MethodId) (below : List Frame) (meth : Method) (c : Code) (ls : Array Slot), CallFix p m c cc maxL s av.toArray wA y.cls → meth.sig.returnType = ret → meth.locks = false → meth.name = y.name → Pre s → lv_has ls maxL (lv_args 0 av) →
      W p l e rm s m av.toArray below meth c s.heap [] 0 0 (MQ below Qc av.toArray s mc ms free) (F0 m 0 ls [])) : Met l y (wm y cc maxL ret) rm (va_Pc av Pre) Qc mc ms free := by
  refine MetFree.of_bodySF (code := cc) (maxLocals := maxL) (ret := ret) hy ?_ ?_
  · intro args s m h hn
    obtain ⟨meth, c, h1, h2, h3, h4, h5, h6, -, -⟩ := Cond.code_spec hn (atoms_spec (ws := wm y cc maxL ret) h _ List.mem_cons_self)
    exact ⟨meth, c, h1, h2, h3, h4, h5, h6⟩
  · intro p e s m args below meth c s₁ B hml hP _
    obtain ⟨rfl, hp⟩ := hP
    have hts := atoms_spec (ws := wm y cc maxL ret) B.pre
    have hl := lv_entry av hsz
    have hh0 : s₁.heap = s.heap := by rw [B.state]; rfl
    have K := body p e s m below meth c _ ⟨B.exec, B.bytes, hml, findClass_of_methodNamed B.named, fun w h => hts w (List.mem_cons_of_mem _ h)⟩ B.returns B.notSynchronized (name_of_methodNamed B.named B.method).1 hp hl
    rw [← lg_entry_eq] at K
    obtain ⟨t, a1, o, b1, b2, b3⟩ := K s₁ hh0 (Stand.of_body B)
    exact ⟨t, o, a1, b1, b2, ⟨b3.1, b3.2⟩⟩
section OWN
variable {p : Program} {l : Launch} {e : Env} {R : Room} {s : State} {m : MethodId} {args : Array Value} {below : List Frame} {meth : Method} {c : Code} {H : Heap} {locs : List Loc} {cells slots : Nat} {Q : State → Prop}
variable {cc : ByteArray} {nL pc idx k maxL : Nat} {ls : Array Slot} {own C : String} {y : MethodName} {bytes : ByteArray} {ret : Option FieldType} {rm : Room} {b : Addr} {As rest st0 : List Value} {X : State → Heap → Prop}
/-- loops: a measure that falls -/
theorem lpW {σ : Type} {head : Nat} (I : σ → Array Slot → Prop) (μ : σ → Nat)
    (step : ∀ (x : σ) (ls : Array Slot), I x ls → (∀ (x' : σ) (ls' : Array Slot), μ x' < μ x → I x' ls' → W p l e R s m args below meth c H locs cells slots Q (F0 m head ls' st0)) → W p l e R s m args below meth c H locs cells slots Q (F0 m head ls st0))
    (x : σ) (h : I x ls) : W p l e R s m args below meth c H locs cells slots Q (F0 m head ls st0) := by
  have K : ∀ (n : Nat) (x : σ) (ls : Array Slot), μ x < n → I x ls → W p l e R s m args below meth c H locs cells slots Q (F0 m head ls st0) := by
    intro n
    induction n with
    | zero => intro x ls h; exact absurd h (Nat.not_lt_zero _)
    | succ n ih => intro x ls hn hI; exact step x ls hI (fun x' ls' h1 h2 => ih x' ls' (by omega) h2)
  exact K (μ x + 1) x ls (Nat.lt_succ_self _) h
theorem lpH {σ : Type} {head : Nat} (I : σ → Array Slot → Heap → List Loc → Prop) (μ : σ → Nat)
    (step : ∀ (x : σ) (ls : Array Slot) (H : Heap) (locs : List Loc), I x ls H locs → (∀ (x' : σ) (ls' : Array Slot) (H' : Heap) (locs' : List Loc), μ x' < μ x → I x' ls' H' locs' → W p l e R s m args below meth c H' locs' cells slots Q (F0 m head ls' st0)) → W p l e R s m args below meth c H locs cells slots Q (F0 m head ls st0))
    (x : σ) (h : I x ls H locs) : W p l e R s m args below meth c H locs cells slots Q (F0 m head ls st0) := by
  have K : ∀ (n : Nat) (x : σ) (ls : Array Slot) (H : Heap) (locs : List Loc), μ x < n → I x ls H locs → W p l e R s m args below meth c H locs cells slots Q (F0 m head ls st0) := by
    intro n
    induction n with
    | zero => intro x ls H locs h; exact absurd h (Nat.not_lt_zero _)
    | succ n ih => intro x ls H locs hn hI; exact step x ls H locs hI (fun x' ls' H' locs' h1 h2 => ih x' ls' H' locs' (by omega) h2)
  exact K (μ x + 1) x ls H locs (Nat.lt_succ_self _) h
theorem lpH2 {σ τ : Type} {head : Nat} (I : σ → τ → Array Slot → Heap → List Loc → Prop) (μ : σ → τ → Nat)
    (step : ∀ (x : σ) (y : τ) (ls : Array Slot) (H : Heap) (locs : List Loc), I x y ls H locs → (∀ (x' : σ) (y' : τ) (ls' : Array Slot) (H' : Heap) (locs' : List Loc), μ x' y' < μ x y → I x' y' ls' H' locs' → W p l e R s m args below meth c H' locs' cells slots Q (F0 m head ls' st0)) → W p l e R s m args below meth c H locs cells slots Q (F0 m head ls st0))
    (x : σ) (y : τ) (h : I x y ls H locs) : W p l e R s m args below meth c H locs cells slots Q (F0 m head ls st0) := by
  have K : ∀ (n : Nat) (x : σ) (y : τ) (ls : Array Slot) (H : Heap) (locs : List Loc), μ x y < n → I x y ls H locs → W p l e R s m args below meth c H locs cells slots Q (F0 m head ls st0) := by
    intro n
    induction n with
    | zero => intro x y ls H locs h; exact absurd h (Nat.not_lt_zero _)
    | succ n ih => intro x y ls H locs hn hI; exact step x y ls H locs hI (fun x' y' ls' H' locs' h1 h2 => ih x' y' ls' H' locs' (by omega) h2)
  exact K (μ x y + 1) x y ls H locs (Nat.lt_succ_self _) h
theorem wEnd {t : State} (hmv : Mv X) (hX : X s H) (ht : t.heap = H) (hW : s.WarmedH t.vm) : X t t.heap := by rw [ht]; exact hmv s t H hW.alike hX
theorem topI {x y : Int32} (h : x = y) (k : W p l e R s m args below meth c H locs cells slots Q (F0 m pc ls (.int y :: rest))) : W p l e R s m args below meth c H locs cells slots Q (F0 m pc ls (.int x :: rest)) := by subst h; exact k
theorem topL {x y : Int64} (h : x = y) (k : W p l e R s m args below meth c H locs cells slots Q (F0 m pc ls (.long y :: rest))) : W p l e R s m args below meth c H locs cells slots Q (F0 m pc ls (.long x :: rest)) := by subst h; exact k
abbrev Rc (C : String) (b : Addr) (s : State) (H : Heap) : Prop := ∃ cellB : Cell, H[b]? = some cellB ∧ cellB.vm.isStatics = false ∧ s.vm.findClass C = some cellB.cls
variable {σ : Type} {X1 : σ → State → Heap → Prop} {A0 A1 : Nat → Prop} {H0 : Heap} {mc ms : Nat} {free : Addr → Prop}

/-! calls of readers: the heap stays -/
theorem cVi {post : Int32 → Prop} (hF : CallFix p m c cc nL s args wA own) (hM : Met l y (wm y bytes maxL ret) rm (va_Pc (.ref b :: As) (fun U => X U U.heap)) (vp_Si post) 0 0 (fun _ => False)) (hmv : Mv X) (hX : X s H) (hrc : Rc C b s H) (hi : IM C y bytes maxL ret k) (hlk : Cond.methodLink own idx y ∈ wA)
    (h0 : rm.cells = 0 ∧ rm.slots = 0) (hR : rm.frames + 1 ≤ R.frames ∧ 8 + (maxL + 11) + rm.locals ≤ R.locals) (hk : As.length = k) (hsz : ls.size = nL) (hst : st0 = As.reverse ++ .ref b :: rest) (hW : (rest.map fun v => v.category).sum ≤ 8) (hcs : cells ≤ R.cells ∧ slots ≤ R.slots) (hdg : decode cc pc = .ok (.invokevirtual idx, 3))
    (kk : ∀ r : Int32, post r → W p l e R s m args below meth c H locs cells slots Q (F0 m (pc + 3) ls (.int r :: rest))) : W p l e R s m args below meth c H locs cells slots Q (F0 m pc ls st0) :=
  vp_callSi (W.runV hF hM (cwV k hF.2.2.2.2 (gV hlk hi.1) rfl h0.1 h0.2 hi.2 hR) ⟨mvBlind hmv, hrc, fun U hU hW => mvPre hmv hX hU hW⟩ rfl hk hsz hst (lv_room hW) hdg hcs) kk
theorem cVl {post : Int64 → Prop} (hF : CallFix p m c cc nL s args wA own) (hM : Met l y (wm y bytes maxL ret) rm (va_Pc (.ref b :: As) (fun U => X U U.heap)) (vp_Sl post) 0 0 (fun _ => False)) (hmv : Mv X) (hX : X s H) (hrc : Rc C b s H) (hi : IM C y bytes maxL ret k) (hlk : Cond.methodLink own idx y ∈ wA)
    (h0 : rm.cells = 0 ∧ rm.slots = 0) (hR : rm.frames + 1 ≤ R.frames ∧ 8 + (maxL + 11) + rm.locals ≤ R.locals) (hk : As.length = k) (hsz : ls.size = nL) (hst : st0 = As.reverse ++ .ref b :: rest) (hW : (rest.map fun v => v.category).sum ≤ 8) (hcs : cells ≤ R.cells ∧ slots ≤ R.slots) (hdg : decode cc pc = .ok (.invokevirtual idx, 3))
    (kk : ∀ r : Int64, post r → W p l e R s m args below meth c H locs cells slots Q (F0 m (pc + 3) ls (.long r :: rest))) : W p l e R s m args below meth c H locs cells slots Q (F0 m pc ls st0) :=
  vp_callSl (W.runV hF hM (cwV k hF.2.2.2.2 (gV hlk hi.1) rfl h0.1 h0.2 hi.2 hR) ⟨mvBlind hmv, hrc, fun U hU hW => mvPre hmv hX hU hW⟩ rfl hk hsz hst (lv_room hW) hdg hcs) kk
theorem cVd {post : UInt64 → Prop} (hF : CallFix p m c cc nL s args wA own) (hM : Met l y (wm y bytes maxL ret) rm (va_Pc (.ref b :: As) (fun U => X U U.heap)) (vp_Sd post) 0 0 (fun _ => False)) (hmv : Mv X) (hX : X s H) (hrc : Rc C b s H) (hi : IM C y bytes maxL ret k) (hlk : Cond.methodLink own idx y ∈ wA)
    (h0 : rm.cells = 0 ∧ rm.slots = 0) (hR : rm.frames + 1 ≤ R.frames ∧ 8 + (maxL + 11) + rm.locals ≤ R.locals) (hk : As.length = k) (hsz : ls.size = nL) (hst : st0 = As.reverse ++ .ref b :: rest) (hW : (rest.map fun v => v.category).sum ≤ 8) (hcs : cells ≤ R.cells ∧ slots ≤ R.slots) (hdg : decode cc pc = .ok (.invokevirtual idx, 3))
    (kk : ∀ r : UInt64, post r → W p l e R s m args below meth c H locs cells slots Q (F0 m (pc + 3) ls (.double r :: rest))) : W p l e R s m args below meth c H locs cells slots Q (F0 m pc ls st0) :=
  vp_callSd (W.runV hF hM (cwV k hF.2.2.2.2 (gV hlk hi.1) rfl h0.1 h0.2 hi.2 hR) ⟨mvBlind hmv, hrc, fun U hU hW => mvPre hmv hX hU hW⟩ rfl hk hsz hst (lv_room hW) hdg hcs) kk
theorem cVv {post : Unit → Prop} (hF : CallFix p m c cc nL s args wA own) (hM : Met l y (wm y bytes maxL ret) rm (va_Pc (.ref b :: As) (fun U => X U U.heap)) (va_Sv post) 0 0 (fun _ => False)) (hmv : Mv X) (hX : X s H) (hrc : Rc C b s H) (hi : IM C y bytes maxL ret k) (hlk : Cond.methodLink own idx y ∈ wA)
    (h0 : rm.cells = 0 ∧ rm.slots = 0) (hR : rm.frames + 1 ≤ R.frames ∧ 8 + (maxL + 11) + rm.locals ≤ R.locals) (hk : As.length = k) (hsz : ls.size = nL) (hst : st0 = As.reverse ++ .ref b :: rest) (hW : (rest.map fun v => v.category).sum ≤ 8) (hcs : cells ≤ R.cells ∧ slots ≤ R.slots) (hdg : decode cc pc = .ok (.invokevirtual idx, 3))
    (kk : W p l e R s m args below meth c H locs cells slots Q (F0 m (pc + 3) ls rest)) : W p l e R s m args below meth c H locs cells slots Q (F0 m pc ls st0) :=
  va_csv (W.runV hF hM (cwV k hF.2.2.2.2 (gV hlk hi.1) rfl h0.1 h0.2 hi.2 hR) ⟨mvBlind hmv, hrc, fun U hU hW => mvPre hmv hX hU hW⟩ rfl hk hsz hst (lv_room hW) hdg hcs) (fun _ => kk)
theorem cSi {post : Int32 → Prop} (hF : CallFix p m c cc nL s args wA own) (hM : Met l y (wm y bytes maxL ret) rm (va_Pc As (fun U => X U U.heap)) (vp_Si post) 0 0 (fun _ => False)) (hmv : Mv X) (hX : X s H) (hi : SM y bytes maxL ret k) (hlk : Cond.methodLink own idx y ∈ wA)
    (h0 : rm.cells = 0 ∧ rm.slots = 0) (hR : rm.frames + 1 ≤ R.frames ∧ 8 + (maxL + 11) + rm.locals ≤ R.locals) (hk : As.length = k) (hsz : ls.size = nL) (hst : st0 = As.reverse ++ rest) (hW : (rest.map fun v => v.category).sum ≤ 8) (hcs : cells ≤ R.cells ∧ slots ≤ R.slots) (hdg : decode cc pc = .ok (.invokestatic idx, 3))
    (kk : ∀ r : Int32, post r → W p l e R s m args below meth c H locs cells slots Q (F0 m (pc + 3) ls (.int r :: rest))) : W p l e R s m args below meth c H locs cells slots Q (F0 m pc ls st0) :=
  vp_callSi (W.runS hF hM (va_cwS k hF.2.2.2.2 (gS hlk hi.1) rfl h0.1 h0.2 hi.2 hR) ⟨mvBlind hmv, fun U hU hW => mvPre hmv hX hU hW⟩ rfl hk hsz hst (lv_room hW) hdg hcs) kk
theorem cSl {post : Int64 → Prop} (hF : CallFix p m c cc nL s args wA own) (hM : Met l y (wm y bytes maxL ret) rm (va_Pc As (fun U => X U U.heap)) (vp_Sl post) 0 0 (fun _ => False)) (hmv : Mv X) (hX : X s H) (hi : SM y bytes maxL ret k) (hlk : Cond.methodLink own idx y ∈ wA)
    (h0 : rm.cells = 0 ∧ rm.slots = 0) (hR : rm.frames + 1 ≤ R.frames ∧ 8 + (maxL + 11) + rm.locals ≤ R.locals) (hk : As.length = k) (hsz : ls.size = nL) (hst : st0 = As.reverse ++ rest) (hW : (rest.map fun v => v.category).sum ≤ 8) (hcs : cells ≤ R.cells ∧ slots ≤ R.slots) (hdg : decode cc pc = .ok (.invokestatic idx, 3))
    (kk : ∀ r : Int64, post r → W p l e R s m args below meth c H locs cells slots Q (F0 m (pc + 3) ls (.long r :: rest))) : W p l e R s m args below meth c H locs cells slots Q (F0 m pc ls st0) :=
  vp_callSl (W.runS hF hM (va_cwS k hF.2.2.2.2 (gS hlk hi.1) rfl h0.1 h0.2 hi.2 hR) ⟨mvBlind hmv, fun U hU hW => mvPre hmv hX hU hW⟩ rfl hk hsz hst (lv_room hW) hdg hcs) kk
theorem cSd {post : UInt64 → Prop} (hF : CallFix p m c cc nL s args wA own) (hM : Met l y (wm y bytes maxL ret) rm (va_Pc As (fun U => X U U.heap)) (vp_Sd post) 0 0 (fun _ => False)) (hmv : Mv X) (hX : X s H) (hi : SM y bytes maxL ret k) (hlk : Cond.methodLink own idx y ∈ wA)
    (h0 : rm.cells = 0 ∧ rm.slots = 0) (hR : rm.frames + 1 ≤ R.frames ∧ 8 + (maxL + 11) + rm.locals ≤ R.locals) (hk : As.length = k) (hsz : ls.size = nL) (hst : st0 = As.reverse ++ rest) (hW : (rest.map fun v => v.category).sum ≤ 8) (hcs : cells ≤ R.cells ∧ slots ≤ R.slots) (hdg : decode cc pc = .ok (.invokestatic idx, 3))
    (kk : ∀ r : UInt64, post r → W p l e R s m args below meth c H locs cells slots Q (F0 m (pc + 3) ls (.double r :: rest))) : W p l e R s m args below meth c H locs cells slots Q (F0 m pc ls st0) :=
  vp_callSd (W.runS hF hM (va_cwS k hF.2.2.2.2 (gS hlk hi.1) rfl h0.1 h0.2 hi.2 hR) ⟨mvBlind hmv, fun U hU hW => mvPre hmv hX hU hW⟩ rfl hk hsz hst (lv_room hW) hdg hcs) kk
theorem cSv {post : Unit → Prop} (hF : CallFix p m c cc nL s args wA own) (hM : Met l y (wm y bytes maxL ret) rm (va_Pc As (fun U => X U U.heap)) (va_Sv post) 0 0 (fun _ => False)) (hmv : Mv X) (hX : X s H) (hi : SM y bytes maxL ret k) (hlk : Cond.methodLink own idx y ∈ wA)
    (h0 : rm.cells = 0 ∧ rm.slots = 0) (hR : rm.frames + 1 ≤ R.frames ∧ 8 + (maxL + 11) + rm.locals ≤ R.locals) (hk : As.length = k) (hsz : ls.size = nL) (hst : st0 = As.reverse ++ rest) (hW : (rest.map fun v => v.category).sum ≤ 8) (hcs : cells ≤ R.cells ∧ slots ≤ R.slots) (hdg : decode cc pc = .ok (.invokestatic idx, 3))
    (kk : W p l e R s m args below meth c H locs cells slots Q (F0 m (pc + 3) ls rest)) : W p l e R s m args below meth c H locs cells slots Q (F0 m pc ls st0) :=
  va_csv (W.runS hF hM (va_cwS k hF.2.2.2.2 (gS hlk hi.1) rfl h0.1 h0.2 hi.2 hR) ⟨mvBlind hmv, fun U hU hW => mvPre hmv hX hU hW⟩ rfl hk hsz hst (lv_room hW) hdg hcs) (fun _ => kk)
/-! calls of writers -/
theorem wVi {post : Int32 → σ → Prop} (hF : CallFix p m c cc nL s args wA own) (hM : Met l y (wm y bytes maxL ret) rm (va_Pc (.ref b :: As) (fun U => X U U.heap)) (va_Qi post (fun u U => X1 u U U.heap) A1) mc ms free) (hmv : Mv X) (hmv1 : ∀ u, Mv (X1 u)) (hX : X s H) (hrc : Rc C b s H) (hi : IM C y bytes maxL ret k) (hlk : Cond.methodLink own idx y ∈ wA)
    (h0 : rm.cells = mc ∧ rm.slots = ms) (hR : rm.frames + 1 ≤ R.frames ∧ 8 + (maxL + 11) + rm.locals ≤ R.locals) (hk : As.length = k) (hsz : ls.size = nL) (hst : st0 = As.reverse ++ .ref b :: rest) (hW : (rest.map fun v => v.category).sum ≤ 8) (hcs : cells + mc ≤ R.cells ∧ slots + ms ≤ R.slots) (hS : va_S A0 H0 H locs) (hA : ∀ q, q < H.size → A1 q → A0 q) (hf : ∀ q, free q → A0 q) (hdg : decode cc pc = .ok (.invokevirtual idx, 3))
    (kk : ∀ (r : Int32) (u : σ) (H1 : Heap) (locs1 : List Loc), post r u → X1 u s H1 → H.size ≤ H1.size → (∀ q : Nat, q < H.size → ¬ A1 q → H1[q]? = H[q]?) → va_S A0 H0 H1 locs1 → W p l e R s m args below meth c H1 locs1 (cells + mc) (slots + ms) Q (F0 m (pc + 3) ls (.int r :: rest))) : W p l e R s m args below meth c H locs cells slots Q (F0 m pc ls st0) :=
  va_calli (va_runV hF hM (cwV k hF.2.2.2.2 (gV hlk hi.1) rfl h0.1 h0.2 hi.2 hR) ⟨mvBlind hmv, hrc, fun U hU hW => mvPre hmv hX hU hW⟩ rfl hk hsz hst (lv_room hW) hdg hcs) hS hA hf (fun r u t H1 locs1 ht hvm hp hB hz hk1 hS1 => kk r u H1 locs1 hp (by subst ht; exact hmv1 u t s t.heap hvm.symm hB) hz hk1 hS1)
theorem wVl {post : Int64 → σ → Prop} (hF : CallFix p m c cc nL s args wA own) (hM : Met l y (wm y bytes maxL ret) rm (va_Pc (.ref b :: As) (fun U => X U U.heap)) (va_Ql post (fun u U => X1 u U U.heap) A1) mc ms free) (hmv : Mv X) (hmv1 : ∀ u, Mv (X1 u)) (hX : X s H) (hrc : Rc C b s H) (hi : IM C y bytes maxL ret k) (hlk : Cond.methodLink own idx y ∈ wA)
    (h0 : rm.cells = mc ∧ rm.slots = ms) (hR : rm.frames + 1 ≤ R.frames ∧ 8 + (maxL + 11) + rm.locals ≤ R.locals) (hk : As.length = k) (hsz : ls.size = nL) (hst : st0 = As.reverse ++ .ref b :: rest) (hW : (rest.map fun v => v.category).sum ≤ 8) (hcs : cells + mc ≤ R.cells ∧ slots + ms ≤ R.slots) (hS : va_S A0 H0 H locs) (hA : ∀ q, q < H.size → A1 q → A0 q) (hf : ∀ q, free q → A0 q) (hdg : decode cc pc = .ok (.invokevirtual idx, 3))
    (kk : ∀ (r : Int64) (u : σ) (H1 : Heap) (locs1 : List Loc), post r u → X1 u s H1 → H.size ≤ H1.size → (∀ q : Nat, q < H.size → ¬ A1 q → H1[q]? = H[q]?) → va_S A0 H0 H1 locs1 → W p l e R s m args below meth c H1 locs1 (cells + mc) (slots + ms) Q (F0 m (pc + 3) ls (.long r :: rest))) : W p l e R s m args below meth c H locs cells slots Q (F0 m pc ls st0) :=
  va_calll (va_runV hF hM (cwV k hF.2.2.2.2 (gV hlk hi.1) rfl h0.1 h0.2 hi.2 hR) ⟨mvBlind hmv, hrc, fun U hU hW => mvPre hmv hX hU hW⟩ rfl hk hsz hst (lv_room hW) hdg hcs) hS hA hf (fun r u t H1 locs1 ht hvm hp hB hz hk1 hS1 => kk r u H1 locs1 hp (by subst ht; exact hmv1 u t s t.heap hvm.symm hB) hz hk1 hS1)
theorem wVd {post : UInt64 → σ → Prop} (hF : CallFix p m c cc nL s args wA own) (hM : Met l y (wm y bytes maxL ret) rm (va_Pc (.ref b :: As) (fun U => X U U.heap)) (va_Qd post (fun u U => X1 u U U.heap) A1) mc ms free) (hmv : Mv X) (hmv1 : ∀ u, Mv (X1 u)) (hX : X s H) (hrc : Rc C b s H) (hi : IM C y bytes maxL ret k) (hlk : Cond.methodLink own idx y ∈ wA)
    (h0 : rm.cells = mc ∧ rm.slots = ms) (hR : rm.frames + 1 ≤ R.frames ∧ 8 + (maxL + 11) + rm.locals ≤ R.locals) (hk : As.length = k) (hsz : ls.size = nL) (hst : st0 = As.reverse ++ .ref b :: rest) (hW : (rest.map fun v => v.category).sum ≤ 8) (hcs : cells + mc ≤ R.cells ∧ slots + ms ≤ R.slots) (hS : va_S A0 H0 H locs) (hA : ∀ q, q < H.size → A1 q → A0 q) (hf : ∀ q, free q → A0 q) (hdg : decode cc pc = .ok (.invokevirtual idx, 3))
    (kk : ∀ (r : UInt64) (u : σ) (H1 : Heap) (locs1 : List Loc), post r u → X1 u s H1 → H.size ≤ H1.size → (∀ q : Nat, q < H.size → ¬ A1 q → H1[q]? = H[q]?) → va_S A0 H0 H1 locs1 → W p l e R s m args below meth c H1 locs1 (cells + mc) (slots + ms) Q (F0 m (pc + 3) ls (.double r :: rest))) : W p l e R s m args below meth c H locs cells slots Q (F0 m pc ls st0) :=
  va_calld (va_runV hF hM (cwV k hF.2.2.2.2 (gV hlk hi.1) rfl h0.1 h0.2 hi.2 hR) ⟨mvBlind hmv, hrc, fun U hU hW => mvPre hmv hX hU hW⟩ rfl hk hsz hst (lv_room hW) hdg hcs) hS hA hf (fun r u t H1 locs1 ht hvm hp hB hz hk1 hS1 => kk r u H1 locs1 hp (by subst ht; exact hmv1 u t s t.heap hvm.symm hB) hz hk1 hS1)
theorem wVv {post : σ → Prop} (hF : CallFix p m c cc nL s args wA own) (hM : Met l y (wm y bytes maxL ret) rm (va_Pc (.ref b :: As) (fun U => X U U.heap)) (va_Qv post (fun u U => X1 u U U.heap) A1) mc ms free) (hmv : Mv X) (hmv1 : ∀ u, Mv (X1 u)) (hX : X s H) (hrc : Rc C b s H) (hi : IM C y bytes maxL ret k) (hlk : Cond.methodLink own idx y ∈ wA)
    (h0 : rm.cells = mc ∧ rm.slots = ms) (hR : rm.frames + 1 ≤ R.frames ∧ 8 + (maxL + 11) + rm.locals ≤ R.locals) (hk : As.length = k) (hsz : ls.size = nL) (hst : st0 = As.reverse ++ .ref b :: rest) (hW : (rest.map fun v => v.category).sum ≤ 8) (hcs : cells + mc ≤ R.cells ∧ slots + ms ≤ R.slots) (hS : va_S A0 H0 H locs) (hA : ∀ q, q < H.size → A1 q → A0 q) (hf : ∀ q, free q → A0 q) (hdg : decode cc pc = .ok (.invokevirtual idx, 3))
    (kk : ∀ (u : σ) (H1 : Heap) (locs1 : List Loc), post u → X1 u s H1 → H.size ≤ H1.size → (∀ q : Nat, q < H.size → ¬ A1 q → H1[q]? = H[q]?) → va_S A0 H0 H1 locs1 → W p l e R s m args below meth c H1 locs1 (cells + mc) (slots + ms) Q (F0 m (pc + 3) ls rest)) : W p l e R s m args below meth c H locs cells slots Q (F0 m pc ls st0) :=
  va_callv (va_runV hF hM (cwV k hF.2.2.2.2 (gV hlk hi.1) rfl h0.1 h0.2 hi.2 hR) ⟨mvBlind hmv, hrc, fun U hU hW => mvPre hmv hX hU hW⟩ rfl hk hsz hst (lv_room hW) hdg hcs) hS hA hf (fun u t H1 locs1 ht hvm hp hB hz hk1 hS1 => kk u H1 locs1 hp (by subst ht; exact hmv1 u t s t.heap hvm.symm hB) hz hk1 hS1)
theorem wSi {post : Int32 → σ → Prop} (hF : CallFix p m c cc nL s args wA own) (hM : Met l y (wm y bytes maxL ret) rm (va_Pc As (fun U => X U U.heap)) (va_Qi post (fun u U => X1 u U U.heap) A1) mc ms free) (hmv : Mv X) (hmv1 : ∀ u, Mv (X1 u)) (hX : X s H) (hi : SM y bytes maxL ret k) (hlk : Cond.methodLink own idx y ∈ wA)
    (h0 : rm.cells = mc ∧ rm.slots = ms) (hR : rm.frames + 1 ≤ R.frames ∧ 8 + (maxL + 11) + rm.locals ≤ R.locals) (hk : As.length = k) (hsz : ls.size = nL) (hst : st0 = As.reverse ++ rest) (hW : (rest.map fun v => v.category).sum ≤ 8) (hcs : cells + mc ≤ R.cells ∧ slots + ms ≤ R.slots) (hS : va_S A0 H0 H locs) (hA : ∀ q, q < H.size → A1 q → A0 q) (hf : ∀ q, free q → A0 q) (hdg : decode cc pc = .ok (.invokestatic idx, 3))
    (kk : ∀ (r : Int32) (u : σ) (H1 : Heap) (locs1 : List Loc), post r u → X1 u s H1 → H.size ≤ H1.size → (∀ q : Nat, q < H.size → ¬ A1 q → H1[q]? = H[q]?) → va_S A0 H0 H1 locs1 → W p l e R s m args below meth c H1 locs1 (cells + mc) (slots + ms) Q (F0 m (pc + 3) ls (.int r :: rest))) : W p l e R s m args below meth c H locs cells slots Q (F0 m pc ls st0) :=
  va_calli (va_runS hF hM (va_cwS k hF.2.2.2.2 (gS hlk hi.1) rfl h0.1 h0.2 hi.2 hR) ⟨mvBlind hmv, fun U hU hW => mvPre hmv hX hU hW⟩ rfl hk hsz hst (lv_room hW) hdg hcs) hS hA hf (fun r u t H1 locs1 ht hvm hp hB hz hk1 hS1 => kk r u H1 locs1 hp (by subst ht; exact hmv1 u t s t.heap hvm.symm hB) hz hk1 hS1)
theorem wSl {post : Int64 → σ → Prop} (hF : CallFix p m c cc nL s args wA own) (hM : Met l y (wm y bytes maxL ret) rm (va_Pc As (fun U => X U U.heap)) (va_Ql post (fun u U => X1 u U U.heap) A1) mc ms free) (hmv : Mv X) (hmv1 : ∀ u, Mv (X1 u)) (hX : X s H) (hi : SM y bytes maxL ret k) (hlk : Cond.methodLink own idx y ∈ wA)
    (h0 : rm.cells = mc ∧ rm.slots = ms) (hR : rm.frames + 1 ≤ R.frames ∧ 8 + (maxL + 11) + rm.locals ≤ R.locals) (hk : As.length = k) (hsz : ls.size = nL) (hst : st0 = As.reverse ++ rest) (hW : (rest.map fun v => v.category).sum ≤ 8) (hcs : cells + mc ≤ R.cells ∧ slots + ms ≤ R.slots) (hS : va_S A0 H0 H locs) (hA : ∀ q, q < H.size → A1 q → A0 q) (hf : ∀ q, free q → A0 q) (hdg : decode cc pc = .ok (.invokestatic idx, 3))
    (kk : ∀ (r : Int64) (u : σ) (H1 : Heap) (locs1 : List Loc), post r u → X1 u s H1 → H.size ≤ H1.size → (∀ q : Nat, q < H.size → ¬ A1 q → H1[q]? = H[q]?) → va_S A0 H0 H1 locs1 → W p l e R s m args below meth c H1 locs1 (cells + mc) (slots + ms) Q (F0 m (pc + 3) ls (.long r :: rest))) : W p l e R s m args below meth c H locs cells slots Q (F0 m pc ls st0) :=
  va_calll (va_runS hF hM (va_cwS k hF.2.2.2.2 (gS hlk hi.1) rfl h0.1 h0.2 hi.2 hR) ⟨mvBlind hmv, fun U hU hW => mvPre hmv hX hU hW⟩ rfl hk hsz hst (lv_room hW) hdg hcs) hS hA hf (fun r u t H1 locs1 ht hvm hp hB hz hk1 hS1 => kk r u H1 locs1 hp (by subst ht; exact hmv1 u t s t.heap hvm.symm hB) hz hk1 hS1)
theorem wSd {post : UInt64 → σ → Prop} (hF : CallFix p m c cc nL s args wA own) (hM : Met l y (wm y bytes maxL ret) rm (va_Pc As (fun U => X U U.heap)) (va_Qd post (fun u U => X1 u U U.heap) A1) mc ms free) (hmv : Mv X) (hmv1 : ∀ u, Mv (X1 u)) (hX : X s H) (hi : SM y bytes maxL ret k) (hlk : Cond.methodLink own idx y ∈ wA)
    (h0 : rm.cells = mc ∧ rm.slots = ms) (hR : rm.frames + 1 ≤ R.frames ∧ 8 + (maxL + 11) + rm.locals ≤ R.locals) (hk : As.length = k) (hsz : ls.size = nL) (hst : st0 = As.reverse ++ rest) (hW : (rest.map fun v => v.category).sum ≤ 8) (hcs : cells + mc ≤ R.cells ∧ slots + ms ≤ R.slots) (hS : va_S A0 H0 H locs) (hA : ∀ q, q < H.size → A1 q → A0 q) (hf : ∀ q, free q → A0 q) (hdg : decode cc pc = .ok (.invokestatic idx, 3))
    (kk : ∀ (r : UInt64) (u : σ) (H1 : Heap) (locs1 : List Loc), post r u → X1 u s H1 → H.size ≤ H1.size → (∀ q : Nat, q < H.size → ¬ A1 q → H1[q]? = H[q]?) → va_S A0 H0 H1 locs1 → W p l e R s m args below meth c H1 locs1 (cells + mc) (slots + ms) Q (F0 m (pc + 3) ls (.double r :: rest))) : W p l e R s m args below meth c H locs cells slots Q (F0 m pc ls st0) :=
  va_calld (va_runS hF hM (va_cwS k hF.2.2.2.2 (gS hlk hi.1) rfl h0.1 h0.2 hi.2 hR) ⟨mvBlind hmv, fun U hU hW => mvPre hmv hX hU hW⟩ rfl hk hsz hst (lv_room hW) hdg hcs) hS hA hf (fun r u t H1 locs1 ht hvm hp hB hz hk1 hS1 => kk r u H1 locs1 hp (by subst ht; exact hmv1 u t s t.heap hvm.symm hB) hz hk1 hS1)
theorem wSv {post : σ → Prop} (hF : CallFix p m c cc nL s args wA own) (hM : Met l y (wm y bytes maxL ret) rm (va_Pc As (fun U => X U U.heap)) (va_Qv post (fun u U => X1 u U U.heap) A1) mc ms free) (hmv : Mv X) (hmv1 : ∀ u, Mv (X1 u)) (hX : X s H) (hi : SM y bytes maxL ret k) (hlk : Cond.methodLink own idx y ∈ wA)
    (h0 : rm.cells = mc ∧ rm.slots = ms) (hR : rm.frames + 1 ≤ R.frames ∧ 8 + (maxL + 11) + rm.locals ≤ R.locals) (hk : As.length = k) (hsz : ls.size = nL) (hst : st0 = As.reverse ++ rest) (hW : (rest.map fun v => v.category).sum ≤ 8) (hcs : cells + mc ≤ R.cells ∧ slots + ms ≤ R.slots) (hS : va_S A0 H0 H locs) (hA : ∀ q, q < H.size → A1 q → A0 q) (hf : ∀ q, free q → A0 q) (hdg : decode cc pc = .ok (.invokestatic idx, 3))
    (kk : ∀ (u : σ) (H1 : Heap) (locs1 : List Loc), post u → X1 u s H1 → H.size ≤ H1.size → (∀ q : Nat, q < H.size → ¬ A1 q → H1[q]? = H[q]?) → va_S A0 H0 H1 locs1 → W p l e R s m args below meth c H1 locs1 (cells + mc) (slots + ms) Q (F0 m (pc + 3) ls rest)) : W p l e R s m args below meth c H locs cells slots Q (F0 m pc ls st0) :=
  va_callv (va_runS hF hM (va_cwS k hF.2.2.2.2 (gS hlk hi.1) rfl h0.1 h0.2 hi.2 hR) ⟨mvBlind hmv, fun U hU hW => mvPre hmv hX hU hW⟩ rfl hk hsz hst (lv_room hW) hdg hcs) hS hA hf (fun u t H1 locs1 ht hvm hp hB hz hk1 hS1 => kk u H1 locs1 hp (by subst ht; exact hmv1 u t s t.heap hvm.symm hB) hz hk1 hS1)
end OWN
end
section
/-! WORLDS: the class's cells and the model's -/
def b2i (b : Bool) : Int32 := if b = true then 1 else 0
def ap (n : Nat) (q : Nat → Nat) : Prop := ∀ i j : Nat, i < n → j < n → q i = q j → i = j
def own (n : Nat) (q : Nat → Nat) : Nat → Prop := fun a => ∃ i : Nat, i < n ∧ a = q i
theorem apD {n : Nat} {q : Nat → Nat} {ws : va_W} (h : ap n q) (hw : ws.map Prod.fst = (List.range n).map q) : va_D (own n q) ws := by
  have g : ∀ (i : Nat) (p : Nat × va_E), ws[i]? = some p → i < n ∧ p.1 = q i := by
    intro i p hi
    have h1 : (ws.map Prod.fst)[i]? = some p.1 := by rw [List.getElem?_map, hi]; rfl
    rw [hw, List.getElem?_map] at h1
    have hlt : i < n := by
      rcases Nat.lt_or_ge i n with hc | hc
      · exact hc
      · rw [List.getElem?_eq_none (by simpa using hc)] at h1
        cases h1
    rw [List.getElem?_range hlt] at h1
    exact ⟨hlt, (Option.some.inj h1).symm⟩
  refine ⟨fun i j p r hi hj e => ?_, fun i p hi => ⟨i, (g i p hi).1, (g i p hi).2⟩⟩
  obtain ⟨h1, h2⟩ := g i p hi
  obtain ⟨h3, h4⟩ := g j r hj
  exact h i j h1 h3 (by rw [← h2, ← h4]; exact e)
theorem apA {n : Nat} {q : Nat → Nat} {ws : va_W} {A : Nat → Prop} (h : va_D (own n q) ws) (hA : ∀ a, own n q a → A a) : va_D A ws := ⟨h.1, fun k p hp => hA _ (h.2 k p hp)⟩
theorem apOf {n : Nat} {q : Nat → Nat} {ws : va_W} {A : Nat → Prop} (h : va_D A ws) (hw : ws.map Prod.fst = (List.range n).map q) : ap n q ∧ ∀ a, own n q a → A a := by
  have g : ∀ i, i < n → ∃ x : va_E, ws[i]? = some (q i, x) := by
    intro i hi
    have h1 : (ws.map Prod.fst)[i]? = some (q i) := by
      rw [hw, List.getElem?_map, List.getElem?_range hi]
      rfl
    rw [List.getElem?_map] at h1
    cases h2 : ws[i]? with
    | none => rw [h2] at h1; cases h1
    | some p =>
      rw [h2] at h1
      exact ⟨p.2, by rw [← Option.some.inj h1]⟩
  refine ⟨fun i j hi hj e => ?_, fun a ha => ?_⟩
  · obtain ⟨x, hx⟩ := g i hi
    obtain ⟨y, hy⟩ := g j hj
    exact h.1 i j _ _ hx hy e
  · obtain ⟨i, hi, e⟩ := ha
    obtain ⟨x, hx⟩ := g i hi
    rw [e]
    exact h.2 i _ hx
theorem apP {n : Nat} {D : va_G} {q : Nat → Nat} {ws : va_W} {H : Heap} (hP : va_P D vwCl ws H) (hw : ws.map Prod.fst = (List.range n).map q) {a : Nat} (ha : own n q a) : a < H.size := by
  obtain ⟨i, hi, e⟩ := ha
  have h1 : (ws.map Prod.fst)[i]? = some a := by
    rw [hw, List.getElem?_map, List.getElem?_range hi, e]
    rfl
  rw [List.getElem?_map] at h1
  cases h2 : ws[i]? with
  | none => rw [h2] at h1; cases h1
  | some p =>
    rw [h2] at h1
    rw [← (Option.some.inj h1)]
    exact (hP i p h2).lt
theorem apK {n : Nat} {D : va_G} {q : Nat → Nat} {ws : va_W} {H H1 : Heap} (hP : va_P D vwCl ws H) (hw : ws.map Prod.fst = (List.range n).map q) (hk : ∀ a : Nat, own n q a → H1[a]? = H[a]?) : va_P D vwCl ws H1 := by
  intro k p hp
  refine (hP k p hp).kept (hk p.1 ?_)
  have h1 : (ws.map Prod.fst)[k]? = some p.1 := by rw [List.getElem?_map, hp]; rfl
  rw [hw, List.getElem?_map] at h1
  rcases Nat.lt_or_ge k n with hc | hc
  · rw [List.getElem?_range hc] at h1
    exact ⟨k, hc, (Option.some.inj h1).symm⟩
  · rw [List.getElem?_eq_none (by simpa using hc)] at h1
    cases h1
section ROWS
variable {p : Program} {l : Launch} {e : Env} {R : Room} {s : State} {m : MethodId} {args : Array Value} {below : List Frame} {meth : Method} {c : Code} {H : Heap} {locs : List Loc} {cells slots : Nat} {Q : State → Prop}
variable {cc : ByteArray} {nL pc idx a : Nat} {ls : Array Slot} {own0 : String} {rest : List Value} {D : va_G} {tys : List (ClassId × FieldType)} {ws : va_W}
/-- a number of an int array, its place a number -/
theorem aldI (hF : CallFix p m c cc nL s args wA own0) (hK : va_K D vwCl tys s) (hP : va_P D vwCl ws H) (q0 t0 : Nat) {cA : ClassId} {n : Nat} {f : Nat → Int32} (ha : ws[q0]? = some (a, .inl (cA, n, .inl f))) (ht : tys[t0]? = some (cA, .int)) (j : Nat) (hj : j < n) (hn : n < 2 ^ 31) {x : Int32} (hx : x = nI j) (hdg : decode cc pc = .ok (.iaload, 1))
    (kk : W p l e R s m args below meth c H locs cells slots Q (F0 m (pc + 1) ls (.int (f j) :: rest))) : W p l e R s m args below meth c H locs cells slots Q (F0 m pc ls (.int x :: .ref a :: rest)) := by
  subst hx
  refine va_iald hF.1 hF.2.1 hK hP q0 t0 ha ht (vp_in_nI hj hn) hdg ?_
  rw [nI_clamp (Nat.lt_trans hj hn)]
  exact kk
theorem aldZ (hF : CallFix p m c cc nL s args wA own0) (hK : va_K D vwCl tys s) (hP : va_P D vwCl ws H) (q0 t0 : Nat) {cA : ClassId} {n : Nat} {f : Nat → Int32} (ha : ws[q0]? = some (a, .inl (cA, n, .inl f))) (ht : tys[t0]? = some (cA, .boolean)) (j : Nat) (hj : j < n) (hn : n < 2 ^ 31) {x : Int32} (hx : x = nI j) (hdg : decode cc pc = .ok (.baload, 1))
    (kk : W p l e R s m args below meth c H locs cells slots Q (F0 m (pc + 1) ls (.int (f j) :: rest))) : W p l e R s m args below meth c H locs cells slots Q (F0 m pc ls (.int x :: .ref a :: rest)) := by
  subst hx
  refine va_zald hF.1 hF.2.1 hK hP q0 t0 ha ht (vp_in_nI hj hn) hdg ?_
  rw [nI_clamp (Nat.lt_trans hj hn)]
  exact kk
/-- a table that nobody writes -/
theorem aldT {A : Nat → Prop} {t N : Nat} {f : Nat → Value} (hF : CallFix p m c cc nL s args wA own0) (hT : va_T .int t N f A s s.heap) (hS : va_S A s.heap H locs) (j : Nat) (hj : j < N) (hn : N < 2 ^ 31) {x : Int32} (hx : x = nI j) {v : Int32} (hv : f j = .int v) (hdg : decode cc pc = .ok (.iaload, 1))
    (kk : W p l e R s m args below meth c H locs cells slots Q (F0 m (pc + 1) ls (.int v :: rest))) : W p l e R s m args below meth c H locs cells slots Q (F0 m pc ls (.int x :: .ref t :: rest)) := by
  subst hx
  exact va_ti hF.1 hF.2.1 hT hS (vp_in_nI hj hn) (by rw [nI_clamp (Nat.lt_trans hj hn)]; exact hv) hdg kk
end ROWS
def fC (q : Nat → Nat) (n : Int32) (st : Int32) (v : Nat → Nat → Int32) (mk : Nat → Bool) (w : Nat → Nat → Int32) : List Value := [.ref (q 1), .ref (q 2), .ref (q 3), .ref (q 4), .ref (q 5), .int n, .int st, .ref (q 6), .ref (q 7), .ref (q 8), .ref (q 9)]
def cwC (cyI cyZ : ClassId) (q : Nat → Nat) (n : Int32) (st : Int32) (v : Nat → Nat → Int32) (mk : Nat → Bool) (w : Nat → Nat → Int32) : va_W := [(q 0, .inr (0, fC q n st v mk w)), (q 1, .inl (cyI, 16, .inl (v 0))), (q 2, .inl (cyI, 16, .inl (v 1))), (q 3, .inl (cyI, 16, .inl (v 2))), (q 4, .inl (cyZ, 16, .inl (fun j => b2i (mk j)))), (q 5, .inl (cyI, 10, .inl (v 3))), (q 6, .inl (cyI, 16, .inl (w 0))), (q 7, .inl (cyI, 16, .inl (w 1))), (q 8, .inl (cyI, 16, .inl (w 2))), (q 9, .inl (cyI, 16, .inl (w 3)))]
def C0 (D : va_G) (cyI cyZ : ClassId) (q : Nat → Nat) (n : Int32) (st : Int32) (v : Nat → Nat → Int32) (mk : Nat → Bool) (w : Nat → Nat → Int32) : State → Heap → Prop := fun U H => va_P D vwCl (cwC cyI cyZ q n st v mk w) H ∧ va_K D vwCl [(cyI, .int), (cyZ, .boolean)] U ∧ ap 10 q
section CR
variable {p : Program} {l : Launch} {e : Env} {R : Room} {s : State} {m : MethodId} {args : Array Value} {below : List Frame} {meth : Method} {c : Code} {H : Heap} {locs : List Loc} {cells slots : Nat} {Q : State → Prop}
variable {cc : ByteArray} {nL pc idx : Nat} {ls : Array Slot} {rest : List Value} {D : va_G} {cyI cyZ : ClassId} {q : Nat → Nat} {n : Int32} {st : Int32} {v : Nat → Nat → Int32} {mk : Nat → Bool} {w : Nat → Nat → Int32} {H0 : Heap}
theorem C0.mv : Mv (C0 D cyI cyZ q n st v mk w) := fun _ _ _ a h => ⟨h.1, va_K.moved a h.2.1, h.2.2⟩
theorem C0.rc (h : C0 D cyI cyZ q n st v mk w s H) : Rc RX0 (q 0) s H := va_recv h.2.1 h.1 (ci := 0) (q0 := 0) rfl rfl
theorem C0.apart (h : C0 D cyI cyZ q n st v mk w s H) : va_D (own 10 q) (cwC cyI cyZ q n st v mk w) := apD h.2.2 rfl
theorem C0.lt (h : C0 D cyI cyZ q n st v mk w s H) {a : Nat} (ha : own 10 q a) : a < H.size := apP h.1 rfl ha
theorem C0.kept {H1 : Heap} (h : C0 D cyI cyZ q n st v mk w s H) (hk : ∀ a : Nat, own 10 q a → H1[a]? = H[a]?) : C0 D cyI cyZ q n st v mk w s H1 := ⟨apK h.1 rfl hk, h.2.1, h.2.2⟩
/-- a field is read -/
theorem C0.get (hF : CallFix p m c cc nL s args wA RX0) (hX : C0 D cyI cyZ q n st v mk w s H) (j : Nat) (hj : j < 11) {val : Value} (hv : (fC q n st v mk w)[j]? = some val) {nm ds : String} (hn : TX0 j = ("MapSongs", nm, ds, (TX0 j).2.2.2)) (hl : Cond.fieldLink RX0 idx "MapSongs" nm ds ∈ wA) (hdg : decode cc pc = .ok (.getfield idx, 3))
    (kk : W p l e R s m args below meth c H locs cells slots Q (F0 m (pc + 3) ls (val :: rest))) : W p l e R s m args below meth c H locs cells slots Q (F0 m pc ls (.ref (q 0) :: rest)) := by
  have h1 : (TX0 j).1 = "MapSongs" := by rw [hn]
  have h2 : (TX0 j).2.1 = nm := by rw [hn]
  have h3 : (TX0 j).2.2.1 = ds := by rw [hn]
  exact va_get (D := D) (ci := 0) (C := RX0) (T := TX0) (N := 11) (ref := "MapSongs") hF.1 hF.2.1 hF.2.2.2.2 wx0 hF.2.2.2.1 hX.2.1 hX.1 0 rfl rfl j hj (by rw [h2, h3]; exact hF.2.2.2.2 _ hl) (by rw [h1]; exact fun _ h9 => h9) hv hdg kk
theorem C0.put_n {x : Int32} (hF : CallFix p m c cc nL s args wA RX0) (hX : C0 D cyI cyZ q n st v mk w s H) {A : Nat → Prop} (hS : va_S A H0 H locs) (hl : Cond.fieldLink RX0 idx "MapSongs" "legCount" "I" ∈ wA) (hdg : decode cc pc = .ok (.putfield idx, 3))
    (kk : ∀ (H1 : Heap) (locs1 : List Loc), C0 D cyI cyZ q x st v mk w s H1 → va_S A H0 H1 locs1 → W p l e R s m args below meth c H1 locs1 cells slots Q (F0 m (pc + 3) ls rest)) (hAq : ∀ a, own 10 q a → A a := by exact fun _ h => h) : W p l e R s m args below meth c H locs cells slots Q (F0 m pc ls (.int x :: .ref (q 0) :: rest)) :=
  va_put (D := D) (ci := 0) (v := .int x) (ty := .int) (C := RX0) (T := TX0) (N := 11) hF.1 hF.2.1 hF.2.2.2.2 wx0 tyX0 tyX0_ok nmX0 hF.2.2.2.1 hX.2.1 hX.1 (apA hX.apart hAq) hS 0 rfl rfl 5 (by decide) (hF.2.2.2.2 _ hl) (fun _ h9 => h9) rfl (by decide +kernel) rfl rfl (Nat.le_of_ble_eq_true rfl) hdg (fun H1 locs1 hP _ hS1 => kk H1 locs1 ⟨hP, hX.2.1, hX.2.2⟩ hS1)
theorem C0.put_st {x : Int32} (hF : CallFix p m c cc nL s args wA RX0) (hX : C0 D cyI cyZ q n st v mk w s H) {A : Nat → Prop} (hS : va_S A H0 H locs) (hl : Cond.fieldLink RX0 idx "MapSongs" "songStep" "I" ∈ wA) (hdg : decode cc pc = .ok (.putfield idx, 3))
    (kk : ∀ (H1 : Heap) (locs1 : List Loc), C0 D cyI cyZ q n x v mk w s H1 → va_S A H0 H1 locs1 → W p l e R s m args below meth c H1 locs1 cells slots Q (F0 m (pc + 3) ls rest)) (hAq : ∀ a, own 10 q a → A a := by exact fun _ h => h) : W p l e R s m args below meth c H locs cells slots Q (F0 m pc ls (.int x :: .ref (q 0) :: rest)) :=
  va_put (D := D) (ci := 0) (v := .int x) (ty := .int) (C := RX0) (T := TX0) (N := 11) hF.1 hF.2.1 hF.2.2.2.2 wx0 tyX0 tyX0_ok nmX0 hF.2.2.2.1 hX.2.1 hX.1 (apA hX.apart hAq) hS 0 rfl rfl 6 (by decide) (hF.2.2.2.2 _ hl) (fun _ h9 => h9) rfl (by decide +kernel) rfl rfl (Nat.le_of_ble_eq_true rfl) hdg (fun H1 locs1 hP _ hS1 => kk H1 locs1 ⟨hP, hX.2.1, hX.2.2⟩ hS1)
theorem C0.st_v0 (hF : CallFix p m c cc nL s args wA RX0) (hX : C0 D cyI cyZ q n st v mk w s H) {A : Nat → Prop} (hS : va_S A H0 H locs) (j : Nat) (hj : j < 16) {i x : Int32} (hi : i = nI j) (hdg : decode cc pc = .ok (.iastore, 1))
    (kk : ∀ (H1 : Heap) (locs1 : List Loc), C0 D cyI cyZ q n st (va_up v 0 (upd (v 0) j x)) mk w s H1 → va_S A H0 H1 locs1 → W p l e R s m args below meth c H1 locs1 cells slots Q (F0 m (pc + 1) ls rest)) (hAq : ∀ a, own 10 q a → A a := by exact fun _ h => h) : W p l e R s m args below meth c H locs cells slots Q (F0 m pc ls (.int x :: .int i :: .ref (q 1) :: rest)) := by
  subst hi
  refine va_iast hF.1 hF.2.1 hX.2.1 hX.1 (apA hX.apart hAq) hS 1 0 rfl rfl (vp_in_nI hj (by decide)) hdg (fun H1 locs1 hP _ hS1 => kk H1 locs1 ⟨?_, hX.2.1, hX.2.2⟩ hS1)
  rw [nI_clamp (by omega)] at hP
  exact hP
theorem C0.st_v1 (hF : CallFix p m c cc nL s args wA RX0) (hX : C0 D cyI cyZ q n st v mk w s H) {A : Nat → Prop} (hS : va_S A H0 H locs) (j : Nat) (hj : j < 16) {i x : Int32} (hi : i = nI j) (hdg : decode cc pc = .ok (.iastore, 1))
    (kk : ∀ (H1 : Heap) (locs1 : List Loc), C0 D cyI cyZ q n st (va_up v 1 (upd (v 1) j x)) mk w s H1 → va_S A H0 H1 locs1 → W p l e R s m args below meth c H1 locs1 cells slots Q (F0 m (pc + 1) ls rest)) (hAq : ∀ a, own 10 q a → A a := by exact fun _ h => h) : W p l e R s m args below meth c H locs cells slots Q (F0 m pc ls (.int x :: .int i :: .ref (q 2) :: rest)) := by
  subst hi
  refine va_iast hF.1 hF.2.1 hX.2.1 hX.1 (apA hX.apart hAq) hS 2 0 rfl rfl (vp_in_nI hj (by decide)) hdg (fun H1 locs1 hP _ hS1 => kk H1 locs1 ⟨?_, hX.2.1, hX.2.2⟩ hS1)
  rw [nI_clamp (by omega)] at hP
  exact hP
theorem C0.st_v2 (hF : CallFix p m c cc nL s args wA RX0) (hX : C0 D cyI cyZ q n st v mk w s H) {A : Nat → Prop} (hS : va_S A H0 H locs) (j : Nat) (hj : j < 16) {i x : Int32} (hi : i = nI j) (hdg : decode cc pc = .ok (.iastore, 1))
    (kk : ∀ (H1 : Heap) (locs1 : List Loc), C0 D cyI cyZ q n st (va_up v 2 (upd (v 2) j x)) mk w s H1 → va_S A H0 H1 locs1 → W p l e R s m args below meth c H1 locs1 cells slots Q (F0 m (pc + 1) ls rest)) (hAq : ∀ a, own 10 q a → A a := by exact fun _ h => h) : W p l e R s m args below meth c H locs cells slots Q (F0 m pc ls (.int x :: .int i :: .ref (q 3) :: rest)) := by
  subst hi
  refine va_iast hF.1 hF.2.1 hX.2.1 hX.1 (apA hX.apart hAq) hS 3 0 rfl rfl (vp_in_nI hj (by decide)) hdg (fun H1 locs1 hP _ hS1 => kk H1 locs1 ⟨?_, hX.2.1, hX.2.2⟩ hS1)
  rw [nI_clamp (by omega)] at hP
  exact hP
theorem C0.st_mk_true (hF : CallFix p m c cc nL s args wA RX0) (hX : C0 D cyI cyZ q n st v mk w s H) {A : Nat → Prop} (hS : va_S A H0 H locs) (j : Nat) (hj : j < 16) {i x : Int32} (hi : i = nI j) (hv : x = b2i true) (hdg : decode cc pc = .ok (.bastore, 1))
    (kk : ∀ (H1 : Heap) (locs1 : List Loc), C0 D cyI cyZ q n st v (va_up mk j true) w s H1 → va_S A H0 H1 locs1 → W p l e R s m args below meth c H1 locs1 cells slots Q (F0 m (pc + 1) ls rest)) (hAq : ∀ a, own 10 q a → A a := by exact fun _ h => h) : W p l e R s m args below meth c H locs cells slots Q (F0 m pc ls (.int x :: .int i :: .ref (q 4) :: rest)) := by
  subst hi; subst hv
  refine va_zast hF.1 hF.2.1 hX.2.1 hX.1 (apA hX.apart hAq) hS 4 1 rfl rfl (vp_in_nI hj (by decide)) hdg (fun H1 locs1 hP _ hS1 => kk H1 locs1 ⟨?_, hX.2.1, hX.2.2⟩ hS1)
  rw [nI_clamp (by omega)] at hP
  have e9 : upd (fun j => b2i (mk j)) j (vp_nar .boolean (b2i true)) = fun i => b2i (va_up mk j true i) := by
    funext i
    by_cases hij : i = j
    · subst hij; simp only [upd, va_up, if_pos]; decide
    · simp only [upd, va_up, if_neg hij]
  rw [e9] at hP
  exact hP
theorem C0.st_mk_false (hF : CallFix p m c cc nL s args wA RX0) (hX : C0 D cyI cyZ q n st v mk w s H) {A : Nat → Prop} (hS : va_S A H0 H locs) (j : Nat) (hj : j < 16) {i x : Int32} (hi : i = nI j) (hv : x = b2i false) (hdg : decode cc pc = .ok (.bastore, 1))
    (kk : ∀ (H1 : Heap) (locs1 : List Loc), C0 D cyI cyZ q n st v (va_up mk j false) w s H1 → va_S A H0 H1 locs1 → W p l e R s m args below meth c H1 locs1 cells slots Q (F0 m (pc + 1) ls rest)) (hAq : ∀ a, own 10 q a → A a := by exact fun _ h => h) : W p l e R s m args below meth c H locs cells slots Q (F0 m pc ls (.int x :: .int i :: .ref (q 4) :: rest)) := by
  subst hi; subst hv
  refine va_zast hF.1 hF.2.1 hX.2.1 hX.1 (apA hX.apart hAq) hS 4 1 rfl rfl (vp_in_nI hj (by decide)) hdg (fun H1 locs1 hP _ hS1 => kk H1 locs1 ⟨?_, hX.2.1, hX.2.2⟩ hS1)
  rw [nI_clamp (by omega)] at hP
  have e9 : upd (fun j => b2i (mk j)) j (vp_nar .boolean (b2i false)) = fun i => b2i (va_up mk j false i) := by
    funext i
    by_cases hij : i = j
    · subst hij; simp only [upd, va_up, if_pos]; decide
    · simp only [upd, va_up, if_neg hij]
  rw [e9] at hP
  exact hP
theorem C0.st_v3 (hF : CallFix p m c cc nL s args wA RX0) (hX : C0 D cyI cyZ q n st v mk w s H) {A : Nat → Prop} (hS : va_S A H0 H locs) (j : Nat) (hj : j < 10) {i x : Int32} (hi : i = nI j) (hdg : decode cc pc = .ok (.iastore, 1))
    (kk : ∀ (H1 : Heap) (locs1 : List Loc), C0 D cyI cyZ q n st (va_up v 3 (upd (v 3) j x)) mk w s H1 → va_S A H0 H1 locs1 → W p l e R s m args below meth c H1 locs1 cells slots Q (F0 m (pc + 1) ls rest)) (hAq : ∀ a, own 10 q a → A a := by exact fun _ h => h) : W p l e R s m args below meth c H locs cells slots Q (F0 m pc ls (.int x :: .int i :: .ref (q 5) :: rest)) := by
  subst hi
  refine va_iast hF.1 hF.2.1 hX.2.1 hX.1 (apA hX.apart hAq) hS 5 0 rfl rfl (vp_in_nI hj (by decide)) hdg (fun H1 locs1 hP _ hS1 => kk H1 locs1 ⟨?_, hX.2.1, hX.2.2⟩ hS1)
  rw [nI_clamp (by omega)] at hP
  exact hP
theorem C0.st_w0 (hF : CallFix p m c cc nL s args wA RX0) (hX : C0 D cyI cyZ q n st v mk w s H) {A : Nat → Prop} (hS : va_S A H0 H locs) (j : Nat) (hj : j < 16) {i x : Int32} (hi : i = nI j) (hdg : decode cc pc = .ok (.iastore, 1))
    (kk : ∀ (H1 : Heap) (locs1 : List Loc), C0 D cyI cyZ q n st v mk (va_up w 0 (upd (w 0) j x)) s H1 → va_S A H0 H1 locs1 → W p l e R s m args below meth c H1 locs1 cells slots Q (F0 m (pc + 1) ls rest)) (hAq : ∀ a, own 10 q a → A a := by exact fun _ h => h) : W p l e R s m args below meth c H locs cells slots Q (F0 m pc ls (.int x :: .int i :: .ref (q 6) :: rest)) := by
  subst hi
  refine va_iast hF.1 hF.2.1 hX.2.1 hX.1 (apA hX.apart hAq) hS 6 0 rfl rfl (vp_in_nI hj (by decide)) hdg (fun H1 locs1 hP _ hS1 => kk H1 locs1 ⟨?_, hX.2.1, hX.2.2⟩ hS1)
  rw [nI_clamp (by omega)] at hP
  exact hP
theorem C0.st_w1 (hF : CallFix p m c cc nL s args wA RX0) (hX : C0 D cyI cyZ q n st v mk w s H) {A : Nat → Prop} (hS : va_S A H0 H locs) (j : Nat) (hj : j < 16) {i x : Int32} (hi : i = nI j) (hdg : decode cc pc = .ok (.iastore, 1))
    (kk : ∀ (H1 : Heap) (locs1 : List Loc), C0 D cyI cyZ q n st v mk (va_up w 1 (upd (w 1) j x)) s H1 → va_S A H0 H1 locs1 → W p l e R s m args below meth c H1 locs1 cells slots Q (F0 m (pc + 1) ls rest)) (hAq : ∀ a, own 10 q a → A a := by exact fun _ h => h) : W p l e R s m args below meth c H locs cells slots Q (F0 m pc ls (.int x :: .int i :: .ref (q 7) :: rest)) := by
  subst hi
  refine va_iast hF.1 hF.2.1 hX.2.1 hX.1 (apA hX.apart hAq) hS 7 0 rfl rfl (vp_in_nI hj (by decide)) hdg (fun H1 locs1 hP _ hS1 => kk H1 locs1 ⟨?_, hX.2.1, hX.2.2⟩ hS1)
  rw [nI_clamp (by omega)] at hP
  exact hP
theorem C0.st_w2 (hF : CallFix p m c cc nL s args wA RX0) (hX : C0 D cyI cyZ q n st v mk w s H) {A : Nat → Prop} (hS : va_S A H0 H locs) (j : Nat) (hj : j < 16) {i x : Int32} (hi : i = nI j) (hdg : decode cc pc = .ok (.iastore, 1))
    (kk : ∀ (H1 : Heap) (locs1 : List Loc), C0 D cyI cyZ q n st v mk (va_up w 2 (upd (w 2) j x)) s H1 → va_S A H0 H1 locs1 → W p l e R s m args below meth c H1 locs1 cells slots Q (F0 m (pc + 1) ls rest)) (hAq : ∀ a, own 10 q a → A a := by exact fun _ h => h) : W p l e R s m args below meth c H locs cells slots Q (F0 m pc ls (.int x :: .int i :: .ref (q 8) :: rest)) := by
  subst hi
  refine va_iast hF.1 hF.2.1 hX.2.1 hX.1 (apA hX.apart hAq) hS 8 0 rfl rfl (vp_in_nI hj (by decide)) hdg (fun H1 locs1 hP _ hS1 => kk H1 locs1 ⟨?_, hX.2.1, hX.2.2⟩ hS1)
  rw [nI_clamp (by omega)] at hP
  exact hP
theorem C0.st_w3 (hF : CallFix p m c cc nL s args wA RX0) (hX : C0 D cyI cyZ q n st v mk w s H) {A : Nat → Prop} (hS : va_S A H0 H locs) (j : Nat) (hj : j < 16) {i x : Int32} (hi : i = nI j) (hdg : decode cc pc = .ok (.iastore, 1))
    (kk : ∀ (H1 : Heap) (locs1 : List Loc), C0 D cyI cyZ q n st v mk (va_up w 3 (upd (w 3) j x)) s H1 → va_S A H0 H1 locs1 → W p l e R s m args below meth c H1 locs1 cells slots Q (F0 m (pc + 1) ls rest)) (hAq : ∀ a, own 10 q a → A a := by exact fun _ h => h) : W p l e R s m args below meth c H locs cells slots Q (F0 m pc ls (.int x :: .int i :: .ref (q 9) :: rest)) := by
  subst hi
  refine va_iast hF.1 hF.2.1 hX.2.1 hX.1 (apA hX.apart hAq) hS 9 0 rfl rfl (vp_in_nI hj (by decide)) hdg (fun H1 locs1 hP _ hS1 => kk H1 locs1 ⟨?_, hX.2.1, hX.2.2⟩ hS1)
  rw [nI_clamp (by omega)] at hP
  exact hP
end CR
end
section
/-! WHAT THE CALLS ANSWER, as plain functions of the way: v 0 turns, v 1 lengths, v 2 landmarks, v 3 words; marks mk -/
def lv9 (a : Int32) : Bool := decide (a < 0) || decide (24 < a)
def nb (a i : Int32) : Int32 := if lv9 (a + i) = true then a - i else a + i
def nt (T : Nat → Int32) (st : Int32) : Nat → Int32
  | 0 => 12
  | k + 1 => nb (nt T st k) (T k * st)
def fmd (x y : Int32) : Int32 := if (x ^^^ y) < 0 ∧ ¬ (x - x / y * y) = 0 then (x - x / y * y) + y else x - x / y * y
def hd (T : Nat → Int32) : Nat → Int32
  | 0 => 0
  | k + 1 => fmd (hd T k + T k) 8
def eaT (j : Nat) : Int32 := ([0, 1, 1, 1, 0, -1, -1, -1] : List Int32).getD j 0
def noT (j : Nat) : Int32 := ([1, 1, 0, -1, -1, -1, 0, 1] : List Int32).getD j 0
abbrev ix (x : Int32) : Nat := x.toNatClampNeg
def px (T L : Nat → Int32) : Nat → Int32
  | 0 => 0
  | k + 1 => px T L k + L k * eaT (ix (hd T (k + 1)))
def py (T L : Nat → Int32) : Nat → Int32
  | 0 => 0
  | k + 1 => py T L k + L k * noT (ix (hd T (k + 1)))
def mx (x y : Int32) : Int32 := if x < y then y else x
def mn (x y : Int32) : Int32 := if y < x then y else x
def ab (x : Int32) : Int32 := if 0 ≤ x then x else 0 - x
def exB (P : Nat → Bool) : Nat → Bool
  | 0 => false
  | n + 1 => exB P n || P n
/-- how many of the first n -/
def ctB (P : Nat → Bool) : Nat → Int32
  | 0 => 0
  | n + 1 => if P n = true then ctB P n + 1 else ctB P n
def sumI (f : Nat → Int32) : Nat → Int32
  | 0 => 0
  | n + 1 => sumI f n + f n
/-- whether the way was at the end of leg k as the n-th place ahead was reached -/
def rtE (v : Nat → Nat → Int32) (k n : Nat) : Bool := decide (px (v 0) (v 1) n = px (v 0) (v 1) (k + 1)) && decide (py (v 0) (v 1) n = py (v 0) (v 1) (k + 1))
def rtP (v : Nat → Nat → Int32) (k : Nat) : Bool := exB (rtE v k) (k + 1)
def rtn (v : Nat → Nat → Int32) (N : Nat) : Int32 := ctB (rtP v) N
def fold1 (v : Nat → Nat → Int32) (st : Int32) (k : Nat) : Bool := lv9 (nt (v 0) st k + v 0 k * st)
def tsa (note ahead st : Int32) : Nat → Int32
  | 0 => 0
  | j + 1 => if nb ahead ((nI j - 3) * st) = note then tsa note ahead st j + 1 else tsa note ahead st j
def lc (W : Nat → Int32) (x : Int32) : Nat → Int32
  | 0 => 0
  | j + 1 => if W j = x then lc W x j + 1 else lc W x j
def tw (a t st : Int32) : Bool := decide (¬ t = 0) && (lv9 (a + st * t) || lv9 (a + -st * t))
def wd (v : Nat → Nat → Int32) (k : Nat) : Int32 := v 3 (ix (v 2 k))
def rdn (v : Nat → Nat → Int32) (st : Int32) (k : Nat) : Int32 := (if tw (nt (v 0) st k) (v 0 k) st = true then 2 else 1) * lc (v 3) (wd v k) 10
def rrn (v : Nat → Nat → Int32) (st : Int32) (k : Nat) : Int32 := (if (tw (nt (v 0) st k) (v 0 k) st && decide (0 < v 0 k)) = true then lc (v 3) (wd v k) 10 else 0) + lc (v 3) (wd v k) (ix (v 2 k))
def amb (v : Nat → Nat → Int32) (st : Int32) (mk : Nat → Bool) (k : Nat) : Bool := !mk k && decide (1 < rdn v st k)
def wys (v : Nat → Nat → Int32) (st : Int32) (mk : Nat → Bool) : Nat → Int64
  | 0 => 1
  | k + 1 => if amb v st mk k = true then (if 1000000000 < wys v st mk k * (rdn v st k).toInt64 then 1000000000 else wys v st mk k * (rdn v st k).toInt64) else wys v st mk k
/-- the first of the first n, n if there is none -/
def fst (P : Nat → Bool) : Nat → Nat
  | 0 => 0
  | n + 1 => if fst P n < n then fst P n else if P n = true then n else n + 1
def fam (v : Nat → Nat → Int32) (st : Int32) (mk : Nat → Bool) (N : Nat) : Int32 := if fst (amb v st mk) N < N then nI (fst (amb v st mk) N) else -1
/-- how many would be ambiguous with the words W and the step by, none mended -/
def umP (v : Nat → Nat → Int32) (W : Nat → Int32) (by1 : Int32) (k : Nat) : Bool := decide (1 < (if tw (nt (v 0) by1 k) (v 0 k) by1 = true then 2 else 1) * lc W (W (ix (v 2 k))) 10)
def unm (v : Nat → Nat → Int32) (W : Nat → Int32) (by1 : Int32) (N : Nat) : Int32 := ctB (umP v W by1) N
/-- whether another landmark has the word of a -/
def shE (W : Nat → Int32) (a o : Nat) : Bool := decide (¬ o = a) && decide (W o = W a)
/-- the smallest place of the least of f 0 .. f n -/
def amin (f : Nat → Int32) : Nat → Nat
  | 0 => 0
  | n + 1 => if f (n + 1) < f (amin f n) then n + 1 else amin f n
def unW (v : Nat → Nat → Int32) (st : Int32) (N j : Nat) (x : Int32) : Int32 := unm v (upd (v 3) j x) st N
def bwd (v : Nat → Nat → Int32) (st : Int32) (N j : Nat) : Nat := amin (fun x => unW v st N j (nI x)) 9
def bst (v : Nat → Nat → Int32) (N : Nat) : Nat := amin (fun x => unm v (v 3) (nI (x + 1)) N) 3 + 1
def hi9 (T : Nat → Int32) (st : Int32) : Nat → Int32
  | 0 => 0
  | k + 1 => mx (hi9 T st k) (nt T st (k + 1))
def lo9 (T : Nat → Int32) (st : Int32) : Nat → Int32
  | 0 => 24
  | k + 1 => mn (lo9 T st k) (nt T st (k + 1))
def rng (v : Nat → Nat → Int32) (st : Int32) (N : Nat) : Int32 := if N = 0 then 0 else hi9 (v 0) st N - lo9 (v 0) st N
def sgP (v : Nat → Nat → Int32) (x : Int32) (k : Nat) : Bool := decide (wd v k = x)
def sung (v : Nat → Nat → Int32) (x : Int32) (N : Nat) : Int32 := ctB (sgP v x) N
def optI : Option Nat → Int32
  | none => -1
  | some b => nI b
def optR (v : Nat → Nat → Int32) (st : Int32) : Option Nat → Int32
  | none => 1
  | some b => rdn v st b
/-- the place of the ambiguous verse with the most readings among the first n, of several the first; none: n0 = 16 -/
def mst (v : Nat → Nat → Int32) (st : Int32) (mk : Nat → Bool) : Nat → Option Nat
  | 0 => none
  | k + 1 => match mst v st mk k with
    | none => if amb v st mk k = true then some k else none
    | some b => if amb v st mk k = true ∧ rdn v st b < rdn v st k then some k else some b
def dg (d : Int64) (x : Int64) : Int64 := d * 31 + x
def dgI (d : Int64) (x : Int32) : Int64 := dg d x.toInt64
def dgLeg (v : Nat → Nat → Int32) (st : Int32) (mk : Nat → Bool) (d : Int64) (k : Nat) : Int64 :=
  dgI (dgI (dgI (dgI (dgI (dgI (dgI (dgI d (v 0 k)) (hd (v 0) (k + 1))) (v 2 k)) (nt (v 0) st (k + 1))) (wd v k)) (rdn v st k)) (rrn v st k)) (b2i (mk k))
def dgLegs (v : Nat → Nat → Int32) (st : Int32) (mk : Nat → Bool) (d : Int64) : Nat → Int64
  | 0 => d
  | k + 1 => dgLeg v st mk (dgLegs v st mk d k) k
def dgWords (v : Nat → Nat → Int32) (st : Int32) (N : Nat) (d : Int64) : Nat → Int64
  | 0 => d
  | j + 1 => dgI (dgI (dgWords v st N d j) (v 3 j)) (nI (bwd v st N j))
def dgHead (v : Nat → Nat → Int32) (st : Int32) (mk : Nat → Bool) (N : Nat) : Int64 :=
  dgI (dg (dgI (dgI (dgI (dgI (dgI (dgI (dgI (dgI (dgI (dgI 1051 (nI N)) st) (px (v 0) (v 1) N)) (py (v 0) (v 1) N)) (mx (ab (px (v 0) (v 1) N)) (ab (py (v 0) (v 1) N)))) (rtn v N)) (sumI (v 1) N)) (ctB (fold1 v st) N)) (rng v st N)) (ctB (amb v st mk) N)) (wys v st mk N)) (nI (bst v N))
def dgst (v : Nat → Nat → Int32) (st : Int32) (mk : Nat → Bool) (N : Nat) : Int64 := dgWords v st N (dgLegs v st mk (dgHead v st mk N) N) 10
/-- what holds of every way: its numbers in their ranges -/
def Ok (N : Nat) (st : Int32) (v : Nat → Nat → Int32) : Prop := N ≤ 16 ∧ (∃ s : Nat, s < 4 ∧ st = nI (s + 1)) ∧ (∀ k : Nat, ∃ e : Nat, e < 7 ∧ v 0 k = nI e - 3) ∧ (∀ k : Nat, ∃ j : Nat, j < 10 ∧ v 2 k = nI j)
/-- what the class keeps for each of the first K legs -/
def Der (K : Nat) (st : Int32) (v w : Nat → Nat → Int32) : Prop := ∀ k : Nat, k < K → w 0 k = hd (v 0) (k + 1) ∧ w 1 k = px (v 0) (v 1) (k + 1) ∧ w 2 k = py (v 0) (v 1) (k + 1) ∧ w 3 k = nt (v 0) st (k + 1)
theorem b2i_f {b : Bool} (h : b2i b = 0) : b = false := by cases b <;> simp_all [b2i]
theorem b2i_t {b : Bool} (h : ¬ b2i b = 0) : b = true := by cases b <;> simp_all [b2i]
theorem b2i_nar {b : Bool} : narrow .boolean (.int (b2i b)) = .int (b2i b) := by cases b <;> decide
theorem b2i_1 {b : Bool} (h : b = true) : (1 : Int32) = b2i b := by rw [h]; rfl
theorem b2i_0 {b : Bool} (h : b = false) : (0 : Int32) = b2i b := by rw [h]; rfl
theorem nb_t {a i : Int32} (h : lv9 (a + i) = true) : a - i = nb a i := by unfold nb; rw [if_pos h]
theorem nb_f {a i : Int32} (h : lv9 (a + i) = false) : a + i = nb a i := by unfold nb; rw [h]; rfl
theorem nI_3 (j : Nat) : nI j - 3 + 1 = nI (j + 1) - 3 := by
  rw [nI_succ, Int32.sub_eq_add_neg, Int32.sub_eq_add_neg, Int32.add_assoc, Int32.add_assoc, Int32.add_comm (-3) 1]
theorem nI_3T {j : Nat} (h : j < 100) : (nI j - 3).toInt = (j : Int) - 3 := by
  rw [show (3 : Int32) = nI 3 from rfl]
  exact pk_sub_toInt (by omega) (by omega)
theorem nI_3lt {i j : Nat} (hi : i < 100) (hj : j < 100) : nI i - 3 < nI j - 3 ↔ i < j := by
  rw [Int32.lt_iff_toInt_lt, nI_3T hi, nI_3T hj]; omega
theorem nI_3le {i j : Nat} (hi : i < 100) (hj : j < 100) : nI i - 3 ≤ nI j - 3 ↔ i ≤ j := by
  rw [Int32.le_iff_toInt_le, nI_3T hi, nI_3T hj]; omega
end
section
/-! the class's two tables -/
def ST (t1 t2 : Nat) (A : Nat → Prop) : State → Heap → Prop := fun U H => va_Z "MapSongs" "STEP_EAST" "[I" (.ref t1) A U H ∧ va_T .int t1 8 (fun j => .int (eaT j)) A U H ∧ va_Z "MapSongs" "STEP_NORTH" "[I" (.ref t2) A U H ∧ va_T .int t2 8 (fun j => .int (noT j)) A U H
theorem ST.mv {t1 t2 : Nat} {A : Nat → Prop} : Mv (ST t1 t2 A) := fun _ _ _ a h => ⟨va_Z.moved a h.1, va_T.moved a h.2.1, va_Z.moved a h.2.2.1, va_T.moved a h.2.2.2⟩
theorem ST.kept {t1 t2 : Nat} {A : Nat → Prop} {U : State} {H H1 : Heap} (h : ST t1 t2 A U H) (hq : ∀ a : Nat, a < H.size → ¬ A a → H1[a]? = H[a]?) : ST t1 t2 A U H1 := ⟨va_Z.kept h.1 hq, va_T.kept h.2.1 hq, va_Z.kept h.2.2.1 hq, va_T.kept h.2.2.2 hq⟩
theorem ST.narrow {t1 t2 : Nat} {A B : Nat → Prop} {U : State} {H : Heap} (h : ST t1 t2 A U H) (hAB : ∀ q, B q → A q) : ST t1 t2 B U H := ⟨va_Z.narrow h.1 hAB, va_T.narrow h.2.1 hAB, va_Z.narrow h.2.2.1 hAB, va_T.narrow h.2.2.2 hAB⟩
def SM1 (t1 : Nat) (A : Nat → Prop) : State → Heap → Prop := fun U H => va_Z "MapSongsModel" "EAST" "[I" (.ref t1) A U H ∧ va_T .int t1 8 (fun j => .int (eaT j)) A U H
theorem SM1.mv {t1 : Nat} {A : Nat → Prop} : Mv (SM1 t1 A) := fun _ _ _ a h => ⟨va_Z.moved a h.1, va_T.moved a h.2⟩
theorem SM1.kept {t1 : Nat} {A : Nat → Prop} {U : State} {H H1 : Heap} (h : SM1 t1 A U H) (hq : ∀ a : Nat, a < H.size → ¬ A a → H1[a]? = H[a]?) : SM1 t1 A U H1 := ⟨va_Z.kept h.1 hq, va_T.kept h.2 hq⟩
theorem SM1.narrow {t1 : Nat} {A B : Nat → Prop} {U : State} {H : Heap} (h : SM1 t1 A U H) (hAB : ∀ q, B q → A q) : SM1 t1 B U H := ⟨va_Z.narrow h.1 hAB, va_T.narrow h.2 hAB⟩

/-! plain facts -/
def in10 (x : Int32) : Bool := decide (0 ≤ x) && decide (x < 10)
theorem in10_nI {j : Nat} (h : j < 10) : in10 (nI j) = true := by
  have h1 : (0 : Int32) ≤ nI j := (nI_leI (a := 0) (by omega) (by omega)).mpr (Nat.zero_le _)
  have h2 : nI j < 10 := (nI_ltI (b := 10) (by omega) (by omega)).mpr h
  simp [in10, h1, h2]
theorem tn_lo {e : Nat} (h : e < 7) : ¬ nI e - 3 < -3 := by
  rw [show (-3 : Int32) = nI 0 - 3 by decide, nI_3lt (by omega) (by omega)]; omega
theorem tn_hi {e : Nat} (h : e < 7) : nI e - 3 ≤ 3 := by
  rw [show (3 : Int32) = nI 6 - 3 by decide]
  exact (nI_3le (by omega) (by omega)).mpr (by omega)
theorem nI_dec {i : Nat} (h : 0 < i) : nI i - 1 = nI (i - 1) := by
  obtain ⟨k, rfl⟩ : ∃ k, i = k + 1 := ⟨i - 1, by omega⟩
  exact nI_pred k
theorem der_pred {K i : Nat} {st : Int32} {v w : Nat → Nat → Int32} (h : Der K st v w) (h0 : 0 < i) (hi : i ≤ K) : w 0 (i - 1) = hd (v 0) i ∧ w 1 (i - 1) = px (v 0) (v 1) i ∧ w 2 (i - 1) = py (v 0) (v 1) i ∧ w 3 (i - 1) = nt (v 0) st i := by
  obtain ⟨k, rfl⟩ : ∃ k, i = k + 1 := ⟨i - 1, by omega⟩
  exact h k (by omega)
theorem tsa_t {a b c : Int32} {j : Nat} (h : nb b ((nI j - 3) * c) = a) : tsa a b c (j + 1) = tsa a b c j + 1 := by rw [tsa, if_pos h]
theorem tsa_f {a b c : Int32} {j : Nat} (h : ¬ nb b ((nI j - 3) * c) = a) : tsa a b c (j + 1) = tsa a b c j := by rw [tsa, if_neg h]
theorem lc_t {W : Nat → Int32} {x : Int32} {j : Nat} (h : W j = x) : lc W x (j + 1) = lc W x j + 1 := by rw [lc, if_pos h]
theorem lc_f {W : Nat → Int32} {x : Int32} {j : Nat} (h : ¬ W j = x) : lc W x (j + 1) = lc W x j := by rw [lc, if_neg h]
theorem ctB_t {P : Nat → Bool} {j : Nat} (h : P j = true) : ctB P (j + 1) = ctB P j + 1 := by rw [ctB, if_pos h]
theorem ctB_f {P : Nat → Bool} {j : Nat} (h : P j = false) : ctB P (j + 1) = ctB P j := by rw [ctB, h]; rfl
theorem okM {N : Nat} {st : Int32} {v : Nat → Nat → Int32} (h : Ok N st v) (k : Nat) : v 2 k = nI (ix (v 2 k)) := by
  obtain ⟨j, hj, e⟩ := h.2.2.2 k
  rw [e, ix, nI_clamp (by omega)]
theorem okM10 {N : Nat} {st : Int32} {v : Nat → Nat → Int32} (h : Ok N st v) (k : Nat) : ix (v 2 k) < 10 := by
  obtain ⟨j, hj, e⟩ := h.2.2.2 k
  rw [e, ix, nI_clamp (by omega)]
  exact hj
set_option maxRecDepth 100000 in
theorem fin1 : ∀ a, a < 25 → ∀ e, e < 7 → ∀ s, s < 4 → (∃ b, b < 25 ∧ nb (nI a) ((nI e - 3) * nI (s + 1)) = nI b) ∧ tsa (nb (nI a) ((nI e - 3) * nI (s + 1))) (nI a) (nI (s + 1)) 7 = (if tw (nI a) (nI e - 3) (nI (s + 1)) = true then 2 else 1) ∧ tsa (nb (nI a) ((nI e - 3) * nI (s + 1))) (nI a) (nI (s + 1)) e = (if (tw (nI a) (nI e - 3) (nI (s + 1)) && decide (0 < nI e - 3)) = true then 1 else 0) := by decide +kernel
theorem nt_rng {N : Nat} {st : Int32} {v : Nat → Nat → Int32} (h : Ok N st v) {s : Nat} (hs : s < 4) : ∀ k : Nat, ∃ a : Nat, a < 25 ∧ nt (v 0) (nI (s + 1)) k = nI a
  | 0 => ⟨12, by decide, rfl⟩
  | k + 1 => by
    obtain ⟨a, ha, ea⟩ := nt_rng h hs k
    obtain ⟨e, he, ee⟩ := h.2.2.1 k
    obtain ⟨b, hb, eb⟩ := (fin1 a ha e he s hs).1
    exact ⟨b, hb, by rw [nt, ea, ee, eb]⟩
theorem tsa7 {N : Nat} {st by1 : Int32} {v : Nat → Nat → Int32} (h : Ok N st v) (hb : ∃ s : Nat, s < 4 ∧ by1 = nI (s + 1)) (k : Nat) : tsa (nt (v 0) by1 (k + 1)) (nt (v 0) by1 k) by1 7 = (if tw (nt (v 0) by1 k) (v 0 k) by1 = true then 2 else 1) := by
  obtain ⟨s, hs, rfl⟩ := hb
  obtain ⟨a, ha, ea⟩ := nt_rng h hs k
  obtain ⟨e, he, ee⟩ := h.2.2.1 k
  rw [nt, ea, ee]
  exact (fin1 a ha e he s hs).2.1
theorem tsaE {N : Nat} {st : Int32} {v : Nat → Nat → Int32} (h : Ok N st v) {e k : Nat} (he : e < 7) (ee : v 0 k = nI e - 3) : tsa (nt (v 0) st (k + 1)) (nt (v 0) st k) st e = (if (tw (nt (v 0) st k) (v 0 k) st && decide (0 < v 0 k)) = true then 1 else 0) := by
  obtain ⟨s, hs, rfl⟩ := h.2.1
  obtain ⟨a, ha, ea⟩ := nt_rng h hs k
  rw [nt, ea, ee]
  exact (fin1 a ha e he s hs).2.2
theorem rdn_c {N K i : Nat} {st : Int32} {v w : Nat → Nat → Int32} (h : Ok N st v) (hd : Der K st v w) (hi : i < K) : tsa (w 3 i) (nt (v 0) st i) st 7 * lc (v 3) (v 3 (ix (v 2 i))) 10 = rdn v st i := by
  rw [(hd i hi).2.2.2, tsa7 h h.2.1 i]
  rfl
theorem rrn_c {N K i e : Nat} {st : Int32} {v w : Nat → Nat → Int32} (h : Ok N st v) (hd : Der K st v w) (hi : i < K) (he : e < 7) (ee : v 0 i = nI e - 3) : tsa (w 3 i) (nt (v 0) st i) st e * lc (v 3) (v 3 (ix (v 2 i))) 10 + lc (v 3) (v 3 (ix (v 2 i))) (ix (v 2 i)) = rrn v st i := by
  rw [(hd i hi).2.2.2, tsaE h he ee]
  unfold rrn wd
  split <;> simp
theorem exB_in {P : Nat → Bool} {i : Nat} : ∀ {n : Nat}, i < n → P i = true → exB P n = true
  | 0, h, _ => absurd h (Nat.not_lt_zero _)
  | n + 1, h, hp => by
    rw [exB]
    rcases Nat.lt_or_ge i n with q | q
    · rw [exB_in q hp]; rfl
    · rw [show n = i by omega, hp, Bool.or_true]
theorem exB_f {P : Nat → Bool} {n : Nat} (h : exB P n = false) (hp : P n = false) : exB P (n + 1) = false := by rw [exB, h, hp]; rfl
theorem exB_ex {P : Nat → Bool} : ∀ {n : Nat}, exB P n = true → ∃ i : Nat, i < n ∧ P i = true
  | 0, h => by cases h
  | n + 1, h => by
    rw [exB, Bool.or_eq_true] at h
    rcases h with h | h
    · obtain ⟨i, h1, h2⟩ := exB_ex h
      exact ⟨i, by omega, h2⟩
    · exact ⟨n, by omega, h⟩
theorem wys_t {v : Nat → Nat → Int32} {st : Int32} {mk : Nat → Bool} {k : Nat} (h : amb v st mk k = true) : wys v st mk (k + 1) = (if 1000000000 < wys v st mk k * Int32.toInt64 (rdn v st k) then 1000000000 else wys v st mk k * Int32.toInt64 (rdn v st k)) := by rw [wys, if_pos h]
theorem wys_f {v : Nat → Nat → Int32} {st : Int32} {mk : Nat → Bool} {k : Nat} (h : amb v st mk k = false) : wys v st mk (k + 1) = wys v st mk k := by rw [wys, h]; rfl
theorem fst_no {P : Nat → Bool} : ∀ {n : Nat}, (∀ i, i < n → P i = false) → fst P n = n
  | 0, _ => rfl
  | n + 1, h => by rw [fst, fst_no (fun i hi => h i (by omega)), if_neg (Nat.lt_irrefl _), h n (by omega)]; rfl
theorem fst_at {P : Nat → Bool} {j : Nat} (h : ∀ i, i < j → P i = false) (hj : P j = true) : ∀ {n : Nat}, j < n → fst P n = j
  | 0, q => absurd q (Nat.not_lt_zero _)
  | n + 1, q => by
    rw [fst]
    rcases Nat.lt_or_ge j n with g | g
    · rw [fst_at h hj g, if_pos g]
    · rw [show n = j by omega, fst_no h, if_neg (Nat.lt_irrefl _), if_pos hj]
theorem fam_at {v : Nat → Nat → Int32} {st : Int32} {mk : Nat → Bool} {j N : Nat} (h : ∀ i, i < j → amb v st mk i = false) (hj : amb v st mk j = true) (hn : j < N) : nI j = fam v st mk N := by
  unfold fam
  rw [fst_at h hj hn, if_pos hn]
theorem fam_no {v : Nat → Nat → Int32} {st : Int32} {mk : Nat → Bool} {N : Nat} (h : ∀ i, i < N → amb v st mk i = false) : (-1) = fam v st mk N := by
  unfold fam
  rw [fst_no h, if_neg (Nat.lt_irrefl _)]
theorem lt_s1 {P : Nat → Prop} {j : Nat} (h : ∀ i, i < j → P i) (hj : P j) : ∀ i, i < j + 1 → P i := fun i hi => by
  rcases Nat.lt_or_ge i j with q | q
  · exact h i q
  · rw [show i = j by omega]; exact hj
theorem mst_amb {v : Nat → Nat → Int32} {st : Int32} {mk : Nat → Bool} : ∀ {n b : Nat}, mst v st mk n = some b → b < n ∧ amb v st mk b = true
  | 0, b, h => by cases h
  | n + 1, b, h => by
    rw [mst] at h
    cases e : mst v st mk n with
    | none =>
      rw [e] at h
      dsimp only at h
      split at h
      · cases h; exact ⟨by omega, by assumption⟩
      · cases h
    | some b0 =>
      rw [e] at h
      dsimp only at h
      split at h
      · rename_i hc; cases h; exact ⟨by omega, hc.1⟩
      · cases h
        have := mst_amb e
        exact ⟨by omega, this.2⟩
theorem amb_iff {v : Nat → Nat → Int32} {st : Int32} {mk : Nat → Bool} {k : Nat} : amb v st mk k = true ↔ mk k = false ∧ 1 < rdn v st k := by
  unfold amb
  cases mk k <;> simp
theorem mst_t {v : Nat → Nat → Int32} {st : Int32} {mk : Nat → Bool} {k : Nat} (h : mk k = false) (hr : optR v st (mst v st mk k) < rdn v st k) : mst v st mk (k + 1) = some k := by
  rw [mst]
  cases e : mst v st mk k with
  | none =>
    rw [e] at hr
    dsimp only
    rw [if_pos (amb_iff.mpr ⟨h, hr⟩)]
  | some b =>
    rw [e] at hr
    dsimp only
    have h1 := (amb_iff.mp (mst_amb e).2).2
    have hr : rdn v st b < rdn v st k := hr
    rw [if_pos ⟨amb_iff.mpr ⟨h, Int32.lt_trans h1 hr⟩, hr⟩]
theorem mst_f {v : Nat → Nat → Int32} {st : Int32} {mk : Nat → Bool} {k : Nat} (h : ¬ (mk k = false ∧ optR v st (mst v st mk k) < rdn v st k)) : mst v st mk (k + 1) = mst v st mk k := by
  rw [mst]
  cases e : mst v st mk k with
  | none =>
    rw [e] at h
    dsimp only
    rw [if_neg (fun q => h (amb_iff.mp q))]
  | some b =>
    rw [e] at h
    dsimp only
    rw [if_neg (fun q => h ⟨(amb_iff.mp q.1).1, q.2⟩)]
theorem amin_t {f : Nat → Int32} {k : Nat} (h : f (k + 1) < f (amin f k)) : amin f (k + 1) = k + 1 := by rw [amin, if_pos h]
theorem amin_f {f : Nat → Int32} {k : Nat} (h : ¬ f (k + 1) < f (amin f k)) : amin f (k + 1) = amin f k := by rw [amin, if_neg h]
theorem amin_le {f : Nat → Int32} : ∀ {k : Nat}, amin f k ≤ k
  | 0 => Nat.le_refl _
  | k + 1 => by
    rw [amin]
    split
    · exact Nat.le_refl _
    · exact Nat.le_succ_of_le amin_le
theorem upd_self {f : Nat → Int32} {j : Nat} : upd f j (f j) = f := by
  funext i
  unfold upd
  split
  · rename_i h; rw [h]
  · rfl
theorem lo_1 {N : Nat} {st : Int32} {v : Nat → Nat → Int32} (h : Ok N st v) : nt (v 0) st 1 = lo9 (v 0) st 1 ∧ nt (v 0) st 1 = hi9 (v 0) st 1 := by
  obtain ⟨s, hs, rfl⟩ := h.2.1
  obtain ⟨a, ha, ea⟩ := nt_rng h hs 1
  rw [lo9, hi9, lo9, hi9, ea, mn, mx]
  have h1 : ¬ 24 < nI a := fun q => by have := (nI_ltI (a := 24) (by omega) (by omega)).mp q; omega
  constructor
  · split
    · rfl
    · rename_i h2
      have h3 : ¬ nI a < nI 24 := h2
      rw [nI_ltI (by omega) (by omega)] at h3
      rw [show a = 24 by omega]; rfl
  · split
    · rfl
    · rename_i h2
      have h3 : ¬ nI 0 < nI a := h2
      rw [nI_ltI (by omega) (by omega)] at h3
      rw [show a = 0 by omega]; rfl
/-- how many of the first n have the word x, as a number -/
def lcN (W : Nat → Int32) (x : Int32) : Nat → Nat
  | 0 => 0
  | j + 1 => if W j = x then lcN W x j + 1 else lcN W x j
theorem lc_N (W : Nat → Int32) (x : Int32) : ∀ n : Nat, lc W x n = nI (lcN W x n)
  | 0 => rfl
  | n + 1 => by
    rw [lc, lcN, lc_N W x n]
    split
    · exact nI_1 _
    · rfl
theorem lcN_le (W : Nat → Int32) (x : Int32) : ∀ n : Nat, lcN W x n ≤ n
  | 0 => Nat.le_refl _
  | n + 1 => by
    have := lcN_le W x n
    rw [lcN]
    split <;> omega
theorem lcN_mono {W : Nat → Int32} {x : Int32} {a : Nat} : ∀ {n : Nat}, a ≤ n → lcN W x a ≤ lcN W x n
  | 0, h => by rw [show a = 0 by omega]; exact Nat.le_refl _
  | n + 1, h => by
    rcases Nat.lt_or_ge a (n + 1) with q | q
    · have := lcN_mono (W := W) (x := x) (show a ≤ n by omega)
      rw [lcN]
      split <;> omega
    · rw [show a = n + 1 by omega]; exact Nat.le_refl _
theorem lcN_0 {W : Nat → Int32} {x : Int32} : ∀ {n : Nat}, (∀ o, o < n → ¬ W o = x) → lcN W x n = 0
  | 0, _ => rfl
  | n + 1, h => by rw [lcN, if_neg (h n (by omega)), lcN_0 (fun o ho => h o (by omega))]
theorem lcN_1 {W : Nat → Int32} {x : Int32} {a : Nat} (ha : W a = x) : ∀ {n : Nat}, (∀ o, o < n → W o = x → o = a) → lcN W x n ≤ 1
  | 0, _ => Nat.zero_le _
  | n + 1, h => by
    rw [lcN]
    split
    · rename_i hn
      have e := h n (by omega) hn
      rw [lcN_0 (fun o ho q => by have := h o (by omega) q; omega)]
      exact Nat.le_refl _
    · exact lcN_1 ha (fun o ho => h o (by omega))
theorem lcN_2 {W : Nat → Int32} {x : Int32} {a b : Nat} (hab : a < b) (ha : W a = x) (hb : W b = x) {n : Nat} (hn : b < n) : 2 ≤ lcN W x n := by
  have h1 : lcN W x (b + 1) = lcN W x b + 1 := by rw [lcN, if_pos hb]
  have h2 : lcN W x (a + 1) = lcN W x a + 1 := by rw [lcN, if_pos ha]
  have h3 := lcN_mono (W := W) (x := x) (show a + 1 ≤ b by omega)
  have h4 := lcN_mono (W := W) (x := x) (show b + 1 ≤ n by omega)
  omega
theorem lcN_self {W : Nat → Int32} {a n : Nat} (ha : a < n) : 1 ≤ lcN W (W a) n := by
  have h2 : lcN W (W a) (a + 1) = lcN W (W a) a + 1 := by rw [lcN, if_pos rfl]
  have h4 := lcN_mono (W := W) (x := W a) (show a + 1 ≤ n by omega)
  omega
/-- several readings: several turns, or another landmark with the word -/
theorem um_iff {W : Nat → Int32} {a : Nat} (ha : a < 10) (b : Bool) : decide (1 < (if b = true then 2 else 1) * lc W (W a) 10) = (b || exB (shE W a) 10) := by
  have h1 := lcN_self (W := W) ha
  have h2 := lcN_le W (W a) 10
  rw [lc_N]
  have h3 : (1 < (if b = true then (2 : Int32) else 1) * nI (lcN W (W a) 10)) ↔ (b = true ∨ 1 < lcN W (W a) 10) := by
    cases b
    · have e1 : (if false = true then (2 : Int32) else 1) * nI (lcN W (W a) 10) = nI (lcN W (W a) 10) := by
        rw [if_neg (by decide), Int32.one_mul]
      rw [e1]
      constructor
      · intro h; exact Or.inr ((nI_ltI (a := 1) (by omega) (by omega)).mp h)
      · intro h
        rcases h with h | h
        · cases h
        · exact (nI_ltI (a := 1) (by omega) (by omega)).mpr h
    · have e1 : (if true = true then (2 : Int32) else 1) * nI (lcN W (W a) 10) = nI (2 * lcN W (W a) 10) := by
        rw [if_pos rfl]; exact pk_mul 2 _
      rw [e1]
      constructor
      · intro _; exact Or.inl rfl
      · intro _; exact (nI_ltI (a := 1) (by omega) (by omega)).mpr (by omega)
  have h4 : exB (shE W a) 10 = true ↔ 1 < lcN W (W a) 10 := by
    constructor
    · intro h
      obtain ⟨o, ho, hp⟩ := exB_ex h
      unfold shE at hp
      simp only [Bool.and_eq_true, decide_eq_true_eq] at hp
      rcases Nat.lt_or_gt_of_ne hp.1 with q | q
      · exact lcN_2 q hp.2 rfl ha
      · exact lcN_2 q rfl hp.2 ho
    · intro h
      cases e : exB (shE W a) 10 with
      | true => rfl
      | false =>
        have : lcN W (W a) 10 ≤ 1 := lcN_1 (a := a) rfl (fun o ho hw => by
          rcases Nat.decEq o a with hne | heq
          · have : exB (shE W a) 10 = true := exB_in ho (by unfold shE; simp [hne, hw])
            rw [e] at this; cases this
          · exact heq)
        omega
  cases b
  · rw [Bool.false_or]
    cases e : exB (shE W a) 10 with
    | true => rw [decide_eq_true_eq, h3]; exact Or.inr (h4.mp e)
    | false =>
      rw [decide_eq_false_iff_not, h3]
      intro h
      rcases h with h | h
      · cases h
      · have := h4.mpr h; rw [e] at this; cases this
  · rw [Bool.true_or, decide_eq_true_eq, h3]; exact Or.inl rfl
theorem rtE_x {v : Nat → Nat → Int32} {k n : Nat} {a b : Int32} (ha : a = px (v 0) (v 1) n) (hb : b = px (v 0) (v 1) (k + 1)) (h : ¬ a = b) : rtE v k n = false := by
  unfold rtE; rw [← ha, ← hb]; simp [h]
theorem rtE_y {v : Nat → Nat → Int32} {k n : Nat} {a b : Int32} (ha : a = py (v 0) (v 1) n) (hb : b = py (v 0) (v 1) (k + 1)) (h : ¬ a = b) : rtE v k n = false := by
  unfold rtE; rw [← ha, ← hb]; simp [h]
theorem rtE_t {v : Nat → Nat → Int32} {k n : Nat} {a b c d : Int32} (ha : a = px (v 0) (v 1) n) (hb : b = py (v 0) (v 1) n) (hc : c = px (v 0) (v 1) (k + 1)) (hd : d = py (v 0) (v 1) (k + 1)) (h : a = c) (h2 : b = d) : rtE v k n = true := by
  unfold rtE; rw [← ha, ← hb, ← hc, ← hd]; simp [h, h2]
theorem rng_0 {v : Nat → Nat → Int32} {st : Int32} {N : Nat} (h : N = 0) : 0 = rng v st N := by unfold rng; rw [if_pos h]
theorem rng_1 {v : Nat → Nat → Int32} {st : Int32} {N : Nat} (h : 0 < N) : hi9 (v 0) st N - lo9 (v 0) st N = rng v st N := by unfold rng; rw [if_neg (by omega)]
theorem sgP_t {v : Nat → Nat → Int32} {x : Int32} {k : Nat} (h : v 3 (ix (v 2 k)) = x) : sgP v x k = true := by unfold sgP wd; simp [h]
theorem sgP_f {v : Nat → Nat → Int32} {x : Int32} {k : Nat} (h : ¬ v 3 (ix (v 2 k)) = x) : sgP v x k = false := by unfold sgP wd; simp [h]
theorem upd_n {f : Nat → Int32} {j a : Nat} {x : Int32} (h : ¬ a = j) : f a = upd f j x a := by unfold upd; rw [if_neg h]
theorem upd_s {f : Nat → Int32} {j a : Nat} {x : Int32} (h : a = j) : x = upd f j x a := by unfold upd; rw [if_pos h]
theorem shE_a {W : Nat → Int32} {a o : Nat} (h : o = a) : shE W a o = false := by unfold shE; simp [h]
theorem shE_w {W : Nat → Int32} {a o : Nat} (h : ¬ W o = W a) : shE W a o = false := by unfold shE; simp [h]
theorem shE_t {W : Nat → Int32} {a o : Nat} (h : ¬ o = a) (h2 : W o = W a) : shE W a o = true := by unfold shE; simp [h, h2]
theorem um_t1 {N k : Nat} {st by1 : Int32} {v : Nat → Nat → Int32} {W : Nat → Int32} (hok : Ok N st v) (hb : ∃ s : Nat, s < 4 ∧ by1 = nI (s + 1)) (h : ¬ tsa (nb (nt (v 0) by1 k) (v 0 k * by1)) (nt (v 0) by1 k) by1 7 ≤ 1) : umP v W by1 k = true := by
  have e : tsa (nb (nt (v 0) by1 k) (v 0 k * by1)) (nt (v 0) by1 k) by1 7 = _ := tsa7 hok hb k
  rw [e] at h
  unfold umP
  rw [um_iff (okM10 hok k)]
  cases t : tw (nt (v 0) by1 k) (v 0 k) by1
  · rw [t] at h; exact absurd (by decide) h
  · rfl
theorem um_t2 {N k : Nat} {st by1 : Int32} {v : Nat → Nat → Int32} {W : Nat → Int32} (hok : Ok N st v) (h : exB (shE W (ix (v 2 k))) 10 = true) : umP v W by1 k = true := by
  unfold umP
  rw [um_iff (okM10 hok k), h, Bool.or_true]
theorem um_f {N k : Nat} {st by1 : Int32} {v : Nat → Nat → Int32} {W : Nat → Int32} (hok : Ok N st v) (hb : ∃ s : Nat, s < 4 ∧ by1 = nI (s + 1)) (h : tsa (nb (nt (v 0) by1 k) (v 0 k * by1)) (nt (v 0) by1 k) by1 7 ≤ 1) (h2 : exB (shE W (ix (v 2 k))) 10 = false) : umP v W by1 k = false := by
  have e : tsa (nb (nt (v 0) by1 k) (v 0 k * by1)) (nt (v 0) by1 k) by1 7 = _ := tsa7 hok hb k
  rw [e] at h
  unfold umP
  rw [um_iff (okM10 hok k), h2, Bool.or_false]
  cases t : tw (nt (v 0) by1 k) (v 0 k) by1
  · rfl
  · rw [t] at h; exact absurd h (by decide)
theorem hd_nat {N : Nat} {st : Int32} {v : Nat → Nat → Int32} (h : Ok N st v) : ∀ k : Nat, ∃ a : Nat, a < 8 ∧ hd (v 0) k = nI a
  | 0 => ⟨0, by decide, rfl⟩
  | k + 1 => by
    obtain ⟨a, ha, ea⟩ := hd_nat h k
    obtain ⟨e, he, ee⟩ := h.2.2.1 k
    have fin : ∀ a, a < 8 → ∀ e, e < 7 → ∃ b, b < 8 ∧ fmd (nI a + (nI e - 3)) 8 = nI b := by decide +kernel
    obtain ⟨b, hb, eb⟩ := fin a ha e he
    exact ⟨b, hb, by rw [hd, ea, ee, eb]⟩
theorem hd_ix {N : Nat} {st : Int32} {v : Nat → Nat → Int32} (h : Ok N st v) (k : Nat) : hd (v 0) k = nI (ix (hd (v 0) k)) := by
  obtain ⟨a, ha, ea⟩ := hd_nat h k
  rw [ea, ix, nI_clamp (by omega)]
theorem hd_ix8 {N : Nat} {st : Int32} {v : Nat → Nat → Int32} (h : Ok N st v) (k : Nat) : ix (hd (v 0) k) < 8 := by
  obtain ⟨a, ha, ea⟩ := hd_nat h k
  rw [ea, ix, nI_clamp (by omega)]
  exact ha
theorem der_up {K j : Nat} {st : Int32} {v w : Nat → Nat → Int32} (h : Der K st v w) (hj : K ≤ j) (k : Nat) (x : Int32) : Der K st v (va_up w k (upd (w k) j x)) := by
  intro i hi
  have e : ∀ n : Nat, va_up w k (upd (w k) j x) n i = w n i := by
    intro n
    unfold va_up
    split
    · rename_i hn; subst hn; unfold upd; rw [if_neg (by omega)]
    · rfl
  rw [e, e, e, e]
  exact h i hi
/-- the four stores of one turn of follow -/
def st4 (w : Nat → Nat → Int32) (j : Nat) (a b c d : Int32) : Nat → Nat → Int32 :=
  va_up (va_up (va_up (va_up w 0 (upd (w 0) j a)) 1 (upd ((va_up w 0 (upd (w 0) j a)) 1) j b)) 2 (upd ((va_up (va_up w 0 (upd (w 0) j a)) 1 (upd ((va_up w 0 (upd (w 0) j a)) 1) j b)) 2) j c)) 3
    (upd ((va_up (va_up (va_up w 0 (upd (w 0) j a)) 1 (upd ((va_up w 0 (upd (w 0) j a)) 1) j b)) 2 (upd ((va_up (va_up w 0 (upd (w 0) j a)) 1 (upd ((va_up w 0 (upd (w 0) j a)) 1) j b)) 2) j c)) 3) j d)
theorem der_next {K : Nat} {st : Int32} {v w : Nat → Nat → Int32} (h : Der K st v w) : Der (K + 1) st v (st4 w K (hd (v 0) (K + 1)) (px (v 0) (v 1) (K + 1)) (py (v 0) (v 1) (K + 1)) (nt (v 0) st (K + 1))) := by
  intro i hi
  rcases Nat.lt_or_ge i K with q | q
  · have := der_up (der_up (der_up (der_up h (Nat.le_refl K) 0 (hd (v 0) (K + 1))) (Nat.le_refl K) 1 (px (v 0) (v 1) (K + 1))) (Nat.le_refl K) 2 (py (v 0) (v 1) (K + 1))) (Nat.le_refl K) 3 (nt (v 0) st (K + 1))
    exact this i q
  · have e : i = K := by omega
    subst e
    unfold st4
    simp [va_up, upd]
theorem der_0 {st : Int32} {v w : Nat → Nat → Int32} : Der 0 st v w := fun _ h => absurd h (Nat.not_lt_zero _)
theorem der_le {K M : Nat} {st : Int32} {v w : Nat → Nat → Int32} (h : Der K st v w) (hm : M ≤ K) : Der M st v w := fun i hi => h i (by omega)
theorem hd_cong {T T' : Nat → Int32} : ∀ {k : Nat}, (∀ i, i < k → T i = T' i) → hd T k = hd T' k
  | 0, _ => rfl
  | k + 1, h => by rw [hd, hd, hd_cong (fun i hi => h i (by omega)), h k (by omega)]
theorem px_cong {T T' L L' : Nat → Int32} : ∀ {k : Nat}, (∀ i, i < k → T i = T' i) → (∀ i, i < k → L i = L' i) → px T L k = px T' L' k
  | 0, _, _ => rfl
  | k + 1, h, h2 => by rw [px, px, px_cong (fun i hi => h i (by omega)) (fun i hi => h2 i (by omega)), h2 k (by omega), hd_cong h]
theorem py_cong {T T' L L' : Nat → Int32} : ∀ {k : Nat}, (∀ i, i < k → T i = T' i) → (∀ i, i < k → L i = L' i) → py T L k = py T' L' k
  | 0, _, _ => rfl
  | k + 1, h, h2 => by rw [py, py, py_cong (fun i hi => h i (by omega)) (fun i hi => h2 i (by omega)), h2 k (by omega), hd_cong h]
theorem nt_cong {T T' : Nat → Int32} {st : Int32} : ∀ {k : Nat}, (∀ i, i < k → T i = T' i) → nt T st k = nt T' st k
  | 0, _ => rfl
  | k + 1, h => by rw [nt, nt, nt_cong (fun i hi => h i (by omega)), h k (by omega)]
theorem der_cong {K : Nat} {st : Int32} {v v' w : Nat → Nat → Int32} (h : Der K st v w) (h0 : ∀ i, i < K → v 0 i = v' 0 i) (h1 : ∀ i, i < K → v 1 i = v' 1 i) : Der K st v' w := by
  intro i hi
  obtain ⟨a, b, c, d⟩ := h i hi
  exact ⟨a.trans (hd_cong (fun k hk => h0 k (by omega))), b.trans (px_cong (fun k hk => h0 k (by omega)) (fun k hk => h1 k (by omega))), c.trans (py_cong (fun k hk => h0 k (by omega)) (fun k hk => h1 k (by omega))), d.trans (nt_cong (fun k hk => h0 k (by omega)))⟩
/-- what addLeg writes down -/
def addV (v : Nat → Nat → Int32) (j : Nat) (t ln m : Int32) : Nat → Nat → Int32 :=
  va_up (va_up (va_up v 0 (upd (v 0) j t)) 1 (upd ((va_up v 0 (upd (v 0) j t)) 1) j ln)) 2 (upd ((va_up (va_up v 0 (upd (v 0) j t)) 1 (upd ((va_up v 0 (upd (v 0) j t)) 1) j ln)) 2) j m)
theorem addV_ok {N : Nat} {st ln : Int32} {v : Nat → Nat → Int32} (h : Ok N st v) (hN : N < 16) {e j : Nat} (he : e < 7) (hj : j < 10) : Ok (N + 1) st (addV v N (nI e - 3) ln (nI j)) := by
  refine ⟨by omega, h.2.1, fun k => ?_, fun k => ?_⟩
  · have e1 : addV v N (nI e - 3) ln (nI j) 0 k = upd (v 0) N (nI e - 3) k := rfl
    rw [e1]
    unfold upd
    split
    · exact ⟨e, he, rfl⟩
    · exact h.2.2.1 k
  · have e1 : addV v N (nI e - 3) ln (nI j) 2 k = upd (v 2) N (nI j) k := rfl
    rw [e1]
    unfold upd
    split
    · exact ⟨j, hj, rfl⟩
    · exact h.2.2.2 k
theorem addV_der {N : Nat} {st t ln m : Int32} {v w : Nat → Nat → Int32} (h : Der N st v w) : Der N st (addV v N t ln m) w := by
  refine der_cong h (fun i hi => ?_) (fun i hi => ?_)
  · show v 0 i = upd (v 0) N t i
    unfold upd; rw [if_neg (by omega)]
  · show v 1 i = upd (v 1) N ln i
    unfold upd; rw [if_neg (by omega)]
theorem bend_ok {N : Nat} {st : Int32} {v : Nat → Nat → Int32} (h : Ok N st v) {e i : Nat} (he : e < 7) : Ok N st (va_up v 0 (upd (v 0) i (nI e - 3))) := by
  refine ⟨h.1, h.2.1, fun k => ?_, fun k => h.2.2.2 k⟩
  show ∃ e1, e1 < 7 ∧ upd (v 0) i (nI e - 3) k = nI e1 - 3
  unfold upd
  split
  · exact ⟨e, he, rfl⟩
  · exact h.2.2.1 k
theorem bend_der {K : Nat} {st t : Int32} {v w : Nat → Nat → Int32} (h : Der K st v w) : Der K st (va_up v 0 (upd (v 0) K t)) w := by
  refine der_cong h (fun i hi => ?_) (fun i hi => rfl)
  show v 0 i = upd (v 0) K t i
  unfold upd; rw [if_neg (by omega)]
/-- mending until no more ways are left than told: the count and the marks -/
def mdF (v : Nat → Nat → Int32) (st : Int32) (N : Nat) (ways : Int64) : Nat → Nat → (Nat → Bool) → Nat × (Nat → Bool)
  | 0, c, g => (c, g)
  | f + 1, c, g => if ways < wys v st g N then (match mst v st g N with | none => (c, g) | some b => mdF v st N ways f (c + 1) (va_up g b true)) else (c, g)
theorem mdF_stop {v : Nat → Nat → Int32} {st : Int32} {N : Nat} {ways : Int64} {f c : Nat} {mk : Nat → Bool} (h : ¬ ways < wys v st mk N) : mdF v st N ways f c mk = (c, mk) := by
  cases f with
  | zero => rfl
  | succ f => rw [mdF, if_neg h]
theorem mdF_none {v : Nat → Nat → Int32} {st : Int32} {N : Nat} {ways : Int64} {f c : Nat} {mk : Nat → Bool} (h : mst v st mk N = none) : mdF v st N ways f c mk = (c, mk) := by
  cases f with
  | zero => rfl
  | succ f =>
    rw [mdF]
    split
    · rw [h]
    · rfl
theorem mdF_go {v : Nat → Nat → Int32} {st : Int32} {N b : Nat} {ways : Int64} {f c : Nat} {mk : Nat → Bool} (hf : 0 < f) (h : ways < wys v st mk N) (hb : mst v st mk N = some b) : mdF v st N ways f c mk = mdF v st N ways (f - 1) (c + 1) (va_up mk b true) := by
  cases f with
  | zero => omega
  | succ f => rw [mdF, if_pos h, hb]; rfl
theorem fmd_1 {x y : Int32} (h : 0 ≤ x ^^^ y) : x - x / y * y = fmd x y := by unfold fmd; rw [if_neg (fun q => Int32.not_lt.mpr h q.1)]
theorem fmd_2 {x y : Int32} (h : x - x / y * y = 0) : x - x / y * y = fmd x y := by unfold fmd; rw [if_neg (fun q => q.2 h)]
theorem fmd_3 {x y : Int32} (h : ¬ 0 ≤ x ^^^ y) (h2 : ¬ x - x / y * y = 0) : x - x / y * y + y = fmd x y := by unfold fmd; rw [if_pos ⟨Int32.not_le.mp h, h2⟩]
theorem mk_f {mk : Nat → Bool} {j : Nat} (h : ∀ k, k < j → mk k = false) : ∀ k, k < j + 1 → va_up mk j false k = false := by
  intro k hk
  unfold va_up
  split
  · rfl
  · exact h k (by omega)
theorem mdF_0 {v : Nat → Nat → Int32} {st : Int32} {N c : Nat} {ways : Int64} {g : Nat → Bool} (h : N ≤ c) : mdF v st N ways (N - c) c g = (c, g) := by rw [show N - c = 0 by omega]; rfl
theorem optI_some {v : Nat → Nat → Int32} {st : Int32} {N : Nat} {g : Nat → Bool} (h : 0 ≤ optI (mst v st g N)) : ∃ b : Nat, mst v st g N = some b ∧ b < N := by
  cases e : mst v st g N with
  | none => rw [e] at h; exact absurd h (by decide)
  | some b => exact ⟨b, rfl, (mst_amb e).1⟩
theorem optI_none {v : Nat → Nat → Int32} {st : Int32} {N : Nat} {g : Nat → Bool} (hN : N ≤ 16) (h : ¬ 0 ≤ optI (mst v st g N)) : mst v st g N = none := by
  cases e : mst v st g N with
  | none => rfl
  | some b =>
    rw [e] at h
    have := (mst_amb e).1
    exact absurd (nI_pos' (n := b) (by omega)) h
/-! the model -/
def isI (x lo hi : Int32) : Bool := decide (lo ≤ x) && decide (x ≤ hi)
theorem lv9_isI (x : Int32) : lv9 x = !isI x 0 24 := by
  unfold lv9 isI
  rcases Int32.lt_or_le x 0 with h | h
  · simp [h, Int32.not_le.mpr h]
  · rcases Int32.lt_or_le 24 x with h2 | h2
    · simp [h, Int32.not_lt.mpr h, h2, Int32.not_le.mpr h2]
    · simp [h, Int32.not_lt.mpr h, h2, Int32.not_lt.mpr h2]
def legB (N : Nat) (x : Int32) : Bool := isI x 0 (nI N - 1)
theorem legB_t {N i : Nat} (hi : i < N) (hN : N ≤ 16) : legB N (nI i) = true := by
  obtain ⟨M, rfl⟩ : ∃ M, N = M + 1 := ⟨N - 1, by omega⟩
  unfold legB isI
  rw [nI_pred]
  have h1 : (0 : Int32) ≤ nI i := (nI_leI (a := 0) (by omega) (by omega)).mpr (Nat.zero_le _)
  have h2 : nI i ≤ nI M := (nI_leI (by omega) (by omega)).mpr (by omega)
  simp [h1, h2]
theorem legB_f {N : Nat} {x : Int32} (hN : N ≤ 16) (h : x < 0 ∨ nI N ≤ x) : legB N x = false := by
  unfold legB isI
  rcases h with h | h
  · simp [Int32.not_le.mpr h]
  · rcases Nat.eq_zero_or_pos N with e | e
    · subst e
      have h2 : ¬ (0 ≤ x ∧ x ≤ nI 0 - 1) := by
        intro q
        have := Int32.le_trans q.1 q.2
        exact absurd this (by decide)
      cases h3 : (decide (0 ≤ x) && decide (x ≤ nI 0 - 1)) with
      | false => rfl
      | true => simp only [Bool.and_eq_true, decide_eq_true_eq] at h3; exact absurd h3 h2
    · rw [nI_dec e]
      have h2 : ¬ x ≤ nI (N - 1) := fun q => by
        have h3 := Int32.le_trans h q
        have := (nI_leI (by omega) (by omega)).mp h3
        omega
      simp [h2]
theorem isI_t {e : Nat} (he : e < 7) : isI (nI e - 3) (-3) 3 = true := by
  unfold isI
  simp [tn_hi he, Int32.not_lt.mp (tn_lo he)]
theorem isI_k {j : Nat} (h : j < 10) : isI (nI j) 0 9 = true := by
  have h1 : (0 : Int32) ≤ nI j := (nI_leI (a := 0) (by omega) (by omega)).mpr (Nat.zero_le _)
  have h2 : nI j ≤ 9 := (nI_leI (b := 9) (by omega) (by omega)).mpr (by omega)
  unfold isI
  simp [h1, h2]
theorem isI_s {x : Nat} (h : x < 4) : isI (nI (x + 1)) 1 4 = true := by
  have h1 : (1 : Int32) ≤ nI (x + 1) := (nI_leI (a := 1) (by omega) (by omega)).mpr (by omega)
  have h2 : nI (x + 1) ≤ 4 := (nI_leI (b := 4) (by omega) (by omega)).mpr (by omega)
  unfold isI
  simp [h1, h2]
/-- the heading as the model reckons it -/
def hsum (T : Nat → Int32) : Nat → Int32
  | 0 => 0
  | k + 1 => hsum T k + (T k + 8)
theorem hsum_nat {N : Nat} {st : Int32} {v : Nat → Nat → Int32} (h : Ok N st v) : ∀ k : Nat, k ≤ 16 → ∃ a : Nat, a ≤ 11 * k ∧ hsum (v 0) k = nI a ∧ hd (v 0) k = nI (a % 8)
  | 0, _ => ⟨0, by omega, rfl, rfl⟩
  | k + 1, hk => by
    obtain ⟨a, ha, ea, eh⟩ := hsum_nat h k (by omega)
    obtain ⟨e, he, ee⟩ := h.2.2.1 k
    refine ⟨a + (e + 5), by omega, ?_, ?_⟩
    · rw [hsum, ea, ee]
      have fin : ∀ e, e < 7 → nI e - 3 + 8 = nI (e + 5) := by decide
      rw [fin e he, nI_add]
    · rw [hd, eh, ee]
      have fin : ∀ a, a < 8 → ∀ e, e < 7 → fmd (nI a + (nI e - 3)) 8 = nI ((a + (e + 5)) % 8) := by decide +kernel
      rw [fin (a % 8) (by omega) e he]
      congr 1
      omega
theorem hsum_hd {N : Nat} {st : Int32} {v : Nat → Nat → Int32} (h : Ok N st v) {k : Nat} (hk : k ≤ 16) : hsum (v 0) k - hsum (v 0) k / 8 * 8 = hd (v 0) k := by
  obtain ⟨a, ha, ea, eh⟩ := hsum_nat h k hk
  rw [ea, eh]
  exact pk_rem (a := a) (d := 8) (by omega) (by omega) (by omega)
theorem hd_y {N : Nat} {st : Int32} {v : Nat → Nat → Int32} (h : Ok N st v) (k : Nat) : hd (v 0) k + 2 - (hd (v 0) k + 2) / 8 * 8 = nI ((ix (hd (v 0) k) + 2) % 8) := by
  obtain ⟨a, ha, ea⟩ := hd_nat h k
  have e : ix (nI a) = a := nI_clamp (by omega)
  rw [ea, e]
  have fin : ∀ a, a < 8 → nI a + 2 - (nI a + 2) / 8 * 8 = nI ((a + 2) % 8) := by decide +kernel
  exact fin a ha
theorem noT_y {N : Nat} {st : Int32} {v : Nat → Nat → Int32} (h : Ok N st v) (k : Nat) : eaT ((ix (hd (v 0) k) + 2) % 8) = noT (ix (hd (v 0) k)) := by
  have h8 := hd_ix8 h k
  have fin : ∀ a, a < 8 → eaT ((a + 2) % 8) = noT a := by decide
  exact fin _ h8
theorem sing_t {T : Nat → Int32} {by1 a : Int32} {k : Nat} (ha : a = nt T by1 k) (h : lv9 (a + by1 * T k) = true) : a + -by1 * T k = nt T by1 (k + 1) := by
  subst ha
  rw [nt, Int32.mul_comm (T k) by1, ← nb_t h, Int32.sub_eq_add_neg, Int32.neg_mul]
theorem sing_f {T : Nat → Int32} {by1 a : Int32} {k : Nat} (ha : a = nt T by1 k) (h : lv9 (a + by1 * T k) = false) : a + by1 * T k = nt T by1 (k + 1) := by
  subst ha
  rw [nt, Int32.mul_comm (T k) by1, ← nb_f h]
theorem le_s1 {P : Nat → Prop} {j : Nat} (h : ∀ i, i ≤ j → P i) (hj : P (j + 1)) : ∀ i, i ≤ j + 1 → P i := fun i hi => by
  rcases Nat.lt_or_ge j i with q | q
  · rw [show i = j + 1 by omega]; exact hj
  · exact h i q
/-- how many readings, by a step and with the notes as sung by it -/
def mny (v : Nat → Nat → Int32) (by1 : Int32) (k : Nat) : Int32 := (if tw (nt (v 0) by1 k) (v 0 k) by1 = true then 2 else 1) * lc (v 3) (wd v k) 10
/-- the marks, as bits -/
def Mk (N : Nat) (g : Nat → Bool) (md : Int32) : Prop := (∀ k : Nat, k < N → md.toBitVec.getLsbD k = g k) ∧ ∀ k : Nat, N ≤ k → k < 16 → md.toBitVec.getLsbD k = false
theorem bit_get (x : Int32) (k : Nat) (hk : k < 16) : (x >>> (nI k &&& 31)) &&& 1 = b2i (x.toBitVec.getLsbD k) := by
  have hs : ((nI k &&& 31).toBitVec.smod 32).toNat = k := by
    have fin : ∀ k, k < 16 → ((nI k &&& 31).toBitVec.smod 32).toNat = k := by decide +kernel
    exact fin k hk
  have e : ((x >>> (nI k &&& 31)) &&& 1) = nI ((x >>> (nI k &&& 31)).toBitVec.toNat % 2 ^ 1) := pk_and _ 1 (by decide)
  have hb : (x >>> (nI k &&& 31)).toBitVec.getLsbD 0 = x.toBitVec.getLsbD k := by
    rw [Int32.toBitVec_shiftRight]
    rw [BitVec.sshiftRight_eq', ]
    rw [BitVec.getLsbD_sshiftRight]
    rw [hs]
    simp
    omega
  have g : ∀ y : BitVec 32, y.toNat % 2 ^ 1 = (y.getLsbD 0).toNat := by
    intro y
    rw [BitVec.getLsbD, Nat.testBit_zero]
    rcases Nat.mod_two_eq_zero_or_one y.toNat with h | h <;> simp [h]
  rw [e, g, hb]
  cases x.toBitVec.getLsbD k <;> decide
theorem bit_pow {i : Nat} (hi : i < 16) : ((1 : Int32) <<< (nI i &&& 31)).toBitVec = BitVec.twoPow 32 i := by
  have fin : ∀ i, i < 16 → ((1 : Int32) <<< (nI i &&& 31)).toBitVec = BitVec.twoPow 32 i := by decide +kernel
  exact fin i hi
theorem bit_set (md : Int32) {i k : Nat} (hi : i < 16) : (md ||| (1 <<< (nI i &&& 31))).toBitVec.getLsbD k = (md.toBitVec.getLsbD k || decide (i = k)) := by
  rw [Int32.toBitVec_or, BitVec.getLsbD_or, bit_pow hi, BitVec.getLsbD_twoPow]
  simp [show i < 32 by omega]
theorem bit_clr (md : Int32) {i k : Nat} (hi : i < 16) (hk : k < 16) : (md &&& ((1 <<< (nI i &&& 31)) ^^^ (-1))).toBitVec.getLsbD k = (md.toBitVec.getLsbD k && !decide (i = k)) := by
  rw [Int32.toBitVec_and, BitVec.getLsbD_and, Int32.toBitVec_xor, BitVec.getLsbD_xor, bit_pow hi, BitVec.getLsbD_twoPow]
  have fin : ∀ k, k < 16 → (-1 : Int32).toBitVec.getLsbD k = true := by decide +kernel
  rw [fin k hk]
  simp [show i < 32 by omega]
theorem Mk_set {N i : Nat} {g : Nat → Bool} {md : Int32} (h : Mk N g md) (hN : N ≤ 16) (hi : i < N) : Mk N (va_up g i true) (md ||| (1 <<< (nI i &&& 31))) := by
  refine ⟨fun k hk => ?_, fun k hk h16 => ?_⟩
  · rw [bit_set md (by omega), h.1 k hk]
    unfold va_up
    rcases Nat.decEq k i with hn | hy
    · rw [if_neg hn, show decide (i = k) = false from decide_eq_false (fun q => hn q.symm), Bool.or_false]
    · rw [if_pos hy, show decide (i = k) = true from decide_eq_true hy.symm, Bool.or_true]
  · rw [bit_set md (by omega), h.2 k hk h16, show decide (i = k) = false from decide_eq_false (by omega)]
    rfl
theorem Mk_strike {M : Nat} {g : Nat → Bool} {md : Int32} (h : Mk (M + 1) g md) (hM : M < 16) : Mk M g (md &&& ((1 <<< (nI M &&& 31)) ^^^ (-1))) := by
  refine ⟨fun k hk => ?_, fun k hk h16 => ?_⟩
  · rw [bit_clr md hM (by omega), h.1 k (by omega), show decide (M = k) = false from decide_eq_false (by omega)]
    simp
  · rw [bit_clr md hM h16]
    rcases Nat.decEq M k with hn | hy
    · rw [h.2 k (by omega) h16]; rfl
    · rw [show decide (M = k) = true from decide_eq_true hy]; simp
theorem Mk_zero {N : Nat} {g : Nat → Bool} (h : ∀ k, k < N → g k = false) : Mk N g 0 := by
  refine ⟨fun k hk => ?_, fun k hk h16 => ?_⟩
  · rw [h k hk]; simp
  · simp
theorem Mk_add {N : Nat} {g : Nat → Bool} {md : Int32} (h : Mk N g md) (hN : N < 16) : Mk (N + 1) (va_up g N false) md := by
  refine ⟨fun k hk => ?_, fun k hk h16 => h.2 k (by omega) h16⟩
  unfold va_up
  rcases Nat.decEq k N with hn | hy
  · rw [if_neg hn]; exact h.1 k (by omega)
  · rw [if_pos hy, hy]; exact h.2 N (Nat.le_refl N) hN
theorem Mk_get {N k : Nat} {g : Nat → Bool} {md : Int32} (h : Mk N g md) (hN : N ≤ 16) (hk : k < N) : (md >>> (nI k &&& 31)) &&& 1 = b2i (g k) := by
  rw [bit_get md k (by omega), h.1 k hk]
theorem upd_back {v : Nat → Nat → Int32} {j : Nat} {x : Int32} : va_up (va_up v 3 (upd (v 3) j x)) 3 (upd ((va_up v 3 (upd (v 3) j x)) 3) j (v 3 j)) = v := by
  funext n i
  unfold va_up
  split
  · rename_i h
    subst h
    simp only [if_pos, upd]
    split
    · rename_i h2; rw [h2]
    · rfl
  · rfl
theorem rdn_mny {v : Nat → Nat → Int32} {st : Int32} {k : Nat} : mny v st k = rdn v st k := rfl
theorem um_mny {v : Nat → Nat → Int32} {by1 : Int32} {k : Nat} : umP v (v 3) by1 k = decide (1 < mny v by1 k) := rfl
theorem b2i_set_t {P : Nat → Bool} {n : Nat} (h : P n = true) : (1 : Int32) = b2i (exB P (n + 1)) := by rw [exB, h, Bool.or_true]; rfl
theorem b2i_set_o {P : Nat → Bool} {n : Nat} (h : exB P n = true) : (1 : Int32) = b2i (exB P (n + 1)) := by rw [exB, h, Bool.true_or]; rfl
theorem b2i_set_f {P : Nat → Bool} {n : Nat} (h : exB P n = false) (h2 : P n = false) : (0 : Int32) = b2i (exB P (n + 1)) := by rw [exB, h, h2]; rfl
theorem ctB_t' {P : Nat → Bool} {j : Nat} (h : P j = true) : ctB P j + 1 = ctB P (j + 1) := (ctB_t h).symm
theorem ctB_f' {P : Nat → Bool} {j : Nat} (h : P j = false) : ctB P j + 0 = ctB P (j + 1) := by rw [ctB_f h, Int32.add_zero]
theorem lc_t' {W : Nat → Int32} {x a : Int32} {j : Nat} (h : W j = x) (ha : a = lc W x j) : a + 1 = lc W x (j + 1) := by rw [lc_t h, ha]
theorem lc_f' {W : Nat → Int32} {x a : Int32} {j : Nat} (h : ¬ W j = x) (ha : a = lc W x j) : a + 0 = lc W x (j + 1) := by rw [lc_f h, ha, Int32.add_zero]
/-- right's sum, on its way -/
def rrS (v : Nat → Nat → Int32) (st : Int32) (k j : Nat) : Int32 := (if (tw (nt (v 0) st k) (v 0 k) st && decide (0 < v 0 k)) = true then lc (v 3) (wd v k) 10 else 0) + lc (v 3) (wd v k) j
theorem rrS_t {v : Nat → Nat → Int32} {st : Int32} {k j : Nat} (h : v 3 j = v 3 (ix (v 2 k))) : rrS v st k j + 1 = rrS v st k (j + 1) := by
  unfold rrS
  rw [lc_t (W := v 3) (x := wd v k) h, Int32.add_assoc]
theorem rrS_f {v : Nat → Nat → Int32} {st : Int32} {k j : Nat} (h : ¬ v 3 j = v 3 (ix (v 2 k))) : rrS v st k j + 0 = rrS v st k (j + 1) := by
  unfold rrS
  rw [lc_f (W := v 3) (x := wd v k) h, Int32.add_zero]
theorem rrS_a {v : Nat → Nat → Int32} {st : Int32} {k : Nat} (h : tw (nt (v 0) st k) (v 0 k) st = false) : 0 = rrS v st k 0 := by
  unfold rrS; rw [h, if_neg (by simp), lc, Int32.add_zero]
theorem rrS_b {v : Nat → Nat → Int32} {st : Int32} {k : Nat} (h : v 0 k ≤ 0) : 0 = rrS v st k 0 := by
  unfold rrS; rw [if_neg (by simp; exact fun _ => h), lc, Int32.add_zero]
theorem rrS_c {v : Nat → Nat → Int32} {st : Int32} {k : Nat} (h : tw (nt (v 0) st k) (v 0 k) st = true) (h2 : ¬ v 0 k ≤ 0) : lc (v 3) (v 3 (ix (v 2 k))) 10 = rrS v st k 0 := by
  unfold rrS; rw [h, if_pos (by simp; exact Int32.not_le.mp h2), lc, Int32.add_zero]; rfl
theorem wys_t' {v : Nat → Nat → Int32} {st : Int32} {mk : Nat → Bool} {k : Nat} (h : amb v st mk k = true) : (if wys v st mk k * Int32.toInt64 (rdn v st k) < 1000000000 then wys v st mk k * Int32.toInt64 (rdn v st k) else 1000000000) = wys v st mk (k + 1) := by
  rw [wys_t h]
  by_cases h1 : wys v st mk k * Int32.toInt64 (rdn v st k) < 1000000000
  · rw [if_pos h1, if_neg (fun q => absurd (Int64.lt_trans h1 q) (Int64.lt_irrefl))]
  · rw [if_neg h1]
    split
    · rfl
    · rename_i h2
      exact Int64.le_antisymm (Int64.not_lt.mp h1) (Int64.not_lt.mp h2)
/-- the notes as the model has sung them -/
def Sg (N : Nat) (by1 : Int32) (v w : Nat → Nat → Int32) : Prop := ∀ k : Nat, k ≤ N → w 0 k = nt (v 0) by1 k
def Wk (N : Nat) (v w : Nat → Nat → Int32) : Prop := ∀ k : Nat, k ≤ N → w 1 k = px (v 0) (v 1) k ∧ w 2 k = py (v 0) (v 1) k
theorem sg_0 {by1 : Int32} {v w : Nat → Nat → Int32} : ∀ k : Nat, k ≤ 0 → (va_up w 0 (upd (w 0) 0 12)) 0 k = nt (v 0) by1 k := by
  intro k hk
  rw [show k = 0 by omega]
  rfl
theorem sg_up {by1 : Int32} {v w : Nat → Nat → Int32} {j : Nat} (h : ∀ k : Nat, k ≤ j → w 0 k = nt (v 0) by1 k) : ∀ k : Nat, k ≤ j + 1 → (va_up w 0 (upd (w 0) (j + 1) (nt (v 0) by1 (j + 1)))) 0 k = nt (v 0) by1 k := by
  intro k hk
  show upd (w 0) (j + 1) (nt (v 0) by1 (j + 1)) k = _
  unfold upd
  split
  · rename_i e; rw [e]
  · exact h k (by omega)
theorem wk_0 {v w : Nat → Nat → Int32} : ∀ k : Nat, k ≤ 0 → (va_up (va_up w 1 (upd (w 1) 0 0)) 2 (upd ((va_up w 1 (upd (w 1) 0 0)) 2) 0 0)) 1 k = px (v 0) (v 1) k ∧ (va_up (va_up w 1 (upd (w 1) 0 0)) 2 (upd ((va_up w 1 (upd (w 1) 0 0)) 2) 0 0)) 2 k = py (v 0) (v 1) k := by
  intro k hk
  rw [show k = 0 by omega]
  exact ⟨rfl, rfl⟩
theorem wk_up {v w : Nat → Nat → Int32} {j : Nat} (h : ∀ k : Nat, k ≤ j → w 1 k = px (v 0) (v 1) k ∧ w 2 k = py (v 0) (v 1) k) : ∀ k : Nat, k ≤ j + 1 →
    (va_up (va_up w 1 (upd (w 1) (j + 1) (px (v 0) (v 1) (j + 1)))) 2 (upd ((va_up w 1 (upd (w 1) (j + 1) (px (v 0) (v 1) (j + 1)))) 2) (j + 1) (py (v 0) (v 1) (j + 1)))) 1 k = px (v 0) (v 1) k ∧
    (va_up (va_up w 1 (upd (w 1) (j + 1) (px (v 0) (v 1) (j + 1)))) 2 (upd ((va_up w 1 (upd (w 1) (j + 1) (px (v 0) (v 1) (j + 1)))) 2) (j + 1) (py (v 0) (v 1) (j + 1)))) 2 k = py (v 0) (v 1) k := by
  intro k hk
  refine ⟨?_, ?_⟩
  · show upd (w 1) (j + 1) (px (v 0) (v 1) (j + 1)) k = _
    unfold upd
    split
    · rename_i e; rw [e]
    · exact (h k (by omega)).1
  · show upd (w 2) (j + 1) (py (v 0) (v 1) (j + 1)) k = _
    unfold upd
    split
    · rename_i e; rw [e]
    · exact (h k (by omega)).2
theorem wk_x {T L : Nat → Int32} {a : Int32} {j : Nat} (h : a = px T L j) : a + L j * eaT (ix (hd T (j + 1))) = px T L (j + 1) := by subst h; rfl
theorem wk_y {T L : Nat → Int32} {a : Int32} {j : Nat} (h : a = py T L j) : a + L j * noT (ix (hd T (j + 1))) = py T L (j + 1) := by subst h; rfl
theorem fold_c {v : Nat → Nat → Int32} {st a : Int32} {k : Nat} (h : a = nt (v 0) st k) : b2i (lv9 (a + st * v 0 k)) = b2i (fold1 v st k) := by
  subst h; unfold fold1; rw [Int32.mul_comm st (v 0 k)]
theorem tw_0 {a t by1 : Int32} (h : t = 0) : tw a t by1 = false := by unfold tw; simp [h]
theorem tw_1 {a t by1 : Int32} (h : ¬ t = 0) (h2 : lv9 (a + by1 * t) = true) : tw a t by1 = true := by unfold tw; simp [h, h2]
theorem tw_2 {a t by1 : Int32} (h : ¬ t = 0) (h2 : lv9 (a + -by1 * t) = true) : tw a t by1 = true := by unfold tw; simp [h, h2]
theorem tw_3 {a t by1 : Int32} (h2 : lv9 (a + by1 * t) = false) (h3 : lv9 (a + -by1 * t) = false) : tw a t by1 = false := by unfold tw; simp [h2, h3]
theorem mny_t {v : Nat → Nat → Int32} {by1 : Int32} {k : Nat} (h : tw (nt (v 0) by1 k) (v 0 k) by1 = true) : 2 * lc (v 3) (v 3 (ix (v 2 k))) 10 = mny v by1 k := by unfold mny; rw [if_pos h]; rfl
theorem mny_f {v : Nat → Nat → Int32} {by1 : Int32} {k : Nat} (h : tw (nt (v 0) by1 k) (v 0 k) by1 = false) : 1 * lc (v 3) (v 3 (ix (v 2 k))) 10 = mny v by1 k := by unfold mny; rw [h, if_neg (by decide)]; rfl
theorem rrS_rrn {v : Nat → Nat → Int32} {st : Int32} {k : Nat} : rrS v st k (ix (v 2 k)) = rrn v st k := rfl
theorem um_1 {v : Nat → Nat → Int32} {by1 : Int32} {k : Nat} (h : ¬ mny v by1 k ≤ 1) : umP v (v 3) by1 k = true := by rw [um_mny]; exact decide_eq_true (Int32.not_le.mp h)
theorem um_0 {v : Nat → Nat → Int32} {by1 : Int32} {k : Nat} (h : mny v by1 k ≤ 1) : umP v (v 3) by1 k = false := by rw [um_mny]; exact decide_eq_false (Int32.not_lt.mpr h)
theorem amb_o {v : Nat → Nat → Int32} {st : Int32} {mk : Nat → Bool} {k : Nat} (h : mk k = true) : amb v st mk k = false := by unfold amb; simp [h]
theorem amb_1 {v : Nat → Nat → Int32} {st : Int32} {mk : Nat → Bool} {k : Nat} (h : mk k = false) (h2 : ¬ rdn v st k ≤ 1) : amb v st mk k = true := amb_iff.mpr ⟨h, Int32.not_le.mp h2⟩
theorem amb_0 {v : Nat → Nat → Int32} {st : Int32} {mk : Nat → Bool} {k : Nat} (h2 : rdn v st k ≤ 1) : amb v st mk k = false := by
  cases e : amb v st mk k with
  | false => rfl
  | true => exact absurd (amb_iff.mp e).2 (Int32.not_lt.mpr h2)
theorem b2i_n1 {b : Bool} (h : ¬ b2i b = 1) : b = false := by cases b <;> simp_all [b2i]
theorem b2i_y1 {b : Bool} (h : b2i b = 1) : b = true := by cases b <;> simp_all [b2i]
theorem mst_s0 {v : Nat → Nat → Int32} {st : Int32} {g : Nat → Bool} {j : Nat} (h : amb v st g j = false) : mst v st g (j + 1) = mst v st g j := by
  rw [mst]
  cases e : mst v st g j with
  | none => dsimp only; rw [h]; rfl
  | some b => dsimp only; rw [if_neg (fun q => by rw [h] at q; cases q.1)]
theorem optI_m1 {o : Option Nat} (ho : ∀ b, o = some b → b < 16) (h : optI o = -1) : o = none := by
  cases o with
  | none => rfl
  | some b =>
    have hb := ho b rfl
    have fin : ∀ b, b < 16 → ¬ nI b = -1 := by decide +kernel
    exact absurd h (fin b hb)
theorem mst_lt {v : Nat → Nat → Int32} {st : Int32} {g : Nat → Bool} {n : Nat} (hn : n ≤ 16) : ∀ b, mst v st g n = some b → b < 16 := fun b h => by
  have := (mst_amb h).1
  omega
theorem mst_s1 {v : Nat → Nat → Int32} {st : Int32} {g : Nat → Bool} {j : Nat} (hj : j ≤ 16) (h : amb v st g j = true) (hn : optI (mst v st g j) = -1) : mst v st g (j + 1) = some j := by
  rw [mst, optI_m1 (mst_lt hj) hn]
  dsimp only
  rw [if_pos h]
theorem mst_s2 {v : Nat → Nat → Int32} {st : Int32} {g : Nat → Bool} {j b : Nat} (hb : mst v st g j = some b) (h : rdn v st j ≤ rdn v st b) : mst v st g (j + 1) = mst v st g j := by
  rw [mst, hb]
  dsimp only
  rw [if_neg (fun q => Int32.not_lt.mpr h q.2)]
theorem mst_s3 {v : Nat → Nat → Int32} {st : Int32} {g : Nat → Bool} {j b : Nat} (hb : mst v st g j = some b) (ha : amb v st g j = true) (h : ¬ rdn v st j ≤ rdn v st b) : mst v st g (j + 1) = some j := by
  rw [mst, hb]
  dsimp only
  rw [if_pos ⟨ha, Int32.not_le.mp h⟩]
theorem mst_so {v : Nat → Nat → Int32} {st : Int32} {g : Nat → Bool} {j : Nat} (h : ¬ optI (mst v st g j) = -1) : ∃ b : Nat, mst v st g j = some b ∧ b < j := by
  cases e : mst v st g j with
  | none => rw [e] at h; exact absurd rfl h
  | some b => exact ⟨b, rfl, (mst_amb e).1⟩
theorem mst_no {v : Nat → Nat → Int32} {st : Int32} {g : Nat → Bool} : ∀ {n : Nat}, mst v st g n = none → ∀ k, k < n → amb v st g k = false
  | 0, _, k, hk => absurd hk (Nat.not_lt_zero _)
  | n + 1, h, k, hk => by
    rw [mst] at h
    cases e : mst v st g n with
    | some b =>
      rw [e] at h
      dsimp only at h
      split at h <;> cases h
    | none =>
      rw [e] at h
      dsimp only at h
      split at h
      · cases h
      · rename_i hn
        rcases Nat.lt_or_ge k n with q | q
        · exact mst_no e k q
        · rw [show k = n by omega]; exact Bool.eq_false_iff.mpr hn
theorem wys_1 {v : Nat → Nat → Int32} {st : Int32} {g : Nat → Bool} : ∀ {n : Nat}, (∀ k, k < n → amb v st g k = false) → wys v st g n = 1
  | 0, _ => rfl
  | n + 1, h => by rw [wys_f (h n (by omega)), wys_1 (fun k hk => h k (by omega))]
theorem mst_go {v : Nat → Nat → Int32} {st : Int32} {g : Nat → Bool} {N : Nat} {W9 : Int64} (h1 : 1 ≤ W9) (h : W9 < wys v st g N) : ∃ b : Nat, mst v st g N = some b ∧ b < N := by
  cases e : mst v st g N with
  | some b => exact ⟨b, rfl, (mst_amb e).1⟩
  | none =>
    rw [wys_1 (mst_no e)] at h
    exact absurd (Int64.lt_of_lt_of_le h h1) Int64.lt_irrefl
/-- how many of the first n bear no mark -/
def ucn (g : Nat → Bool) : Nat → Nat
  | 0 => 0
  | n + 1 => ucn g n + (if g n = true then 0 else 1)
theorem ucn_le (g : Nat → Bool) : ∀ n : Nat, ucn g n ≤ n
  | 0 => Nat.le_refl _
  | n + 1 => by have := ucn_le g n; rw [ucn]; split <;> omega
theorem ucn_0 {g : Nat → Bool} : ∀ {n : Nat}, ucn g n = 0 → ∀ k, k < n → g k = true
  | 0, _, k, hk => absurd hk (Nat.not_lt_zero _)
  | n + 1, h, k, hk => by
    rw [ucn] at h
    have h2 : g n = true := by
      cases e : g n with
      | true => rfl
      | false => rw [e] at h; simp at h
    rcases Nat.lt_or_ge k n with q | q
    · exact ucn_0 (n := n) (by omega) k q
    · rw [show k = n by omega]; exact h2
theorem ucn_up {g : Nat → Bool} {b : Nat} (hb : g b = false) : ∀ {n : Nat}, (n ≤ b → ucn (va_up g b true) n = ucn g n) ∧ (b < n → ucn (va_up g b true) n + 1 = ucn g n)
  | 0 => ⟨fun _ => rfl, fun h => absurd h (Nat.not_lt_zero _)⟩
  | n + 1 => by
    have ih := ucn_up hb (n := n)
    refine ⟨fun h => ?_, fun h => ?_⟩
    · rw [ucn, ucn, ih.1 (by omega), show va_up g b true n = g n by unfold va_up; rw [if_neg (by omega)]]
    · rw [ucn, ucn]
      rcases Nat.lt_or_ge b n with q | q
      · rw [show va_up g b true n = g n by unfold va_up; rw [if_neg (by omega)]]
        have := ih.2 q
        omega
      · have e : n = b := by omega
        subst e
        rw [ih.1 (Nat.le_refl _), hb, show va_up g n true n = true by unfold va_up; rw [if_pos rfl]]
        simp
theorem md_lt {v : Nat → Nat → Int32} {st : Int32} {g : Nat → Bool} {N c : Nat} {W9 : Int64} (hc : c ≤ N) (hu : ucn g N ≤ N - c) (h1 : 1 ≤ W9) (h : W9 < wys v st g N) : c < N := by
  rcases Nat.lt_or_ge c N with q | q
  · exact q
  · have e : ucn g N = 0 := by omega
    have := ucn_0 e
    rw [wys_1 (fun k hk => amb_o (this k hk))] at h
    exact absurd (Int64.lt_of_lt_of_le h h1) Int64.lt_irrefl
theorem md_ge1 {w1 : Int32} (h : isI w1 1 1000000 = true) : (1 : Int64) ≤ Int32.toInt64 w1 := by
  unfold isI at h
  simp only [Bool.and_eq_true, decide_eq_true_eq] at h
  have h1 := h.1
  rw [Int32.le_iff_toInt_le] at h1
  rw [Int64.le_iff_toInt_le, Int32.toInt_toInt64]
  exact h1
/-- the mean note -/
def mean (v : Nat → Nat → Int32) (st : Int32) (N : Nat) : UInt64 := if N = 0 then 0 else FP.ddiv (FP.i2d (sumI (fun k => nt (v 0) st (k + 1)) N)) (FP.i2d (nI N))
set_option maxRecDepth 100000 in
theorem ddiv_fin : ∀ a, a < 385 → ∀ b, b < 16 → FP.ddiv (FP.i2d (nI a)) (FP.i2d (nI (b + 1))) &&& 0x7fffffffffffffff ≤ 0x7ff0000000000000 := by decide +kernel
theorem sum_nat {N : Nat} {st : Int32} {v : Nat → Nat → Int32} (h : Ok N st v) : ∀ n : Nat, ∃ a : Nat, a ≤ 24 * n ∧ sumI (fun k => nt (v 0) st (k + 1)) n = nI a
  | 0 => ⟨0, Nat.le_refl _, rfl⟩
  | n + 1 => by
    obtain ⟨a, ha, ea⟩ := sum_nat h n
    obtain ⟨s, hs, es⟩ := h.2.1
    obtain ⟨b, hb, eb⟩ := nt_rng h hs (n + 1)
    rw [← es] at eb
    exact ⟨a + b, by omega, by rw [sumI, ea, eb, nI_add]⟩
theorem mean_fin {N : Nat} {st : Int32} {v : Nat → Nat → Int32} (h : Ok N st v) (h0 : 0 < N) : vf_n64 (FP.ddiv (FP.i2d (sumI (fun k => nt (v 0) st (k + 1)) N)) (FP.i2d (nI N))) := by
  obtain ⟨a, ha, ea⟩ := sum_nat h N
  obtain ⟨M, rfl⟩ : ∃ M, N = M + 1 := ⟨N - 1, by omega⟩
  have hN := h.1
  rw [ea]
  exact ddiv_fin a (by omega) M (by omega)
theorem mean_1 {N : Nat} {st : Int32} {v : Nat → Nat → Int32} (h0 : 0 < N) : FP.ddiv (FP.i2d (sumI (fun k => nt (v 0) st (k + 1)) N)) (FP.i2d (nI N)) = mean v st N := by unfold mean; rw [if_neg (by omega)]
theorem mean_0 {N : Nat} {st : Int32} {v : Nat → Nat → Int32} (h0 : N = 0) : 0 = mean v st N := by unfold mean; rw [if_pos h0]

theorem jyL_build : SM yL_build cL_build 5 (some (.object "MapSongsLaw$Sim")) 2 := ⟨⟨ks_yL_build, kn_RL, kd_yL_build⟩, by decide +kernel⟩
theorem jyL_cell : SM yL_cell cL_cell 2 (some .int) 2 := ⟨⟨ks_yL_cell, kn_RL, kd_yL_cell⟩, by decide +kernel⟩
theorem jyL_below : SM yL_below cL_below 2 (some .int) 2 := ⟨⟨ks_yL_below, kn_RL, kd_yL_below⟩, by decide +kernel⟩
theorem jyX1_with : SM yX1_with cX1_with 4 (some (.array (.array .int))) 2 := ⟨⟨ks_yX1_with, kn_RX1, kd_yX1_with⟩, by decide +kernel⟩
theorem jyX1_sing : IM RX1 yX1_sing cX1_sing 4 none 1 := ⟨⟨ki_yX1_sing, kz_yX1_sing, kn_RX1, kd_yX1_sing⟩, by decide +kernel⟩
theorem jyX1_ahead : IM RX1 yX1_ahead cX1_ahead 2 (some .int) 1 := ⟨⟨ki_yX1_ahead, kz_yX1_ahead, kn_RX1, kd_yX1_ahead⟩, by decide +kernel⟩
theorem jyX1_sung : SM yX1_sung cX1_sung 2 (some .int) 2 := ⟨⟨ks_yX1_sung, kn_RX1, kd_yX1_sung⟩, by decide +kernel⟩
theorem jyX0_addLeg : IM RX0 yX0_addLeg cX0_addLeg 5 (some .int) 3 := ⟨⟨ki_yX0_addLeg, kz_yX0_addLeg, kn_RX0, kd_yX0_addLeg⟩, by decide +kernel⟩
theorem jyX0_checkTurn : SM yX0_checkTurn cX0_checkTurn 1 none 1 := ⟨⟨ks_yX0_checkTurn, kn_RX0, kd_yX0_checkTurn⟩, by decide +kernel⟩
theorem jyX0_isLandmark : SM yX0_isLandmark cX0_isLandmark 1 (some .boolean) 1 := ⟨⟨ks_yX0_isLandmark, kn_RX0, kd_yX0_isLandmark⟩, by decide +kernel⟩
theorem jyX0_follow : IM RX0 yX0_follow cX0_follow 4 none 1 := ⟨⟨ki_yX0_follow, kz_yX0_follow, kn_RX0, kd_yX0_follow⟩, by decide +kernel⟩
theorem jyX0_headingAhead : IM RX0 yX0_headingAhead cX0_headingAhead 2 (some .int) 1 := ⟨⟨ki_yX0_headingAhead, kz_yX0_headingAhead, kn_RX0, kd_yX0_headingAhead⟩, by decide +kernel⟩
theorem jyJ9_floorMod_7cf53 : SM yJ9_floorMod_7cf53 cJ9_floorMod_7cf53 3 (some .int) 2 := ⟨⟨ks_yJ9_floorMod_7cf53, kn_RJ9, kd_yJ9_floorMod_7cf53⟩, by decide +kernel⟩
theorem jyX0_xAhead : IM RX0 yX0_xAhead cX0_xAhead 2 (some .int) 1 := ⟨⟨ki_yX0_xAhead, kz_yX0_xAhead, kn_RX0, kd_yX0_xAhead⟩, by decide +kernel⟩
theorem jyX0_yAhead : IM RX0 yX0_yAhead cX0_yAhead 2 (some .int) 1 := ⟨⟨ki_yX0_yAhead, kz_yX0_yAhead, kn_RX0, kd_yX0_yAhead⟩, by decide +kernel⟩
theorem jyX0_noteAhead : IM RX0 yX0_noteAhead cX0_noteAhead 2 (some .int) 1 := ⟨⟨ki_yX0_noteAhead, kz_yX0_noteAhead, kn_RX0, kd_yX0_noteAhead⟩, by decide +kernel⟩
theorem jyX0_noteBehind : SM yX0_noteBehind cX0_noteBehind 3 (some .int) 2 := ⟨⟨ks_yX0_noteBehind, kn_RX0, kd_yX0_noteBehind⟩, by decide +kernel⟩
theorem jyX0_leavesVoice : SM yX0_leavesVoice cX0_leavesVoice 1 (some .boolean) 1 := ⟨⟨ks_yX0_leavesVoice, kn_RX0, kd_yX0_leavesVoice⟩, by decide +kernel⟩
theorem jyX1_less : SM yX1_less cX1_less 3 (some (.array (.array .int))) 1 := ⟨⟨ks_yX1_less, kn_RX1, kd_yX1_less⟩, by decide +kernel⟩
theorem jyX0_strikeLeg : IM RX0 yX0_strikeLeg cX0_strikeLeg 1 (some .int) 0 := ⟨⟨ki_yX0_strikeLeg, kz_yX0_strikeLeg, kn_RX0, kd_yX0_strikeLeg⟩, by decide +kernel⟩
theorem jyX0_bend : IM RX0 yX0_bend cX0_bend 4 (some .int) 2 := ⟨⟨ki_yX0_bend, kz_yX0_bend, kn_RX0, kd_yX0_bend⟩, by decide +kernel⟩
theorem jyX0_checkLeg : IM RX0 yX0_checkLeg cX0_checkLeg 2 none 1 := ⟨⟨ki_yX0_checkLeg, kz_yX0_checkLeg, kn_RX0, kd_yX0_checkLeg⟩, by decide +kernel⟩
theorem jyX0_dropMarks : IM RX0 yX0_dropMarks cX0_dropMarks 2 none 0 := ⟨⟨ki_yX0_dropMarks, kz_yX0_dropMarks, kn_RX0, kd_yX0_dropMarks⟩, by decide +kernel⟩
theorem jyX0_setWord : IM RX0 yX0_setWord cX0_setWord 4 (some .int) 2 := ⟨⟨ki_yX0_setWord, kz_yX0_setWord, kn_RX0, kd_yX0_setWord⟩, by decide +kernel⟩
theorem jyX0_checkLandmark : SM yX0_checkLandmark cX0_checkLandmark 1 none 1 := ⟨⟨ks_yX0_checkLandmark, kn_RX0, kd_yX0_checkLandmark⟩, by decide +kernel⟩
theorem jyX0_isWord : SM yX0_isWord cX0_isWord 1 (some .boolean) 1 := ⟨⟨ks_yX0_isWord, kn_RX0, kd_yX0_isWord⟩, by decide +kernel⟩
theorem jyX0_setStep : IM RX0 yX0_setStep cX0_setStep 3 (some .int) 1 := ⟨⟨ki_yX0_setStep, kz_yX0_setStep, kn_RX0, kd_yX0_setStep⟩, by decide +kernel⟩
theorem jyX1_isOpen : IM RX1 yX1_isOpen cX1_isOpen 2 (some .boolean) 1 := ⟨⟨ki_yX1_isOpen, kz_yX1_isOpen, kn_RX1, kd_yX1_isOpen⟩, by decide +kernel⟩
theorem jyX1_readings : IM RX1 yX1_readings cX1_readings 6 (some (.array .int)) 1 := ⟨⟨ki_yX1_readings, kz_yX1_readings, kn_RX1, kd_yX1_readings⟩, by decide +kernel⟩
theorem jyX0_mend : IM RX0 yX0_mend cX0_mend 2 (some .int) 1 := ⟨⟨ki_yX0_mend, kz_yX0_mend, kn_RX0, kd_yX0_mend⟩, by decide +kernel⟩
theorem jyX0_isAmbiguous : IM RX0 yX0_isAmbiguous cX0_isAmbiguous 2 (some .boolean) 1 := ⟨⟨ki_yX0_isAmbiguous, kz_yX0_isAmbiguous, kn_RX0, kd_yX0_isAmbiguous⟩, by decide +kernel⟩
theorem jyX0_readings : IM RX0 yX0_readings cX0_readings 3 (some .int) 1 := ⟨⟨ki_yX0_readings, kz_yX0_readings, kn_RX0, kd_yX0_readings⟩, by decide +kernel⟩
theorem jyX0_turnsSungAs : SM yX0_turnsSungAs cX0_turnsSungAs 6 (some .int) 4 := ⟨⟨ks_yX0_turnsSungAs, kn_RX0, kd_yX0_turnsSungAs⟩, by decide +kernel⟩
theorem jyX0_landmarksNamed : IM RX0 yX0_landmarksNamed cX0_landmarksNamed 5 (some .int) 2 := ⟨⟨ki_yX0_landmarksNamed, kz_yX0_landmarksNamed, kn_RX0, kd_yX0_landmarksNamed⟩, by decide +kernel⟩
theorem jyX0_rightReading : IM RX0 yX0_rightReading cX0_rightReading 4 (some .int) 1 := ⟨⟨ki_yX0_rightReading, kz_yX0_rightReading, kn_RX0, kd_yX0_rightReading⟩, by decide +kernel⟩
theorem jyX0_digest : IM RX0 yX0_digest cX0_digest 4 (some .long) 0 := ⟨⟨ki_yX0_digest, kz_yX0_digest, kn_RX0, kd_yX0_digest⟩, by decide +kernel⟩
theorem jyX0_legs : IM RX0 yX0_legs cX0_legs 1 (some .int) 0 := ⟨⟨ki_yX0_legs, kz_yX0_legs, kn_RX0, kd_yX0_legs⟩, by decide +kernel⟩
theorem jyX0_digested : SM yX0_digested cX0_digested 4 (some .long) 2 := ⟨⟨ks_yX0_digested, kn_RX0, kd_yX0_digested⟩, by decide +kernel⟩
theorem jyX0_step : IM RX0 yX0_step cX0_step 1 (some .int) 0 := ⟨⟨ki_yX0_step, kz_yX0_step, kn_RX0, kd_yX0_step⟩, by decide +kernel⟩
theorem jyX0_endX : IM RX0 yX0_endX cX0_endX 1 (some .int) 0 := ⟨⟨ki_yX0_endX, kz_yX0_endX, kn_RX0, kd_yX0_endX⟩, by decide +kernel⟩
theorem jyX0_endY : IM RX0 yX0_endY cX0_endY 1 (some .int) 0 := ⟨⟨ki_yX0_endY, kz_yX0_endY, kn_RX0, kd_yX0_endY⟩, by decide +kernel⟩
theorem jyX0_stepsHome : IM RX0 yX0_stepsHome cX0_stepsHome 1 (some .int) 0 := ⟨⟨ki_yX0_stepsHome, kz_yX0_stepsHome, kn_RX0, kd_yX0_stepsHome⟩, by decide +kernel⟩
theorem jyX0_returns : IM RX0 yX0_returns cX0_returns 3 (some .int) 0 := ⟨⟨ki_yX0_returns, kz_yX0_returns, kn_RX0, kd_yX0_returns⟩, by decide +kernel⟩
theorem jyX0_endsWhereItWas : IM RX0 yX0_endsWhereItWas cX0_endsWhereItWas 3 (some .boolean) 1 := ⟨⟨ki_yX0_endsWhereItWas, kz_yX0_endsWhereItWas, kn_RX0, kd_yX0_endsWhereItWas⟩, by decide +kernel⟩
theorem jyX0_beats : IM RX0 yX0_beats cX0_beats 3 (some .int) 0 := ⟨⟨ki_yX0_beats, kz_yX0_beats, kn_RX0, kd_yX0_beats⟩, by decide +kernel⟩
theorem jyX0_folded : IM RX0 yX0_folded cX0_folded 3 (some .int) 0 := ⟨⟨ki_yX0_folded, kz_yX0_folded, kn_RX0, kd_yX0_folded⟩, by decide +kernel⟩
theorem jyX0_isFolded : IM RX0 yX0_isFolded cX0_isFolded 2 (some .boolean) 1 := ⟨⟨ki_yX0_isFolded, kz_yX0_isFolded, kn_RX0, kd_yX0_isFolded⟩, by decide +kernel⟩
theorem jyX0_range : IM RX0 yX0_range cX0_range 4 (some .int) 0 := ⟨⟨ki_yX0_range, kz_yX0_range, kn_RX0, kd_yX0_range⟩, by decide +kernel⟩
theorem jyX0_ambiguous : IM RX0 yX0_ambiguous cX0_ambiguous 3 (some .int) 0 := ⟨⟨ki_yX0_ambiguous, kz_yX0_ambiguous, kn_RX0, kd_yX0_ambiguous⟩, by decide +kernel⟩
theorem jyX0_ways : IM RX0 yX0_ways cX0_ways 4 (some .long) 0 := ⟨⟨ki_yX0_ways, kz_yX0_ways, kn_RX0, kd_yX0_ways⟩, by decide +kernel⟩
theorem jyX0_bestStep : IM RX0 yX0_bestStep cX0_bestStep 5 (some .int) 0 := ⟨⟨ki_yX0_bestStep, kz_yX0_bestStep, kn_RX0, kd_yX0_bestStep⟩, by decide +kernel⟩
theorem jyX0_unmendedWith : IM RX0 yX0_unmendedWith cX0_unmendedWith 9 (some .int) 3 := ⟨⟨ki_yX0_unmendedWith, kz_yX0_unmendedWith, kn_RX0, kd_yX0_unmendedWith⟩, by decide +kernel⟩
theorem jyX0_sharesWordIf : IM RX0 yX0_sharesWordIf cX0_sharesWordIf 6 (some .boolean) 3 := ⟨⟨ki_yX0_sharesWordIf, kz_yX0_sharesWordIf, kn_RX0, kd_yX0_sharesWordIf⟩, by decide +kernel⟩
theorem jyX0_wordIf : IM RX0 yX0_wordIf cX0_wordIf 4 (some .int) 3 := ⟨⟨ki_yX0_wordIf, kz_yX0_wordIf, kn_RX0, kd_yX0_wordIf⟩, by decide +kernel⟩
theorem jyX0_digestOfLeg : IM RX0 yX0_digestOfLeg cX0_digestOfLeg 6 (some .long) 2 := ⟨⟨ki_yX0_digestOfLeg, kz_yX0_digestOfLeg, kn_RX0, kd_yX0_digestOfLeg⟩, by decide +kernel⟩
theorem jyX0_turnOf : IM RX0 yX0_turnOf cX0_turnOf 2 (some .int) 1 := ⟨⟨ki_yX0_turnOf, kz_yX0_turnOf, kn_RX0, kd_yX0_turnOf⟩, by decide +kernel⟩
theorem jyX0_headingOf : IM RX0 yX0_headingOf cX0_headingOf 2 (some .int) 1 := ⟨⟨ki_yX0_headingOf, kz_yX0_headingOf, kn_RX0, kd_yX0_headingOf⟩, by decide +kernel⟩
theorem jyX0_landmarkOf : IM RX0 yX0_landmarkOf cX0_landmarkOf 2 (some .int) 1 := ⟨⟨ki_yX0_landmarkOf, kz_yX0_landmarkOf, kn_RX0, kd_yX0_landmarkOf⟩, by decide +kernel⟩
theorem jyX0_noteOf : IM RX0 yX0_noteOf cX0_noteOf 2 (some .int) 1 := ⟨⟨ki_yX0_noteOf, kz_yX0_noteOf, kn_RX0, kd_yX0_noteOf⟩, by decide +kernel⟩
theorem jyX0_wordIn : IM RX0 yX0_wordIn cX0_wordIn 2 (some .int) 1 := ⟨⟨ki_yX0_wordIn, kz_yX0_wordIn, kn_RX0, kd_yX0_wordIn⟩, by decide +kernel⟩
theorem jyX0_isMended : IM RX0 yX0_isMended cX0_isMended 2 (some .boolean) 1 := ⟨⟨ki_yX0_isMended, kz_yX0_isMended, kn_RX0, kd_yX0_isMended⟩, by decide +kernel⟩
theorem jyX0_wordOf : IM RX0 yX0_wordOf cX0_wordOf 2 (some .int) 1 := ⟨⟨ki_yX0_wordOf, kz_yX0_wordOf, kn_RX0, kd_yX0_wordOf⟩, by decide +kernel⟩
theorem jyX0_bestWord : IM RX0 yX0_bestWord cX0_bestWord 6 (some .int) 1 := ⟨⟨ki_yX0_bestWord, kz_yX0_bestWord, kn_RX0, kd_yX0_bestWord⟩, by decide +kernel⟩
theorem jyX0_sungWith : IM RX0 yX0_sungWith cX0_sungWith 4 (some .int) 1 := ⟨⟨ki_yX0_sungWith, kz_yX0_sungWith, kn_RX0, kd_yX0_sungWith⟩, by decide +kernel⟩
theorem jyX0_checkWord : SM yX0_checkWord cX0_checkWord 1 none 1 := ⟨⟨ks_yX0_checkWord, kn_RX0, kd_yX0_checkWord⟩, by decide +kernel⟩
theorem jyX0_firstAmbiguous : IM RX0 yX0_firstAmbiguous cX0_firstAmbiguous 2 (some .int) 0 := ⟨⟨ki_yX0_firstAmbiguous, kz_yX0_firstAmbiguous, kn_RX0, kd_yX0_firstAmbiguous⟩, by decide +kernel⟩
theorem jyX0_ambiguousWith : IM RX0 yX0_ambiguousWith cX0_ambiguousWith 3 (some .int) 2 := ⟨⟨ki_yX0_ambiguousWith, kz_yX0_ambiguousWith, kn_RX0, kd_yX0_ambiguousWith⟩, by decide +kernel⟩
theorem jyX1_openBy : IM RX1 yX1_openBy cX1_openBy 3 (some .int) 1 := ⟨⟨ki_yX1_openBy, kz_yX1_openBy, kn_RX1, kd_yX1_openBy⟩, by decide +kernel⟩
theorem jyX1_copy : IM RX1 yX1_copy cX1_copy 6 (some (.object "MapSongsLaw$Sim")) 0 := ⟨⟨ki_yX1_copy, kz_yX1_copy, kn_RX1, kd_yX1_copy⟩, by decide +kernel⟩
theorem jyX1_open : IM RX1 yX1_open cX1_open 3 (some .int) 0 := ⟨⟨ki_yX1_open, kz_yX1_open, kn_RX1, kd_yX1_open⟩, by decide +kernel⟩
theorem jyX0_mendTo : IM RX0 yX0_mendTo cX0_mendTo 4 (some .int) 1 := ⟨⟨ki_yX0_mendTo, kz_yX0_mendTo, kn_RX0, kd_yX0_mendTo⟩, by decide +kernel⟩
theorem jyX0_mostAmbiguous : IM RX0 yX0_mostAmbiguous cX0_mostAmbiguous 5 (some .int) 0 := ⟨⟨ki_yX0_mostAmbiguous, kz_yX0_mostAmbiguous, kn_RX0, kd_yX0_mostAmbiguous⟩, by decide +kernel⟩
theorem jyX1_isSame : IM RX1 yX1_isSame cX1_isSame 19 (some .boolean) 1 := ⟨⟨ki_yX1_isSame, kz_yX1_isSame, kn_RX1, kd_yX1_isSame⟩, by decide +kernel⟩
theorem jyX1_ways : IM RX1 yX1_ways cX1_ways 4 (some .long) 0 := ⟨⟨ki_yX1_ways, kz_yX1_ways, kn_RX1, kd_yX1_ways⟩, by decide +kernel⟩
theorem jyX0_meanNote : IM RX0 yX0_meanNote cX0_meanNote 3 (some .double) 0 := ⟨⟨ki_yX0_meanNote, kz_yX0_meanNote, kn_RX0, kd_yX0_meanNote⟩, by decide +kernel⟩
end
section
section P10
variable {l : Launch} {D : va_G} {cyI cyZ : ClassId} {q : Nat → Nat} {N K : Nat} {n st th md : Int32} {v w : Nat → Nat → Int32} {mk : Nat → Bool}
set_option maxHeartbeats 4000000 in
set_option maxRecDepth 100000 in
theorem mX0_leavesVoice (a : Int32) : Met l yX0_leavesVoice (wm yX0_leavesVoice cX0_leavesVoice 1 (some .boolean)) ({ frames := 0, cells := 0, slots := 0, locals := 0 } : Room) (va_Pc [.int a] (fun U => (fun _ _ => True : State → Heap → Prop) U U.heap)) (vp_Si (fun r => r = b2i (lv9 a))) 0 0 (fun _ => False) := by
  refine mt (by decide) (Nat.le_of_ble_eq_true rfl) ?_
  intro p ev s m below meth c ls hF hr hlocks hnm hX hl
  have hF : CallFix p m c cX0_leavesVoice 1 s _ wA RX0 := hF
  obtain ⟨hx, hb, hml, hown, hts⟩ := id hF
  have hl : lv_has ls 1 [(0, .int a)] := hl
  refine lv_iload_n hx hb dX0_leavesVoice_0 rfl (lv_at hl 0 rfl) ?_
  refine lv_if_lt (tgt := 10) hx hb dX0_leavesVoice_1 (by decide) (fun c1 => ?_) (fun c1 => ?_)
  · refine lv_iconst (v := 1) hx hb dX0_leavesVoice_10 (by decide) ?_
    refine lv_goto (tgt := 15) hx hb dX0_leavesVoice_11 (by decide) ?_
    exact W.zret hx hb hr rfl (fun t ht hW => ⟨_, rfl, b2i_1 (by simp [lv9, c1]), ht⟩) (fun q hq => absurd hq List.not_mem_nil) dX0_leavesVoice_15
  · refine lv_iload_n hx hb dX0_leavesVoice_4 rfl (lv_at hl 0 rfl) ?_
    refine lv_bipush (v := 24) hx hb dX0_leavesVoice_5 (by decide) ?_
    refine lv_icmp_le (tgt := 14) hx hb dX0_leavesVoice_7 (by decide) (fun c7 => ?_) (fun c7 => ?_)
    · refine lv_iconst (v := 0) hx hb dX0_leavesVoice_14 (by decide) ?_
      exact W.zret hx hb hr rfl (fun t ht hW => ⟨_, rfl, b2i_0 (by simp [lv9, c1, Int32.not_lt.mpr c7]), ht⟩) (fun q hq => absurd hq List.not_mem_nil) dX0_leavesVoice_15
    · refine lv_iconst (v := 1) hx hb dX0_leavesVoice_10 (by decide) ?_
      refine lv_goto (tgt := 15) hx hb dX0_leavesVoice_11 (by decide) ?_
      exact W.zret hx hb hr rfl (fun t ht hW => ⟨_, rfl, b2i_1 (by simp [lv9, Int32.not_le.mp c7]), ht⟩) (fun q hq => absurd hq List.not_mem_nil) dX0_leavesVoice_15
set_option maxHeartbeats 4000000 in
set_option maxRecDepth 100000 in
theorem mX0_noteBehind (a i : Int32) : Met l yX0_noteBehind (wm yX0_noteBehind cX0_noteBehind 3 (some .int)) ({ frames := 1, cells := 0, slots := 0, locals := 20 } : Room) (va_Pc [.int a, .int i] (fun U => (fun _ _ => True : State → Heap → Prop) U U.heap)) (vp_Si (fun r => r = nb a i)) 0 0 (fun _ => False) := by
  refine mt (by decide) (Nat.le_of_ble_eq_true rfl) ?_
  intro p ev s m below meth c ls hF hr hlocks hnm hX hl
  have hF : CallFix p m c cX0_noteBehind 3 s _ wA RX0 := hF
  obtain ⟨hx, hb, hml, hown, hts⟩ := id hF
  have hl : lv_has ls 3 [(0, .int a), (1, .int i)] := hl
  refine lv_iload_n hx hb dX0_noteBehind_0 rfl (lv_at hl 0 rfl) ?_
  refine lv_iload_n hx hb dX0_noteBehind_1 rfl (lv_at hl 1 rfl) ?_
  refine lv_iadd hx hb dX0_noteBehind_2 ?_
  refine lv_istore_n (lv' := [(2, .int (a + i)), (0, .int a), (1, .int i)]) hx hb dX0_noteBehind_3 rfl hl (by decide) rfl (fun ls hl => ?_)
  refine lv_iload_n hx hb dX0_noteBehind_4 rfl (lv_at hl 0 rfl) ?_
  refine cSi (As := [.int (a + i)]) (rest := []) hF (mX0_leavesVoice (a + i)) Mv.const trivial jyX0_leavesVoice kl_RX0_117 ⟨rfl, rfl⟩ ⟨Nat.le_of_ble_eq_true rfl, Nat.le_of_ble_eq_true rfl⟩ rfl hl.1 rfl (Nat.le_of_ble_eq_true rfl) ⟨Nat.zero_le _, Nat.zero_le _⟩ dX0_noteBehind_5 (fun r hr9 => ?_)
  subst hr9
  refine lv_if_eq (tgt := 17) hx hb dX0_noteBehind_8 (by decide) (fun c8 => ?_) (fun c8 => ?_)
  · have c8b := b2i_f c8
    refine lv_iload_n hx hb dX0_noteBehind_17 rfl (lv_at hl 0 rfl) ?_
    exact W.iret hx hb hr (fun t ht hW => ⟨_, rfl, nb_f c8b, ht⟩) (fun q hq => absurd hq List.not_mem_nil) dX0_noteBehind_18
  · have c8b := b2i_t c8
    refine lv_iload_n hx hb dX0_noteBehind_11 rfl (lv_at hl 1 rfl) ?_
    refine lv_iload_n hx hb dX0_noteBehind_12 rfl (lv_at hl 2 rfl) ?_
    refine lv_isub hx hb dX0_noteBehind_13 ?_
    refine lv_goto (tgt := 18) hx hb dX0_noteBehind_14 (by decide) ?_
    exact W.iret hx hb hr (fun t ht hW => ⟨_, rfl, nb_t c8b, ht⟩) (fun q hq => absurd hq List.not_mem_nil) dX0_noteBehind_18
set_option maxHeartbeats 4000000 in
set_option maxRecDepth 100000 in
theorem mX0_isLandmark (a : Int32) : Met l yX0_isLandmark (wm yX0_isLandmark cX0_isLandmark 1 (some .boolean)) ({ frames := 0, cells := 0, slots := 0, locals := 0 } : Room) (va_Pc [.int a] (fun U => (fun _ _ => True : State → Heap → Prop) U U.heap)) (vp_Si (fun r => r = b2i (in10 a))) 0 0 (fun _ => False) := by
  refine mt (by decide) (Nat.le_of_ble_eq_true rfl) ?_
  intro p ev s m below meth c ls hF hr hlocks hnm hX hl
  have hF : CallFix p m c cX0_isLandmark 1 s _ wA RX0 := hF
  obtain ⟨hx, hb, hml, hown, hts⟩ := id hF
  have hl : lv_has ls 1 [(0, .int a)] := hl
  refine lv_iload_n hx hb dX0_isLandmark_0 rfl (lv_at hl 0 rfl) ?_
  refine lv_if_lt (tgt := 14) hx hb dX0_isLandmark_1 (by decide) (fun c1 => ?_) (fun c1 => ?_)
  · refine lv_iconst (v := 0) hx hb dX0_isLandmark_14 (by decide) ?_
    exact W.zret hx hb hr rfl (fun t ht hW => ⟨_, rfl, b2i_0 (by simp [in10, Int32.not_le.mpr c1]), ht⟩) (fun q hq => absurd hq List.not_mem_nil) dX0_isLandmark_15
  · refine lv_iload_n hx hb dX0_isLandmark_4 rfl (lv_at hl 0 rfl) ?_
    refine lv_bipush (v := 10) hx hb dX0_isLandmark_5 (by decide) ?_
    refine lv_icmp_ge (tgt := 14) hx hb dX0_isLandmark_7 (by decide) (fun c7 => ?_) (fun c7 => ?_)
    · refine lv_iconst (v := 0) hx hb dX0_isLandmark_14 (by decide) ?_
      exact W.zret hx hb hr rfl (fun t ht hW => ⟨_, rfl, b2i_0 (by simp [in10, Int32.not_lt.mpr c7]), ht⟩) (fun q hq => absurd hq List.not_mem_nil) dX0_isLandmark_15
    · refine lv_iconst (v := 1) hx hb dX0_isLandmark_10 (by decide) ?_
      refine lv_goto (tgt := 15) hx hb dX0_isLandmark_11 (by decide) ?_
      exact W.zret hx hb hr rfl (fun t ht hW => ⟨_, rfl, b2i_1 (by simp [in10, Int32.not_lt.mp c1, Int32.not_le.mp c7]), ht⟩) (fun q hq => absurd hq List.not_mem_nil) dX0_isLandmark_15
set_option maxHeartbeats 4000000 in
set_option maxRecDepth 100000 in
theorem mX0_isWord (a : Int32) : Met l yX0_isWord (wm yX0_isWord cX0_isWord 1 (some .boolean)) ({ frames := 0, cells := 0, slots := 0, locals := 0 } : Room) (va_Pc [.int a] (fun U => (fun _ _ => True : State → Heap → Prop) U U.heap)) (vp_Si (fun r => r = b2i (in10 a))) 0 0 (fun _ => False) := by
  refine mt (by decide) (Nat.le_of_ble_eq_true rfl) ?_
  intro p ev s m below meth c ls hF hr hlocks hnm hX hl
  have hF : CallFix p m c cX0_isWord 1 s _ wA RX0 := hF
  obtain ⟨hx, hb, hml, hown, hts⟩ := id hF
  have hl : lv_has ls 1 [(0, .int a)] := hl
  refine lv_iload_n hx hb dX0_isWord_0 rfl (lv_at hl 0 rfl) ?_
  refine lv_if_lt (tgt := 14) hx hb dX0_isWord_1 (by decide) (fun c1 => ?_) (fun c1 => ?_)
  · refine lv_iconst (v := 0) hx hb dX0_isWord_14 (by decide) ?_
    exact W.zret hx hb hr rfl (fun t ht hW => ⟨_, rfl, b2i_0 (by simp [in10, Int32.not_le.mpr c1]), ht⟩) (fun q hq => absurd hq List.not_mem_nil) dX0_isWord_15
  · refine lv_iload_n hx hb dX0_isWord_4 rfl (lv_at hl 0 rfl) ?_
    refine lv_bipush (v := 10) hx hb dX0_isWord_5 (by decide) ?_
    refine lv_icmp_ge (tgt := 14) hx hb dX0_isWord_7 (by decide) (fun c7 => ?_) (fun c7 => ?_)
    · refine lv_iconst (v := 0) hx hb dX0_isWord_14 (by decide) ?_
      exact W.zret hx hb hr rfl (fun t ht hW => ⟨_, rfl, b2i_0 (by simp [in10, Int32.not_lt.mpr c7]), ht⟩) (fun q hq => absurd hq List.not_mem_nil) dX0_isWord_15
    · refine lv_iconst (v := 1) hx hb dX0_isWord_10 (by decide) ?_
      refine lv_goto (tgt := 15) hx hb dX0_isWord_11 (by decide) ?_
      exact W.zret hx hb hr rfl (fun t ht hW => ⟨_, rfl, b2i_1 (by simp [in10, Int32.not_lt.mp c1, Int32.not_le.mp c7]), ht⟩) (fun q hq => absurd hq List.not_mem_nil) dX0_isWord_15
set_option maxHeartbeats 4000000 in
set_option maxRecDepth 100000 in
theorem mX0_checkTurn (e : Nat) (he : e < 7) : Met l yX0_checkTurn (wm yX0_checkTurn cX0_checkTurn 1 none) ({ frames := 0, cells := 0, slots := 0, locals := 0 } : Room) (va_Pc [.int (nI e - 3)] (fun U => (fun _ _ => True : State → Heap → Prop) U U.heap)) (va_Sv (fun _ => True)) 0 0 (fun _ => False) := by
  refine mt (by decide) (Nat.le_of_ble_eq_true rfl) ?_
  intro p ev s m below meth c ls hF hr hlocks hnm hX hl
  have hF : CallFix p m c cX0_checkTurn 1 s _ wA RX0 := hF
  obtain ⟨hx, hb, hml, hown, hts⟩ := id hF
  have hl : lv_has ls 1 [(0, .int (nI e - 3))] := hl
  refine lv_iload_n hx hb dX0_checkTurn_0 rfl (lv_at hl 0 rfl) ?_
  refine lv_bipush (v := (-3)) hx hb dX0_checkTurn_1 (by decide) ?_
  refine lv_icmp_lt (tgt := 11) hx hb dX0_checkTurn_3 (by decide) (fun c3 => ?_) (fun c3 => ?_)
  · exact absurd c3 (tn_lo he)
  · refine lv_iload_n hx hb dX0_checkTurn_6 rfl (lv_at hl 0 rfl) ?_
    refine lv_iconst (v := 3) hx hb dX0_checkTurn_7 (by decide) ?_
    refine lv_icmp_le (tgt := 21) hx hb dX0_checkTurn_8 (by decide) (fun c8 => ?_) (fun c8 => ?_)
    · exact W.vret hx hb hr (fun t ht hW => ⟨rfl, trivial, ht⟩) (fun q hq => absurd hq List.not_mem_nil) dX0_checkTurn_21
    · exact absurd (tn_hi he) c8
set_option maxHeartbeats 4000000 in
set_option maxRecDepth 100000 in
theorem mX0_checkLandmark (j : Nat) (hj : j < 10) : Met l yX0_checkLandmark (wm yX0_checkLandmark cX0_checkLandmark 1 none) ({ frames := 1, cells := 0, slots := 0, locals := 20 } : Room) (va_Pc [.int (nI j)] (fun U => (fun _ _ => True : State → Heap → Prop) U U.heap)) (va_Sv (fun _ => True)) 0 0 (fun _ => False) := by
  refine mt (by decide) (Nat.le_of_ble_eq_true rfl) ?_
  intro p ev s m below meth c ls hF hr hlocks hnm hX hl
  have hF : CallFix p m c cX0_checkLandmark 1 s _ wA RX0 := hF
  obtain ⟨hx, hb, hml, hown, hts⟩ := id hF
  have hl : lv_has ls 1 [(0, .int (nI j))] := hl
  refine lv_iload_n hx hb dX0_checkLandmark_0 rfl (lv_at hl 0 rfl) ?_
  refine cSi (As := [.int (nI j)]) (rest := []) hF (mX0_isLandmark (nI j)) Mv.const trivial jyX0_isLandmark kl_RX0_53 ⟨rfl, rfl⟩ ⟨Nat.le_of_ble_eq_true rfl, Nat.le_of_ble_eq_true rfl⟩ rfl hl.1 rfl (Nat.le_of_ble_eq_true rfl) ⟨Nat.zero_le _, Nat.zero_le _⟩ dX0_checkLandmark_1 (fun r hr9 => ?_)
  subst hr9
  refine lv_if_ne (tgt := 17) hx hb dX0_checkLandmark_4 (by decide) (fun c4 => ?_) (fun c4 => ?_)
  · have c4b := b2i_t c4
    exact W.vret hx hb hr (fun t ht hW => ⟨rfl, trivial, ht⟩) (fun q hq => absurd hq List.not_mem_nil) dX0_checkLandmark_17
  · have c4b := b2i_f c4
    exact absurd (in10_nI hj) (by rw [c4b]; decide)
set_option maxHeartbeats 4000000 in
set_option maxRecDepth 100000 in
theorem mX0_checkWord (j : Nat) (hj : j < 10) : Met l yX0_checkWord (wm yX0_checkWord cX0_checkWord 1 none) ({ frames := 1, cells := 0, slots := 0, locals := 20 } : Room) (va_Pc [.int (nI j)] (fun U => (fun _ _ => True : State → Heap → Prop) U U.heap)) (va_Sv (fun _ => True)) 0 0 (fun _ => False) := by
  refine mt (by decide) (Nat.le_of_ble_eq_true rfl) ?_
  intro p ev s m below meth c ls hF hr hlocks hnm hX hl
  have hF : CallFix p m c cX0_checkWord 1 s _ wA RX0 := hF
  obtain ⟨hx, hb, hml, hown, hts⟩ := id hF
  have hl : lv_has ls 1 [(0, .int (nI j))] := hl
  refine lv_iload_n hx hb dX0_checkWord_0 rfl (lv_at hl 0 rfl) ?_
  refine cSi (As := [.int (nI j)]) (rest := []) hF (mX0_isWord (nI j)) Mv.const trivial jyX0_isWord kl_RX0_81 ⟨rfl, rfl⟩ ⟨Nat.le_of_ble_eq_true rfl, Nat.le_of_ble_eq_true rfl⟩ rfl hl.1 rfl (Nat.le_of_ble_eq_true rfl) ⟨Nat.zero_le _, Nat.zero_le _⟩ dX0_checkWord_1 (fun r hr9 => ?_)
  subst hr9
  refine lv_if_ne (tgt := 17) hx hb dX0_checkWord_4 (by decide) (fun c4 => ?_) (fun c4 => ?_)
  · have c4b := b2i_t c4
    exact W.vret hx hb hr (fun t ht hW => ⟨rfl, trivial, ht⟩) (fun q hq => absurd hq List.not_mem_nil) dX0_checkWord_17
  · have c4b := b2i_f c4
    exact absurd (in10_nI hj) (by rw [c4b]; decide)
set_option maxHeartbeats 4000000 in
set_option maxRecDepth 100000 in
theorem mX0_checkLeg (i : Nat) (hi : i < N) (hN : N ≤ 16) : Met l yX0_checkLeg (wm yX0_checkLeg cX0_checkLeg 2 none) ({ frames := 0, cells := 0, slots := 0, locals := 0 } : Room) (va_Pc [.ref (q 0), .int (nI i)] (fun U => C0 D cyI cyZ q (nI N) st v mk w U U.heap)) (va_Sv (fun _ => True)) 0 0 (fun _ => False) := by
  refine mt (by decide) (Nat.le_of_ble_eq_true rfl) ?_
  intro p ev s m below meth c ls hF hr hlocks hnm hX hl
  have hF : CallFix p m c cX0_checkLeg 2 s _ wA RX0 := hF
  obtain ⟨hx, hb, hml, hown, hts⟩ := id hF
  have hX : C0 D cyI cyZ q (nI N) st v mk w s s.heap := hX
  have hl : lv_has ls 2 [(0, .ref (q 0)), (1, .int (nI i))] := hl
  refine lv_iload_n hx hb dX0_checkLeg_0 rfl (lv_at hl 1 rfl) ?_
  refine lv_if_lt (tgt := 12) hx hb dX0_checkLeg_1 (by decide) (fun c1 => ?_) (fun c1 => ?_)
  · have c1n : i < 0 := (nI_ltI (a := i) (b := 0) (by omega) (by omega)).mp c1
    exact absurd c1n (by omega)
  · have c1n : ¬ i < 0 := fun h9 => c1 ((nI_ltI (a := i) (b := 0) (by omega) (by omega)).mpr h9)
    refine lv_iload_n hx hb dX0_checkLeg_4 rfl (lv_at hl 1 rfl) ?_
    refine lv_aload_n hx hb dX0_checkLeg_5 rfl (lv_at hl 0 rfl) ?_
    refine C0.get hF hX 5 (by decide) rfl rfl kf_RX0_59 dX0_checkLeg_6 ?_
    refine lv_icmp_lt (tgt := 22) hx hb dX0_checkLeg_9 (by decide) (fun c9 => ?_) (fun c9 => ?_)
    · have c9n : i < N := (nI_ltI (a := i) (b := N) (by omega) (by omega)).mp c9
      exact W.vret hx hb hr (fun t ht hW => ⟨rfl, trivial, ht⟩) (fun q hq => absurd hq List.not_mem_nil) dX0_checkLeg_22
    · have c9n : ¬ i < N := fun h9 => c9 ((nI_ltI (a := i) (b := N) (by omega) (by omega)).mpr h9)
      exact absurd hi c9n
set_option maxHeartbeats 4000000 in
set_option maxRecDepth 100000 in
theorem mX0_headingAhead (i : Nat) (hde : Der K st v w) (hi : i ≤ K) (hK : K ≤ 16) : Met l yX0_headingAhead (wm yX0_headingAhead cX0_headingAhead 2 (some .int)) ({ frames := 0, cells := 0, slots := 0, locals := 0 } : Room) (va_Pc [.ref (q 0), .int (nI i)] (fun U => C0 D cyI cyZ q n st v mk w U U.heap)) (vp_Si (fun r => r = hd (v 0) i)) 0 0 (fun _ => False) := by
  refine mt (by decide) (Nat.le_of_ble_eq_true rfl) ?_
  intro p ev s m below meth c ls hF hr hlocks hnm hX hl
  have hF : CallFix p m c cX0_headingAhead 2 s _ wA RX0 := hF
  obtain ⟨hx, hb, hml, hown, hts⟩ := id hF
  have hX : C0 D cyI cyZ q n st v mk w s s.heap := hX
  have hl : lv_has ls 2 [(0, .ref (q 0)), (1, .int (nI i))] := hl
  refine lv_iload_n hx hb dX0_headingAhead_0 rfl (lv_at hl 1 rfl) ?_
  refine lv_if_le (tgt := 15) hx hb dX0_headingAhead_1 (by decide) (fun c1 => ?_) (fun c1 => ?_)
  · have c1n : i ≤ 0 := (nI_leI (a := i) (b := 0) (by omega) (by omega)).mp c1
    obtain rfl : i = 0 := by omega
    refine lv_iconst (v := 0) hx hb dX0_headingAhead_15 (by decide) ?_
    exact W.iret hx hb hr (fun t ht hW => ⟨_, rfl, rfl, ht⟩) (fun q hq => absurd hq List.not_mem_nil) dX0_headingAhead_16
  · have c1n : ¬ i ≤ 0 := fun h9 => c1 ((nI_leI (a := i) (b := 0) (by omega) (by omega)).mpr h9)
    refine lv_aload_n hx hb dX0_headingAhead_4 rfl (lv_at hl 0 rfl) ?_
    refine C0.get hF hX 7 (by decide) rfl rfl kf_RX0_26 dX0_headingAhead_5 ?_
    refine lv_iload_n hx hb dX0_headingAhead_8 rfl (lv_at hl 1 rfl) ?_
    refine lv_iconst (v := 1) hx hb dX0_headingAhead_9 (by decide) ?_
    refine lv_isub hx hb dX0_headingAhead_10 ?_
    refine aldI hF hX.2.1 hX.1 6 0 rfl rfl (i - 1) (by omega) (by decide) (nI_dec (by omega)) dX0_headingAhead_11 ?_
    refine lv_goto (tgt := 16) hx hb dX0_headingAhead_12 (by decide) ?_
    exact W.iret hx hb hr (fun t ht hW => ⟨_, rfl, (der_pred hde (by omega) hi).1, ht⟩) (fun q hq => absurd hq List.not_mem_nil) dX0_headingAhead_16
set_option maxHeartbeats 4000000 in
set_option maxRecDepth 100000 in
theorem mX0_xAhead (i : Nat) (hde : Der K st v w) (hi : i ≤ K) (hK : K ≤ 16) : Met l yX0_xAhead (wm yX0_xAhead cX0_xAhead 2 (some .int)) ({ frames := 0, cells := 0, slots := 0, locals := 0 } : Room) (va_Pc [.ref (q 0), .int (nI i)] (fun U => C0 D cyI cyZ q n st v mk w U U.heap)) (vp_Si (fun r => r = px (v 0) (v 1) i)) 0 0 (fun _ => False) := by
  refine mt (by decide) (Nat.le_of_ble_eq_true rfl) ?_
  intro p ev s m below meth c ls hF hr hlocks hnm hX hl
  have hF : CallFix p m c cX0_xAhead 2 s _ wA RX0 := hF
  obtain ⟨hx, hb, hml, hown, hts⟩ := id hF
  have hX : C0 D cyI cyZ q n st v mk w s s.heap := hX
  have hl : lv_has ls 2 [(0, .ref (q 0)), (1, .int (nI i))] := hl
  refine lv_iload_n hx hb dX0_xAhead_0 rfl (lv_at hl 1 rfl) ?_
  refine lv_if_le (tgt := 15) hx hb dX0_xAhead_1 (by decide) (fun c1 => ?_) (fun c1 => ?_)
  · have c1n : i ≤ 0 := (nI_leI (a := i) (b := 0) (by omega) (by omega)).mp c1
    obtain rfl : i = 0 := by omega
    refine lv_iconst (v := 0) hx hb dX0_xAhead_15 (by decide) ?_
    exact W.iret hx hb hr (fun t ht hW => ⟨_, rfl, rfl, ht⟩) (fun q hq => absurd hq List.not_mem_nil) dX0_xAhead_16
  · have c1n : ¬ i ≤ 0 := fun h9 => c1 ((nI_leI (a := i) (b := 0) (by omega) (by omega)).mpr h9)
    refine lv_aload_n hx hb dX0_xAhead_4 rfl (lv_at hl 0 rfl) ?_
    refine C0.get hF hX 8 (by decide) rfl rfl kf_RX0_29 dX0_xAhead_5 ?_
    refine lv_iload_n hx hb dX0_xAhead_8 rfl (lv_at hl 1 rfl) ?_
    refine lv_iconst (v := 1) hx hb dX0_xAhead_9 (by decide) ?_
    refine lv_isub hx hb dX0_xAhead_10 ?_
    refine aldI hF hX.2.1 hX.1 7 0 rfl rfl (i - 1) (by omega) (by decide) (nI_dec (by omega)) dX0_xAhead_11 ?_
    refine lv_goto (tgt := 16) hx hb dX0_xAhead_12 (by decide) ?_
    exact W.iret hx hb hr (fun t ht hW => ⟨_, rfl, (der_pred hde (by omega) hi).2.1, ht⟩) (fun q hq => absurd hq List.not_mem_nil) dX0_xAhead_16
set_option maxHeartbeats 4000000 in
set_option maxRecDepth 100000 in
theorem mX0_yAhead (i : Nat) (hde : Der K st v w) (hi : i ≤ K) (hK : K ≤ 16) : Met l yX0_yAhead (wm yX0_yAhead cX0_yAhead 2 (some .int)) ({ frames := 0, cells := 0, slots := 0, locals := 0 } : Room) (va_Pc [.ref (q 0), .int (nI i)] (fun U => C0 D cyI cyZ q n st v mk w U U.heap)) (vp_Si (fun r => r = py (v 0) (v 1) i)) 0 0 (fun _ => False) := by
  refine mt (by decide) (Nat.le_of_ble_eq_true rfl) ?_
  intro p ev s m below meth c ls hF hr hlocks hnm hX hl
  have hF : CallFix p m c cX0_yAhead 2 s _ wA RX0 := hF
  obtain ⟨hx, hb, hml, hown, hts⟩ := id hF
  have hX : C0 D cyI cyZ q n st v mk w s s.heap := hX
  have hl : lv_has ls 2 [(0, .ref (q 0)), (1, .int (nI i))] := hl
  refine lv_iload_n hx hb dX0_yAhead_0 rfl (lv_at hl 1 rfl) ?_
  refine lv_if_le (tgt := 15) hx hb dX0_yAhead_1 (by decide) (fun c1 => ?_) (fun c1 => ?_)
  · have c1n : i ≤ 0 := (nI_leI (a := i) (b := 0) (by omega) (by omega)).mp c1
    obtain rfl : i = 0 := by omega
    refine lv_iconst (v := 0) hx hb dX0_yAhead_15 (by decide) ?_
    exact W.iret hx hb hr (fun t ht hW => ⟨_, rfl, rfl, ht⟩) (fun q hq => absurd hq List.not_mem_nil) dX0_yAhead_16
  · have c1n : ¬ i ≤ 0 := fun h9 => c1 ((nI_leI (a := i) (b := 0) (by omega) (by omega)).mpr h9)
    refine lv_aload_n hx hb dX0_yAhead_4 rfl (lv_at hl 0 rfl) ?_
    refine C0.get hF hX 9 (by decide) rfl rfl kf_RX0_32 dX0_yAhead_5 ?_
    refine lv_iload_n hx hb dX0_yAhead_8 rfl (lv_at hl 1 rfl) ?_
    refine lv_iconst (v := 1) hx hb dX0_yAhead_9 (by decide) ?_
    refine lv_isub hx hb dX0_yAhead_10 ?_
    refine aldI hF hX.2.1 hX.1 8 0 rfl rfl (i - 1) (by omega) (by decide) (nI_dec (by omega)) dX0_yAhead_11 ?_
    refine lv_goto (tgt := 16) hx hb dX0_yAhead_12 (by decide) ?_
    exact W.iret hx hb hr (fun t ht hW => ⟨_, rfl, (der_pred hde (by omega) hi).2.2.1, ht⟩) (fun q hq => absurd hq List.not_mem_nil) dX0_yAhead_16
set_option maxHeartbeats 4000000 in
set_option maxRecDepth 100000 in
theorem mX0_noteAhead (i : Nat) (hde : Der K st v w) (hi : i ≤ K) (hK : K ≤ 16) : Met l yX0_noteAhead (wm yX0_noteAhead cX0_noteAhead 2 (some .int)) ({ frames := 0, cells := 0, slots := 0, locals := 0 } : Room) (va_Pc [.ref (q 0), .int (nI i)] (fun U => C0 D cyI cyZ q n st v mk w U U.heap)) (vp_Si (fun r => r = nt (v 0) st i)) 0 0 (fun _ => False) := by
  refine mt (by decide) (Nat.le_of_ble_eq_true rfl) ?_
  intro p ev s m below meth c ls hF hr hlocks hnm hX hl
  have hF : CallFix p m c cX0_noteAhead 2 s _ wA RX0 := hF
  obtain ⟨hx, hb, hml, hown, hts⟩ := id hF
  have hX : C0 D cyI cyZ q n st v mk w s s.heap := hX
  have hl : lv_has ls 2 [(0, .ref (q 0)), (1, .int (nI i))] := hl
  refine lv_iload_n hx hb dX0_noteAhead_0 rfl (lv_at hl 1 rfl) ?_
  refine lv_if_le (tgt := 15) hx hb dX0_noteAhead_1 (by decide) (fun c1 => ?_) (fun c1 => ?_)
  · have c1n : i ≤ 0 := (nI_leI (a := i) (b := 0) (by omega) (by omega)).mp c1
    obtain rfl : i = 0 := by omega
    refine lv_bipush (v := 12) hx hb dX0_noteAhead_15 (by decide) ?_
    exact W.iret hx hb hr (fun t ht hW => ⟨_, rfl, rfl, ht⟩) (fun q hq => absurd hq List.not_mem_nil) dX0_noteAhead_17
  · have c1n : ¬ i ≤ 0 := fun h9 => c1 ((nI_leI (a := i) (b := 0) (by omega) (by omega)).mpr h9)
    refine lv_aload_n hx hb dX0_noteAhead_4 rfl (lv_at hl 0 rfl) ?_
    refine C0.get hF hX 10 (by decide) rfl rfl kf_RX0_35 dX0_noteAhead_5 ?_
    refine lv_iload_n hx hb dX0_noteAhead_8 rfl (lv_at hl 1 rfl) ?_
    refine lv_iconst (v := 1) hx hb dX0_noteAhead_9 (by decide) ?_
    refine lv_isub hx hb dX0_noteAhead_10 ?_
    refine aldI hF hX.2.1 hX.1 9 0 rfl rfl (i - 1) (by omega) (by decide) (nI_dec (by omega)) dX0_noteAhead_11 ?_
    refine lv_goto (tgt := 17) hx hb dX0_noteAhead_12 (by decide) ?_
    exact W.iret hx hb hr (fun t ht hW => ⟨_, rfl, (der_pred hde (by omega) hi).2.2.2, ht⟩) (fun q hq => absurd hq List.not_mem_nil) dX0_noteAhead_17
set_option maxHeartbeats 4000000 in
set_option maxRecDepth 100000 in
theorem mX0_digested (a b : Int64) : Met l yX0_digested (wm yX0_digested cX0_digested 4 (some .long)) ({ frames := 0, cells := 0, slots := 0, locals := 0 } : Room) (va_Pc [.long a, .long b] (fun U => (fun _ _ => True : State → Heap → Prop) U U.heap)) (vp_Sl (fun r => r = dg a b)) 0 0 (fun _ => False) := by
  refine mt (by decide) (Nat.le_of_ble_eq_true rfl) ?_
  intro p ev s m below meth c ls hF hr hlocks hnm hX hl
  have hF : CallFix p m c cX0_digested 4 s _ wA RX0 := hF
  obtain ⟨hx, hb, hml, hown, hts⟩ := id hF
  have hl : lv_has ls 4 [(0, .long a), (2, .long b)] := hl
  refine lv_lload_n hx hb dX0_digested_0 rfl (lv_at hl 0 rfl) ?_
  refine lv_ldc2 hx hb hown (hts _ kk_RX0_237) dX0_digested_1 ?_
  refine lv_lmul hx hb dX0_digested_4 ?_
  refine lv_lload_n hx hb dX0_digested_5 rfl (lv_at hl 1 rfl) ?_
  refine lv_ladd hx hb dX0_digested_6 ?_
  exact W.lret hx hb hr (fun t ht hW => ⟨_, rfl, rfl, ht⟩) (fun q hq => absurd hq List.not_mem_nil) dX0_digested_7
set_option maxHeartbeats 4000000 in
set_option maxRecDepth 100000 in
theorem mX0_turnsSungAs (note ahead : Int32) (e : Nat) (he : e ≤ 7) : Met l yX0_turnsSungAs (wm yX0_turnsSungAs cX0_turnsSungAs 6 (some .int)) ({ frames := 2, cells := 0, slots := 0, locals := 42 } : Room) (va_Pc [.int note, .int ahead, .int st, .int (nI e - 3)] (fun U => (fun _ _ => True : State → Heap → Prop) U U.heap)) (vp_Si (fun r => r = tsa note ahead st e)) 0 0 (fun _ => False) := by
  refine mt (by decide) (Nat.le_of_ble_eq_true rfl) ?_
  intro p ev s m below meth c ls hF hr hlocks hnm hX hl
  have hF : CallFix p m c cX0_turnsSungAs 6 s _ wA RX0 := hF
  obtain ⟨hx, hb, hml, hown, hts⟩ := id hF
  have hl : lv_has ls 6 [(0, .int note), (1, .int ahead), (2, .int st), (3, .int (nI e - 3))] := hl
  refine lv_iconst (v := 0) hx hb dX0_turnsSungAs_0 (by decide) ?_
  refine lv_istore (lv' := [(4, .int 0), (0, .int note), (1, .int ahead), (2, .int st), (3, .int (nI e - 3))]) hx hb dX0_turnsSungAs_1 hl (by decide) rfl (fun ls hl => ?_)
  refine lv_bipush (v := (nI 0 - 3)) hx hb dX0_turnsSungAs_3 (by decide) ?_
  refine lv_istore (lv' := [(5, .int (nI 0 - 3)), (4, .int 0), (0, .int note), (1, .int ahead), (2, .int st), (3, .int (nI e - 3))]) hx hb dX0_turnsSungAs_5 hl (by decide) rfl (fun ls hl => ?_)
  refine lpW (σ := Nat) (fun j ls => (j ≤ e) ∧ lv_has ls 6 [(0, .int note), (1, .int ahead), (2, .int st), (3, .int (nI e - 3)), (4, .int (tsa note ahead st j)), (5, .int (nI j - 3))]) (fun j => e - j) (fun j ls hI ih => ?_) (0) ⟨by omega, lv_sub hl [2, 3, 4, 5, 1, 0] rfl⟩
  obtain ⟨hj, hl⟩ := hI
  refine lv_iload hx hb dX0_turnsSungAs_7 (lv_at hl 5 rfl) ?_
  refine lv_iload_n hx hb dX0_turnsSungAs_9 rfl (lv_at hl 3 rfl) ?_
  refine lv_icmp_ge (tgt := 34) hx hb dX0_turnsSungAs_10 (by decide) (fun c10 => ?_) (fun c10 => ?_)
  · have h9 : e ≤ j := (nI_3le (by omega) (by omega)).mp c10
    obtain rfl : j = e := by omega
    refine lv_iload hx hb dX0_turnsSungAs_34 (lv_at hl 4 rfl) ?_
    exact W.iret hx hb hr (fun t ht hW => ⟨_, rfl, rfl, ht⟩) (fun q hq => absurd hq List.not_mem_nil) dX0_turnsSungAs_36
  · have h9 : ¬ e ≤ j := fun h => c10 ((nI_3le (by omega) (by omega)).mpr h)
    refine lv_iload_n hx hb dX0_turnsSungAs_13 rfl (lv_at hl 1 rfl) ?_
    refine lv_iload hx hb dX0_turnsSungAs_14 (lv_at hl 5 rfl) ?_
    refine lv_iload_n hx hb dX0_turnsSungAs_16 rfl (lv_at hl 2 rfl) ?_
    refine lv_imul hx hb dX0_turnsSungAs_17 ?_
    refine cSi (As := [.int ahead, .int ((nI j - 3) * st)]) (rest := []) hF (mX0_noteBehind ahead ((nI j - 3) * st)) Mv.const trivial jyX0_noteBehind kl_RX0_227 ⟨rfl, rfl⟩ ⟨Nat.le_of_ble_eq_true rfl, Nat.le_of_ble_eq_true rfl⟩ rfl hl.1 rfl (Nat.le_of_ble_eq_true rfl) ⟨Nat.zero_le _, Nat.zero_le _⟩ dX0_turnsSungAs_18 (fun r hr9 => ?_)
    subst hr9
    refine lv_iload_n hx hb dX0_turnsSungAs_21 rfl (lv_at hl 0 rfl) ?_
    refine lv_icmp_ne (tgt := 28) hx hb dX0_turnsSungAs_22 (by decide) (fun c22 => ?_) (fun c22 => ?_)
    · refine lv_iinc (v := (nI (j + 1) - 3)) (lv' := [(5, .int (nI (j + 1) - 3)), (0, .int note), (1, .int ahead), (2, .int st), (3, .int (nI e - 3)), (4, .int (tsa note ahead st j))]) hx hb dX0_turnsSungAs_28 hl (k := 5) rfl (nI_3 _) (by decide) rfl (fun ls hl => ?_)
      refine lv_goto (tgt := 7) hx hb dX0_turnsSungAs_31 (by decide) ?_
      exact ih (j + 1) ls (by omega) ⟨by omega, by rw [tsa_f c22]; exact lv_sub hl [1, 2, 3, 4, 5, 0] rfl⟩
    · refine lv_iinc (v := ((tsa note ahead st j) + 1)) (lv' := [(4, .int ((tsa note ahead st j) + 1)), (0, .int note), (1, .int ahead), (2, .int st), (3, .int (nI e - 3)), (5, .int (nI j - 3))]) hx hb dX0_turnsSungAs_25 hl (k := 4) rfl (rfl) (by decide) rfl (fun ls hl => ?_)
      refine lv_iinc (v := (nI (j + 1) - 3)) (lv' := [(5, .int (nI (j + 1) - 3)), (4, .int ((tsa note ahead st j) + 1)), (0, .int note), (1, .int ahead), (2, .int st), (3, .int (nI e - 3))]) hx hb dX0_turnsSungAs_28 hl (k := 5) rfl (nI_3 _) (by decide) rfl (fun ls hl => ?_)
      refine lv_goto (tgt := 7) hx hb dX0_turnsSungAs_31 (by decide) ?_
      exact ih (j + 1) ls (by omega) ⟨by omega, by rw [tsa_t c22]; exact lv_sub hl [2, 3, 4, 5, 1, 0] rfl⟩
set_option maxHeartbeats 4000000 in
set_option maxRecDepth 100000 in
theorem mX0_landmarksNamed (x : Int32) (e : Nat) (he : e ≤ 10) : Met l yX0_landmarksNamed (wm yX0_landmarksNamed cX0_landmarksNamed 5 (some .int)) ({ frames := 0, cells := 0, slots := 0, locals := 0 } : Room) (va_Pc [.ref (q 0), .int x, .int (nI e)] (fun U => C0 D cyI cyZ q n st v mk w U U.heap)) (vp_Si (fun r => r = lc (v 3) x e)) 0 0 (fun _ => False) := by
  refine mt (by decide) (Nat.le_of_ble_eq_true rfl) ?_
  intro p ev s m below meth c ls hF hr hlocks hnm hX hl
  have hF : CallFix p m c cX0_landmarksNamed 5 s _ wA RX0 := hF
  obtain ⟨hx, hb, hml, hown, hts⟩ := id hF
  have hX : C0 D cyI cyZ q n st v mk w s s.heap := hX
  have hl : lv_has ls 5 [(0, .ref (q 0)), (1, .int x), (2, .int (nI e))] := hl
  refine lv_iconst (v := 0) hx hb dX0_landmarksNamed_0 (by decide) ?_
  refine lv_istore_n (lv' := [(3, .int 0), (0, .ref (q 0)), (1, .int x), (2, .int (nI e))]) hx hb dX0_landmarksNamed_1 rfl hl (by decide) rfl (fun ls hl => ?_)
  refine lv_iconst (v := 0) hx hb dX0_landmarksNamed_2 (by decide) ?_
  refine lv_istore (lv' := [(4, .int 0), (3, .int 0), (0, .ref (q 0)), (1, .int x), (2, .int (nI e))]) hx hb dX0_landmarksNamed_3 hl (by decide) rfl (fun ls hl => ?_)
  refine lpW (σ := Nat) (fun j ls => (j ≤ e) ∧ lv_has ls 5 [(0, .ref (q 0)), (1, .int x), (2, .int (nI e)), (3, .int (lc (v 3) x j)), (4, .int (nI j))]) (fun j => e - j) (fun j ls hI ih => ?_) (0) ⟨by omega, lv_sub hl [2, 3, 4, 1, 0] rfl⟩
  obtain ⟨hj, hl⟩ := hI
  refine lv_iload hx hb dX0_landmarksNamed_5 (lv_at hl 4 rfl) ?_
  refine lv_iload_n hx hb dX0_landmarksNamed_7 rfl (lv_at hl 2 rfl) ?_
  refine lv_icmp_ge (tgt := 31) hx hb dX0_landmarksNamed_8 (by decide) (fun c8 => ?_) (fun c8 => ?_)
  · have c8n : e ≤ j := (nI_leI (a := e) (b := j) (by omega) (by omega)).mp c8
    obtain rfl : j = e := by omega
    refine lv_iload_n hx hb dX0_landmarksNamed_31 rfl (lv_at hl 3 rfl) ?_
    exact W.iret hx hb hr (fun t ht hW => ⟨_, rfl, rfl, ht⟩) (fun q hq => absurd hq List.not_mem_nil) dX0_landmarksNamed_32
  · have c8n : ¬ e ≤ j := fun h9 => c8 ((nI_leI (a := e) (b := j) (by omega) (by omega)).mpr h9)
    refine lv_aload_n hx hb dX0_landmarksNamed_11 rfl (lv_at hl 0 rfl) ?_
    refine C0.get hF hX 4 (by decide) rfl rfl kf_RX0_23 dX0_landmarksNamed_12 ?_
    refine lv_iload hx hb dX0_landmarksNamed_15 (lv_at hl 4 rfl) ?_
    refine aldI hF hX.2.1 hX.1 5 0 rfl rfl j (by omega) (by decide) rfl dX0_landmarksNamed_17 ?_
    refine lv_iload_n hx hb dX0_landmarksNamed_18 rfl (lv_at hl 1 rfl) ?_
    refine lv_icmp_ne (tgt := 25) hx hb dX0_landmarksNamed_19 (by decide) (fun c19 => ?_) (fun c19 => ?_)
    · refine lv_iinc (v := (nI (j + 1))) (lv' := [(4, .int (nI (j + 1))), (0, .ref (q 0)), (1, .int x), (2, .int (nI e)), (3, .int (lc (v 3) x j))]) hx hb dX0_landmarksNamed_25 hl (k := 4) rfl (nI_1 _) (by decide) rfl (fun ls hl => ?_)
      refine lv_goto (tgt := 5) hx hb dX0_landmarksNamed_28 (by decide) ?_
      exact ih (j + 1) ls (by omega) ⟨by omega, by rw [lc_f c19]; exact lv_sub hl [1, 2, 3, 4, 0] rfl⟩
    · refine lv_iinc (v := ((lc (v 3) x j) + 1)) (lv' := [(3, .int ((lc (v 3) x j) + 1)), (0, .ref (q 0)), (1, .int x), (2, .int (nI e)), (4, .int (nI j))]) hx hb dX0_landmarksNamed_22 hl (k := 3) rfl (rfl) (by decide) rfl (fun ls hl => ?_)
      refine lv_iinc (v := (nI (j + 1))) (lv' := [(4, .int (nI (j + 1))), (3, .int ((lc (v 3) x j) + 1)), (0, .ref (q 0)), (1, .int x), (2, .int (nI e))]) hx hb dX0_landmarksNamed_25 hl (k := 4) rfl (nI_1 _) (by decide) rfl (fun ls hl => ?_)
      refine lv_goto (tgt := 5) hx hb dX0_landmarksNamed_28 (by decide) ?_
      exact ih (j + 1) ls (by omega) ⟨by omega, by rw [lc_t c19]; exact lv_sub hl [2, 3, 4, 1, 0] rfl⟩
end P10
end
section
section P11
variable {l : Launch} {D : va_G} {cyI cyZ : ClassId} {q : Nat → Nat} {N K : Nat} {n st th md : Int32} {v w : Nat → Nat → Int32} {mk : Nat → Bool}
set_option maxHeartbeats 4000000 in
set_option maxRecDepth 100000 in
theorem mX0_legs  : Met l yX0_legs (wm yX0_legs cX0_legs 1 (some .int)) ({ frames := 0, cells := 0, slots := 0, locals := 0 } : Room) (va_Pc [.ref (q 0)] (fun U => C0 D cyI cyZ q (nI N) st v mk w U U.heap)) (vp_Si (fun r => r = nI N)) 0 0 (fun _ => False) := by
  refine mt (by decide) (Nat.le_of_ble_eq_true rfl) ?_
  intro p ev s m below meth c ls hF hr hlocks hnm hX hl
  have hF : CallFix p m c cX0_legs 1 s _ wA RX0 := hF
  obtain ⟨hx, hb, hml, hown, hts⟩ := id hF
  have hX : C0 D cyI cyZ q (nI N) st v mk w s s.heap := hX
  have hl : lv_has ls 1 [(0, .ref (q 0))] := hl
  refine lv_aload_n hx hb dX0_legs_0 rfl (lv_at hl 0 rfl) ?_
  refine C0.get hF hX 5 (by decide) rfl rfl kf_RX0_59 dX0_legs_1 ?_
  exact W.iret hx hb hr (fun t ht hW => ⟨_, rfl, rfl, ht⟩) (fun q hq => absurd hq List.not_mem_nil) dX0_legs_4
set_option maxHeartbeats 4000000 in
set_option maxRecDepth 100000 in
theorem mX0_step  : Met l yX0_step (wm yX0_step cX0_step 1 (some .int)) ({ frames := 0, cells := 0, slots := 0, locals := 0 } : Room) (va_Pc [.ref (q 0)] (fun U => C0 D cyI cyZ q n st v mk w U U.heap)) (vp_Si (fun r => r = st)) 0 0 (fun _ => False) := by
  refine mt (by decide) (Nat.le_of_ble_eq_true rfl) ?_
  intro p ev s m below meth c ls hF hr hlocks hnm hX hl
  have hF : CallFix p m c cX0_step 1 s _ wA RX0 := hF
  obtain ⟨hx, hb, hml, hown, hts⟩ := id hF
  have hX : C0 D cyI cyZ q n st v mk w s s.heap := hX
  have hl : lv_has ls 1 [(0, .ref (q 0))] := hl
  refine lv_aload_n hx hb dX0_step_0 rfl (lv_at hl 0 rfl) ?_
  refine C0.get hF hX 6 (by decide) rfl rfl kf_RX0_38 dX0_step_1 ?_
  exact W.iret hx hb hr (fun t ht hW => ⟨_, rfl, rfl, ht⟩) (fun q hq => absurd hq List.not_mem_nil) dX0_step_4
set_option maxHeartbeats 4000000 in
set_option maxRecDepth 100000 in
theorem mX0_endX (hok : Ok N st v) (hde : Der N st v w) : Met l yX0_endX (wm yX0_endX cX0_endX 1 (some .int)) ({ frames := 1, cells := 0, slots := 0, locals := 21 } : Room) (va_Pc [.ref (q 0)] (fun U => C0 D cyI cyZ q (nI N) st v mk w U U.heap)) (vp_Si (fun r => r = px (v 0) (v 1) N)) 0 0 (fun _ => False) := by
  refine mt (by decide) (Nat.le_of_ble_eq_true rfl) ?_
  intro p ev s m below meth c ls hF hr hlocks hnm hX hl
  have hF : CallFix p m c cX0_endX 1 s _ wA RX0 := hF
  obtain ⟨hx, hb, hml, hown, hts⟩ := id hF
  have hX : C0 D cyI cyZ q (nI N) st v mk w s s.heap := hX
  have hl : lv_has ls 1 [(0, .ref (q 0))] := hl
  have hN := hok.1
  refine lv_aload_n hx hb dX0_endX_0 rfl (lv_at hl 0 rfl) ?_
  refine lv_aload_n hx hb dX0_endX_1 rfl (lv_at hl 0 rfl) ?_
  refine C0.get hF hX 5 (by decide) rfl rfl kf_RX0_59 dX0_endX_2 ?_
  refine cVi (As := [.int (nI N)]) (rest := []) hF (mX0_xAhead N hde (by omega) (by omega)) C0.mv hX (C0.rc hX) jyX0_xAhead kl_RX0_88 ⟨rfl, rfl⟩ ⟨Nat.le_of_ble_eq_true rfl, Nat.le_of_ble_eq_true rfl⟩ rfl hl.1 rfl (Nat.le_of_ble_eq_true rfl) ⟨Nat.zero_le _, Nat.zero_le _⟩ dX0_endX_5 (fun r hr9 => ?_)
  subst hr9
  exact W.iret hx hb hr (fun t ht hW => ⟨_, rfl, rfl, ht⟩) (fun q hq => absurd hq List.not_mem_nil) dX0_endX_8
set_option maxHeartbeats 4000000 in
set_option maxRecDepth 100000 in
theorem mX0_endY (hok : Ok N st v) (hde : Der N st v w) : Met l yX0_endY (wm yX0_endY cX0_endY 1 (some .int)) ({ frames := 1, cells := 0, slots := 0, locals := 21 } : Room) (va_Pc [.ref (q 0)] (fun U => C0 D cyI cyZ q (nI N) st v mk w U U.heap)) (vp_Si (fun r => r = py (v 0) (v 1) N)) 0 0 (fun _ => False) := by
  refine mt (by decide) (Nat.le_of_ble_eq_true rfl) ?_
  intro p ev s m below meth c ls hF hr hlocks hnm hX hl
  have hF : CallFix p m c cX0_endY 1 s _ wA RX0 := hF
  obtain ⟨hx, hb, hml, hown, hts⟩ := id hF
  have hX : C0 D cyI cyZ q (nI N) st v mk w s s.heap := hX
  have hl : lv_has ls 1 [(0, .ref (q 0))] := hl
  have hN := hok.1
  refine lv_aload_n hx hb dX0_endY_0 rfl (lv_at hl 0 rfl) ?_
  refine lv_aload_n hx hb dX0_endY_1 rfl (lv_at hl 0 rfl) ?_
  refine C0.get hF hX 5 (by decide) rfl rfl kf_RX0_59 dX0_endY_2 ?_
  refine cVi (As := [.int (nI N)]) (rest := []) hF (mX0_yAhead N hde (by omega) (by omega)) C0.mv hX (C0.rc hX) jyX0_yAhead kl_RX0_92 ⟨rfl, rfl⟩ ⟨Nat.le_of_ble_eq_true rfl, Nat.le_of_ble_eq_true rfl⟩ rfl hl.1 rfl (Nat.le_of_ble_eq_true rfl) ⟨Nat.zero_le _, Nat.zero_le _⟩ dX0_endY_5 (fun r hr9 => ?_)
  subst hr9
  exact W.iret hx hb hr (fun t ht hW => ⟨_, rfl, rfl, ht⟩) (fun q hq => absurd hq List.not_mem_nil) dX0_endY_8
set_option maxHeartbeats 4000000 in
set_option maxRecDepth 100000 in
theorem mX0_stepsHome (hok : Ok N st v) (hde : Der N st v w) : Met l yX0_stepsHome (wm yX0_stepsHome cX0_stepsHome 1 (some .int)) ({ frames := 2, cells := 0, slots := 0, locals := 41 } : Room) (va_Pc [.ref (q 0)] (fun U => C0 D cyI cyZ q (nI N) st v mk w U U.heap)) (vp_Si (fun r => r = mx (ab (px (v 0) (v 1) N)) (ab (py (v 0) (v 1) N)))) 0 0 (fun _ => False) := by
  refine mt (by decide) (Nat.le_of_ble_eq_true rfl) ?_
  intro p ev s m below meth c ls hF hr hlocks hnm hX hl
  have hF : CallFix p m c cX0_stepsHome 1 s _ wA RX0 := hF
  obtain ⟨hx, hb, hml, hown, hts⟩ := id hF
  have hX : C0 D cyI cyZ q (nI N) st v mk w s s.heap := hX
  have hl : lv_has ls 1 [(0, .ref (q 0))] := hl
  have hN := hok.1
  refine lv_aload_n hx hb dX0_stepsHome_0 rfl (lv_at hl 0 rfl) ?_
  refine cVi (As := []) (rest := []) hF (mX0_endX hok hde) C0.mv hX (C0.rc hX) jyX0_endX kl_RX0_95 ⟨rfl, rfl⟩ ⟨Nat.le_of_ble_eq_true rfl, Nat.le_of_ble_eq_true rfl⟩ rfl hl.1 rfl (Nat.le_of_ble_eq_true rfl) ⟨Nat.zero_le _, Nat.zero_le _⟩ dX0_stepsHome_1 (fun r hr9 => ?_)
  subst hr9
  refine va_mabs hx hb (hml.trans hl.1.symm) hown (hts _ kl_RX0_99) (hts _ ks_LM_abs_name) (hts _ kn_Math) (hts _ kd_LM_abs_name) (Nat.le_of_ble_eq_true rfl) (Nat.le_of_ble_eq_true rfl) (Nat.zero_le _) (Nat.zero_le _) dX0_stepsHome_4 ?_
  refine lv_aload_n hx hb dX0_stepsHome_7 rfl (lv_at hl 0 rfl) ?_
  refine cVi (As := []) (rest := [.int (ab (px (v 0) (v 1) N))]) hF (mX0_endY hok hde) C0.mv hX (C0.rc hX) jyX0_endY kl_RX0_104 ⟨rfl, rfl⟩ ⟨Nat.le_of_ble_eq_true rfl, Nat.le_of_ble_eq_true rfl⟩ rfl hl.1 rfl (Nat.le_of_ble_eq_true rfl) ⟨Nat.zero_le _, Nat.zero_le _⟩ dX0_stepsHome_8 (fun r hr9 => ?_)
  subst hr9
  refine va_mabs hx hb (hml.trans hl.1.symm) hown (hts _ kl_RX0_99) (hts _ ks_LM_abs_name) (hts _ kn_Math) (hts _ kd_LM_abs_name) (Nat.le_of_ble_eq_true rfl) (Nat.le_of_ble_eq_true rfl) (Nat.zero_le _) (Nat.zero_le _) dX0_stepsHome_11 ?_
  refine va_mmax hx hb (hml.trans hl.1.symm) hown (hts _ kl_RX0_107) (hts _ ks_LM_max_name) (hts _ kn_Math) (hts _ kd_LM_max_name) (Nat.le_of_ble_eq_true rfl) (Nat.le_of_ble_eq_true rfl) (Nat.zero_le _) (Nat.zero_le _) dX0_stepsHome_14 ?_
  exact W.iret hx hb hr (fun t ht hW => ⟨_, rfl, rfl, ht⟩) (fun q hq => absurd hq List.not_mem_nil) dX0_stepsHome_17
set_option maxHeartbeats 4000000 in
set_option maxRecDepth 100000 in
theorem mX0_endsWhereItWas (hok : Ok N st v) (hde : Der N st v w) (i : Nat) (hi : i < N) : Met l yX0_endsWhereItWas (wm yX0_endsWhereItWas cX0_endsWhereItWas 3 (some .boolean)) ({ frames := 0, cells := 0, slots := 0, locals := 0 } : Room) (va_Pc [.ref (q 0), .int (nI i)] (fun U => C0 D cyI cyZ q (nI N) st v mk w U U.heap)) (vp_Si (fun r => r = b2i (rtP v i))) 0 0 (fun _ => False) := by
  refine mt (by decide) (Nat.le_of_ble_eq_true rfl) ?_
  intro p ev s m below meth c ls hF hr hlocks hnm hX hl
  have hF : CallFix p m c cX0_endsWhereItWas 3 s _ wA RX0 := hF
  obtain ⟨hx, hb, hml, hown, hts⟩ := id hF
  have hX : C0 D cyI cyZ q (nI N) st v mk w s s.heap := hX
  have hl : lv_has ls 3 [(0, .ref (q 0)), (1, .int (nI i))] := hl
  have hN := hok.1
  refine lv_aload_n hx hb dX0_endsWhereItWas_0 rfl (lv_at hl 0 rfl) ?_
  refine C0.get hF hX 8 (by decide) rfl rfl kf_RX0_29 dX0_endsWhereItWas_1 ?_
  refine lv_iload_n hx hb dX0_endsWhereItWas_4 rfl (lv_at hl 1 rfl) ?_
  refine aldI hF hX.2.1 hX.1 7 0 rfl rfl i (by omega) (by decide) rfl dX0_endsWhereItWas_5 ?_
  refine lv_if_ne (tgt := 20) hx hb dX0_endsWhereItWas_6 (by decide) (fun c6 => ?_) (fun c6 => ?_)
  · have h0 : exB (rtE v i) (0 + 1) = false := exB_f rfl (rtE_x (n := 0) rfl (hde i hi).2.1 (fun h => c6 h.symm))
    refine lv_iconst (v := 0) hx hb dX0_endsWhereItWas_20 (by decide) ?_
    refine lv_istore_n (lv' := [(2, .int 0), (0, .ref (q 0)), (1, .int (nI i))]) hx hb dX0_endsWhereItWas_21 rfl hl (by decide) rfl (fun ls hl => ?_)
    refine lpW (σ := Nat) (fun j ls => (j ≤ i ∧ exB (rtE v i) (j + 1) = false) ∧ lv_has ls 3 [(0, .ref (q 0)), (1, .int (nI i)), (2, .int (nI j))]) (fun j => i - j) (fun j ls hI ih => ?_) (0) ⟨⟨by omega, h0⟩, lv_sub hl [1, 2, 0] rfl⟩
    obtain ⟨hj, hl⟩ := hI
    refine lv_iload_n hx hb dX0_endsWhereItWas_22 rfl (lv_at hl 2 rfl) ?_
    refine lv_iload_n hx hb dX0_endsWhereItWas_23 rfl (lv_at hl 1 rfl) ?_
    refine lv_icmp_ge (tgt := 65) hx hb dX0_endsWhereItWas_24 (by decide) (fun c24 => ?_) (fun c24 => ?_)
    · have c24n : i ≤ j := (nI_leI (a := i) (b := j) (by omega) (by omega)).mp c24
      obtain rfl : j = i := by omega
      refine lv_iconst (v := 0) hx hb dX0_endsWhereItWas_65 (by decide) ?_
      exact W.zret hx hb hr rfl (fun t ht hW => ⟨_, rfl, b2i_0 hj.2, ht⟩) (fun q hq => absurd hq List.not_mem_nil) dX0_endsWhereItWas_66
    · have c24n : ¬ i ≤ j := fun h9 => c24 ((nI_leI (a := i) (b := j) (by omega) (by omega)).mpr h9)
      refine lv_aload_n hx hb dX0_endsWhereItWas_27 rfl (lv_at hl 0 rfl) ?_
      refine C0.get hF hX 8 (by decide) rfl rfl kf_RX0_29 dX0_endsWhereItWas_28 ?_
      refine lv_iload_n hx hb dX0_endsWhereItWas_31 rfl (lv_at hl 2 rfl) ?_
      refine aldI hF hX.2.1 hX.1 7 0 rfl rfl j (by omega) (by decide) rfl dX0_endsWhereItWas_32 ?_
      refine lv_aload_n hx hb dX0_endsWhereItWas_33 rfl (lv_at hl 0 rfl) ?_
      refine C0.get hF hX 8 (by decide) rfl rfl kf_RX0_29 dX0_endsWhereItWas_34 ?_
      refine lv_iload_n hx hb dX0_endsWhereItWas_37 rfl (lv_at hl 1 rfl) ?_
      refine aldI hF hX.2.1 hX.1 7 0 rfl rfl i (by omega) (by decide) rfl dX0_endsWhereItWas_38 ?_
      refine lv_icmp_ne (tgt := 59) hx hb dX0_endsWhereItWas_39 (by decide) (fun c39 => ?_) (fun c39 => ?_)
      · refine lv_iinc (v := (nI (j + 1))) (lv' := [(2, .int (nI (j + 1))), (0, .ref (q 0)), (1, .int (nI i))]) hx hb dX0_endsWhereItWas_59 hl (k := 2) rfl (nI_1 _) (by decide) rfl (fun ls hl => ?_)
        refine lv_goto (tgt := 22) hx hb dX0_endsWhereItWas_62 (by decide) ?_
        exact ih (j + 1) ls (by omega) ⟨⟨by omega, exB_f hj.2 (by first | exact rtE_x (hde j (by omega)).2.1 (hde i hi).2.1 c39 | exact rtE_y (hde j (by omega)).2.2.1 (hde i hi).2.2.1 c54)⟩, by exact lv_sub hl [1, 2, 0] rfl⟩
      · refine lv_aload_n hx hb dX0_endsWhereItWas_42 rfl (lv_at hl 0 rfl) ?_
        refine C0.get hF hX 9 (by decide) rfl rfl kf_RX0_32 dX0_endsWhereItWas_43 ?_
        refine lv_iload_n hx hb dX0_endsWhereItWas_46 rfl (lv_at hl 2 rfl) ?_
        refine aldI hF hX.2.1 hX.1 8 0 rfl rfl j (by omega) (by decide) rfl dX0_endsWhereItWas_47 ?_
        refine lv_aload_n hx hb dX0_endsWhereItWas_48 rfl (lv_at hl 0 rfl) ?_
        refine C0.get hF hX 9 (by decide) rfl rfl kf_RX0_32 dX0_endsWhereItWas_49 ?_
        refine lv_iload_n hx hb dX0_endsWhereItWas_52 rfl (lv_at hl 1 rfl) ?_
        refine aldI hF hX.2.1 hX.1 8 0 rfl rfl i (by omega) (by decide) rfl dX0_endsWhereItWas_53 ?_
        refine lv_icmp_ne (tgt := 59) hx hb dX0_endsWhereItWas_54 (by decide) (fun c54 => ?_) (fun c54 => ?_)
        · refine lv_iinc (v := (nI (j + 1))) (lv' := [(2, .int (nI (j + 1))), (0, .ref (q 0)), (1, .int (nI i))]) hx hb dX0_endsWhereItWas_59 hl (k := 2) rfl (nI_1 _) (by decide) rfl (fun ls hl => ?_)
          refine lv_goto (tgt := 22) hx hb dX0_endsWhereItWas_62 (by decide) ?_
          exact ih (j + 1) ls (by omega) ⟨⟨by omega, exB_f hj.2 (by first | exact rtE_x (hde j (by omega)).2.1 (hde i hi).2.1 c39 | exact rtE_y (hde j (by omega)).2.2.1 (hde i hi).2.2.1 c54)⟩, by exact lv_sub hl [1, 2, 0] rfl⟩
        · refine lv_iconst (v := 1) hx hb dX0_endsWhereItWas_57 (by decide) ?_
          exact W.zret hx hb hr rfl (fun t ht hW => ⟨_, rfl, b2i_1 (exB_in (i := j + 1) (by omega) (rtE_t (hde j (by omega)).2.1 (hde j (by omega)).2.2.1 (hde i hi).2.1 (hde i hi).2.2.1 c39 c54)), ht⟩) (fun q hq => absurd hq List.not_mem_nil) dX0_endsWhereItWas_58
  · refine lv_aload_n hx hb dX0_endsWhereItWas_9 rfl (lv_at hl 0 rfl) ?_
    refine C0.get hF hX 9 (by decide) rfl rfl kf_RX0_32 dX0_endsWhereItWas_10 ?_
    refine lv_iload_n hx hb dX0_endsWhereItWas_13 rfl (lv_at hl 1 rfl) ?_
    refine aldI hF hX.2.1 hX.1 8 0 rfl rfl i (by omega) (by decide) rfl dX0_endsWhereItWas_14 ?_
    refine lv_if_ne (tgt := 20) hx hb dX0_endsWhereItWas_15 (by decide) (fun c15 => ?_) (fun c15 => ?_)
    · have h0 : exB (rtE v i) (0 + 1) = false := exB_f rfl (rtE_y (n := 0) rfl (hde i hi).2.2.1 (fun h => c15 h.symm))
      refine lv_iconst (v := 0) hx hb dX0_endsWhereItWas_20 (by decide) ?_
      refine lv_istore_n (lv' := [(2, .int 0), (0, .ref (q 0)), (1, .int (nI i))]) hx hb dX0_endsWhereItWas_21 rfl hl (by decide) rfl (fun ls hl => ?_)
      refine lpW (σ := Nat) (fun j ls => (j ≤ i ∧ exB (rtE v i) (j + 1) = false) ∧ lv_has ls 3 [(0, .ref (q 0)), (1, .int (nI i)), (2, .int (nI j))]) (fun j => i - j) (fun j ls hI ih => ?_) (0) ⟨⟨by omega, h0⟩, lv_sub hl [1, 2, 0] rfl⟩
      obtain ⟨hj, hl⟩ := hI
      refine lv_iload_n hx hb dX0_endsWhereItWas_22 rfl (lv_at hl 2 rfl) ?_
      refine lv_iload_n hx hb dX0_endsWhereItWas_23 rfl (lv_at hl 1 rfl) ?_
      refine lv_icmp_ge (tgt := 65) hx hb dX0_endsWhereItWas_24 (by decide) (fun c24 => ?_) (fun c24 => ?_)
      · have c24n : i ≤ j := (nI_leI (a := i) (b := j) (by omega) (by omega)).mp c24
        obtain rfl : j = i := by omega
        refine lv_iconst (v := 0) hx hb dX0_endsWhereItWas_65 (by decide) ?_
        exact W.zret hx hb hr rfl (fun t ht hW => ⟨_, rfl, b2i_0 hj.2, ht⟩) (fun q hq => absurd hq List.not_mem_nil) dX0_endsWhereItWas_66
      · have c24n : ¬ i ≤ j := fun h9 => c24 ((nI_leI (a := i) (b := j) (by omega) (by omega)).mpr h9)
        refine lv_aload_n hx hb dX0_endsWhereItWas_27 rfl (lv_at hl 0 rfl) ?_
        refine C0.get hF hX 8 (by decide) rfl rfl kf_RX0_29 dX0_endsWhereItWas_28 ?_
        refine lv_iload_n hx hb dX0_endsWhereItWas_31 rfl (lv_at hl 2 rfl) ?_
        refine aldI hF hX.2.1 hX.1 7 0 rfl rfl j (by omega) (by decide) rfl dX0_endsWhereItWas_32 ?_
        refine lv_aload_n hx hb dX0_endsWhereItWas_33 rfl (lv_at hl 0 rfl) ?_
        refine C0.get hF hX 8 (by decide) rfl rfl kf_RX0_29 dX0_endsWhereItWas_34 ?_
        refine lv_iload_n hx hb dX0_endsWhereItWas_37 rfl (lv_at hl 1 rfl) ?_
        refine aldI hF hX.2.1 hX.1 7 0 rfl rfl i (by omega) (by decide) rfl dX0_endsWhereItWas_38 ?_
        refine lv_icmp_ne (tgt := 59) hx hb dX0_endsWhereItWas_39 (by decide) (fun c39 => ?_) (fun c39 => ?_)
        · refine lv_iinc (v := (nI (j + 1))) (lv' := [(2, .int (nI (j + 1))), (0, .ref (q 0)), (1, .int (nI i))]) hx hb dX0_endsWhereItWas_59 hl (k := 2) rfl (nI_1 _) (by decide) rfl (fun ls hl => ?_)
          refine lv_goto (tgt := 22) hx hb dX0_endsWhereItWas_62 (by decide) ?_
          exact ih (j + 1) ls (by omega) ⟨⟨by omega, exB_f hj.2 (by first | exact rtE_x (hde j (by omega)).2.1 (hde i hi).2.1 c39 | exact rtE_y (hde j (by omega)).2.2.1 (hde i hi).2.2.1 c54)⟩, by exact lv_sub hl [1, 2, 0] rfl⟩
        · refine lv_aload_n hx hb dX0_endsWhereItWas_42 rfl (lv_at hl 0 rfl) ?_
          refine C0.get hF hX 9 (by decide) rfl rfl kf_RX0_32 dX0_endsWhereItWas_43 ?_
          refine lv_iload_n hx hb dX0_endsWhereItWas_46 rfl (lv_at hl 2 rfl) ?_
          refine aldI hF hX.2.1 hX.1 8 0 rfl rfl j (by omega) (by decide) rfl dX0_endsWhereItWas_47 ?_
          refine lv_aload_n hx hb dX0_endsWhereItWas_48 rfl (lv_at hl 0 rfl) ?_
          refine C0.get hF hX 9 (by decide) rfl rfl kf_RX0_32 dX0_endsWhereItWas_49 ?_
          refine lv_iload_n hx hb dX0_endsWhereItWas_52 rfl (lv_at hl 1 rfl) ?_
          refine aldI hF hX.2.1 hX.1 8 0 rfl rfl i (by omega) (by decide) rfl dX0_endsWhereItWas_53 ?_
          refine lv_icmp_ne (tgt := 59) hx hb dX0_endsWhereItWas_54 (by decide) (fun c54 => ?_) (fun c54 => ?_)
          · refine lv_iinc (v := (nI (j + 1))) (lv' := [(2, .int (nI (j + 1))), (0, .ref (q 0)), (1, .int (nI i))]) hx hb dX0_endsWhereItWas_59 hl (k := 2) rfl (nI_1 _) (by decide) rfl (fun ls hl => ?_)
            refine lv_goto (tgt := 22) hx hb dX0_endsWhereItWas_62 (by decide) ?_
            exact ih (j + 1) ls (by omega) ⟨⟨by omega, exB_f hj.2 (by first | exact rtE_x (hde j (by omega)).2.1 (hde i hi).2.1 c39 | exact rtE_y (hde j (by omega)).2.2.1 (hde i hi).2.2.1 c54)⟩, by exact lv_sub hl [1, 2, 0] rfl⟩
          · refine lv_iconst (v := 1) hx hb dX0_endsWhereItWas_57 (by decide) ?_
            exact W.zret hx hb hr rfl (fun t ht hW => ⟨_, rfl, b2i_1 (exB_in (i := j + 1) (by omega) (rtE_t (hde j (by omega)).2.1 (hde j (by omega)).2.2.1 (hde i hi).2.1 (hde i hi).2.2.1 c39 c54)), ht⟩) (fun q hq => absurd hq List.not_mem_nil) dX0_endsWhereItWas_58
    · refine lv_iconst (v := 1) hx hb dX0_endsWhereItWas_18 (by decide) ?_
      exact W.zret hx hb hr rfl (fun t ht hW => ⟨_, rfl, b2i_1 (exB_in (i := 0) (by omega) (rtE_t (n := 0) (a := 0) (b := 0) rfl rfl (hde i hi).2.1 (hde i hi).2.2.1 c6.symm c15.symm)), ht⟩) (fun q hq => absurd hq List.not_mem_nil) dX0_endsWhereItWas_19
set_option maxHeartbeats 4000000 in
set_option maxRecDepth 100000 in
theorem mX0_returns (hok : Ok N st v) (hde : Der N st v w) : Met l yX0_returns (wm yX0_returns cX0_returns 3 (some .int)) ({ frames := 1, cells := 0, slots := 0, locals := 22 } : Room) (va_Pc [.ref (q 0)] (fun U => C0 D cyI cyZ q (nI N) st v mk w U U.heap)) (vp_Si (fun r => r = rtn v N)) 0 0 (fun _ => False) := by
  refine mt (by decide) (Nat.le_of_ble_eq_true rfl) ?_
  intro p ev s m below meth c ls hF hr hlocks hnm hX hl
  have hF : CallFix p m c cX0_returns 3 s _ wA RX0 := hF
  obtain ⟨hx, hb, hml, hown, hts⟩ := id hF
  have hX : C0 D cyI cyZ q (nI N) st v mk w s s.heap := hX
  have hl : lv_has ls 3 [(0, .ref (q 0))] := hl
  have hN := hok.1
  refine lv_iconst (v := 0) hx hb dX0_returns_0 (by decide) ?_
  refine lv_istore_n (lv' := [(1, .int 0), (0, .ref (q 0))]) hx hb dX0_returns_1 rfl hl (by decide) rfl (fun ls hl => ?_)
  refine lv_iconst (v := 0) hx hb dX0_returns_2 (by decide) ?_
  refine lv_istore_n (lv' := [(2, .int 0), (1, .int 0), (0, .ref (q 0))]) hx hb dX0_returns_3 rfl hl (by decide) rfl (fun ls hl => ?_)
  refine lpW (σ := Nat) (fun j ls => (j ≤ N) ∧ lv_has ls 3 [(0, .ref (q 0)), (1, .int (ctB (rtP v) j)), (2, .int (nI j))]) (fun j => N - j) (fun j ls hI ih => ?_) (0) ⟨by omega, lv_sub hl [2, 1, 0] rfl⟩
  obtain ⟨hj, hl⟩ := hI
  refine lv_iload_n hx hb dX0_returns_4 rfl (lv_at hl 2 rfl) ?_
  refine lv_aload_n hx hb dX0_returns_5 rfl (lv_at hl 0 rfl) ?_
  refine C0.get hF hX 5 (by decide) rfl rfl kf_RX0_59 dX0_returns_6 ?_
  refine lv_icmp_ge (tgt := 29) hx hb dX0_returns_9 (by decide) (fun c9 => ?_) (fun c9 => ?_)
  · have c9n : N ≤ j := (nI_leI (a := N) (b := j) (by omega) (by omega)).mp c9
    obtain rfl : j = N := by omega
    refine lv_iload_n hx hb dX0_returns_29 rfl (lv_at hl 1 rfl) ?_
    exact W.iret hx hb hr (fun t ht hW => ⟨_, rfl, rfl, ht⟩) (fun q hq => absurd hq List.not_mem_nil) dX0_returns_30
  · have c9n : ¬ N ≤ j := fun h9 => c9 ((nI_leI (a := N) (b := j) (by omega) (by omega)).mpr h9)
    refine lv_aload_n hx hb dX0_returns_12 rfl (lv_at hl 0 rfl) ?_
    refine lv_iload_n hx hb dX0_returns_13 rfl (lv_at hl 2 rfl) ?_
    refine cVi (As := [.int (nI j)]) (rest := []) hF (mX0_endsWhereItWas hok hde j (by omega)) C0.mv hX (C0.rc hX) jyX0_endsWhereItWas kl_RX0_111 ⟨rfl, rfl⟩ ⟨Nat.le_of_ble_eq_true rfl, Nat.le_of_ble_eq_true rfl⟩ rfl hl.1 rfl (Nat.le_of_ble_eq_true rfl) ⟨Nat.zero_le _, Nat.zero_le _⟩ dX0_returns_14 (fun r hr9 => ?_)
    subst hr9
    refine lv_if_eq (tgt := 23) hx hb dX0_returns_17 (by decide) (fun c17 => ?_) (fun c17 => ?_)
    · have c17b := b2i_f c17
      refine lv_iinc (v := (nI (j + 1))) (lv' := [(2, .int (nI (j + 1))), (0, .ref (q 0)), (1, .int (ctB (rtP v) j))]) hx hb dX0_returns_23 hl (k := 2) rfl (nI_1 _) (by decide) rfl (fun ls hl => ?_)
      refine lv_goto (tgt := 4) hx hb dX0_returns_26 (by decide) ?_
      exact ih (j + 1) ls (by omega) ⟨by omega, by rw [ctB_f c17b]; exact lv_sub hl [1, 2, 0] rfl⟩
    · have c17b := b2i_t c17
      refine lv_iinc (v := ((ctB (rtP v) j) + 1)) (lv' := [(1, .int ((ctB (rtP v) j) + 1)), (0, .ref (q 0)), (2, .int (nI j))]) hx hb dX0_returns_20 hl (k := 1) rfl (rfl) (by decide) rfl (fun ls hl => ?_)
      refine lv_iinc (v := (nI (j + 1))) (lv' := [(2, .int (nI (j + 1))), (1, .int ((ctB (rtP v) j) + 1)), (0, .ref (q 0))]) hx hb dX0_returns_23 hl (k := 2) rfl (nI_1 _) (by decide) rfl (fun ls hl => ?_)
      refine lv_goto (tgt := 4) hx hb dX0_returns_26 (by decide) ?_
      exact ih (j + 1) ls (by omega) ⟨by omega, by rw [ctB_t c17b]; exact lv_sub hl [2, 1, 0] rfl⟩
set_option maxHeartbeats 4000000 in
set_option maxRecDepth 100000 in
theorem mX0_turnOf (hok : Ok N st v) (hde : Der N st v w) (i : Nat) (hi : i < N) : Met l yX0_turnOf (wm yX0_turnOf cX0_turnOf 2 (some .int)) ({ frames := 1, cells := 0, slots := 0, locals := 21 } : Room) (va_Pc [.ref (q 0), .int (nI i)] (fun U => C0 D cyI cyZ q (nI N) st v mk w U U.heap)) (vp_Si (fun r => r = v 0 i)) 0 0 (fun _ => False) := by
  refine mt (by decide) (Nat.le_of_ble_eq_true rfl) ?_
  intro p ev s m below meth c ls hF hr hlocks hnm hX hl
  have hF : CallFix p m c cX0_turnOf 2 s _ wA RX0 := hF
  obtain ⟨hx, hb, hml, hown, hts⟩ := id hF
  have hX : C0 D cyI cyZ q (nI N) st v mk w s s.heap := hX
  have hl : lv_has ls 2 [(0, .ref (q 0)), (1, .int (nI i))] := hl
  have hN := hok.1
  refine lv_aload_n hx hb dX0_turnOf_0 rfl (lv_at hl 0 rfl) ?_
  refine lv_iload_n hx hb dX0_turnOf_1 rfl (lv_at hl 1 rfl) ?_
  refine cVv (As := [.int (nI i)]) (rest := []) hF (mX0_checkLeg i (by omega) (by omega)) C0.mv hX (C0.rc hX) jyX0_checkLeg kl_RX0_72 ⟨rfl, rfl⟩ ⟨Nat.le_of_ble_eq_true rfl, Nat.le_of_ble_eq_true rfl⟩ rfl hl.1 rfl (Nat.le_of_ble_eq_true rfl) ⟨Nat.zero_le _, Nat.zero_le _⟩ dX0_turnOf_2 ?_
  refine lv_aload_n hx hb dX0_turnOf_5 rfl (lv_at hl 0 rfl) ?_
  refine C0.get hF hX 0 (by decide) rfl rfl kf_RX0_9 dX0_turnOf_6 ?_
  refine lv_iload_n hx hb dX0_turnOf_9 rfl (lv_at hl 1 rfl) ?_
  refine aldI hF hX.2.1 hX.1 1 0 rfl rfl i (by omega) (by decide) rfl dX0_turnOf_10 ?_
  exact W.iret hx hb hr (fun t ht hW => ⟨_, rfl, rfl, ht⟩) (fun q hq => absurd hq List.not_mem_nil) dX0_turnOf_11
set_option maxHeartbeats 4000000 in
set_option maxRecDepth 100000 in
theorem mX0_headingOf (hok : Ok N st v) (hde : Der N st v w) (i : Nat) (hi : i < N) : Met l yX0_headingOf (wm yX0_headingOf cX0_headingOf 2 (some .int)) ({ frames := 1, cells := 0, slots := 0, locals := 21 } : Room) (va_Pc [.ref (q 0), .int (nI i)] (fun U => C0 D cyI cyZ q (nI N) st v mk w U U.heap)) (vp_Si (fun r => r = hd (v 0) (i + 1))) 0 0 (fun _ => False) := by
  refine mt (by decide) (Nat.le_of_ble_eq_true rfl) ?_
  intro p ev s m below meth c ls hF hr hlocks hnm hX hl
  have hF : CallFix p m c cX0_headingOf 2 s _ wA RX0 := hF
  obtain ⟨hx, hb, hml, hown, hts⟩ := id hF
  have hX : C0 D cyI cyZ q (nI N) st v mk w s s.heap := hX
  have hl : lv_has ls 2 [(0, .ref (q 0)), (1, .int (nI i))] := hl
  have hN := hok.1
  refine lv_aload_n hx hb dX0_headingOf_0 rfl (lv_at hl 0 rfl) ?_
  refine lv_iload_n hx hb dX0_headingOf_1 rfl (lv_at hl 1 rfl) ?_
  refine cVv (As := [.int (nI i)]) (rest := []) hF (mX0_checkLeg i (by omega) (by omega)) C0.mv hX (C0.rc hX) jyX0_checkLeg kl_RX0_72 ⟨rfl, rfl⟩ ⟨Nat.le_of_ble_eq_true rfl, Nat.le_of_ble_eq_true rfl⟩ rfl hl.1 rfl (Nat.le_of_ble_eq_true rfl) ⟨Nat.zero_le _, Nat.zero_le _⟩ dX0_headingOf_2 ?_
  refine lv_aload_n hx hb dX0_headingOf_5 rfl (lv_at hl 0 rfl) ?_
  refine C0.get hF hX 7 (by decide) rfl rfl kf_RX0_26 dX0_headingOf_6 ?_
  refine lv_iload_n hx hb dX0_headingOf_9 rfl (lv_at hl 1 rfl) ?_
  refine aldI hF hX.2.1 hX.1 6 0 rfl rfl i (by omega) (by decide) rfl dX0_headingOf_10 ?_
  exact W.iret hx hb hr (fun t ht hW => ⟨_, rfl, (hde i hi).1, ht⟩) (fun q hq => absurd hq List.not_mem_nil) dX0_headingOf_11
set_option maxHeartbeats 4000000 in
set_option maxRecDepth 100000 in
theorem mX0_landmarkOf (hok : Ok N st v) (hde : Der N st v w) (i : Nat) (hi : i < N) : Met l yX0_landmarkOf (wm yX0_landmarkOf cX0_landmarkOf 2 (some .int)) ({ frames := 1, cells := 0, slots := 0, locals := 21 } : Room) (va_Pc [.ref (q 0), .int (nI i)] (fun U => C0 D cyI cyZ q (nI N) st v mk w U U.heap)) (vp_Si (fun r => r = v 2 i)) 0 0 (fun _ => False) := by
  refine mt (by decide) (Nat.le_of_ble_eq_true rfl) ?_
  intro p ev s m below meth c ls hF hr hlocks hnm hX hl
  have hF : CallFix p m c cX0_landmarkOf 2 s _ wA RX0 := hF
  obtain ⟨hx, hb, hml, hown, hts⟩ := id hF
  have hX : C0 D cyI cyZ q (nI N) st v mk w s s.heap := hX
  have hl : lv_has ls 2 [(0, .ref (q 0)), (1, .int (nI i))] := hl
  have hN := hok.1
  refine lv_aload_n hx hb dX0_landmarkOf_0 rfl (lv_at hl 0 rfl) ?_
  refine lv_iload_n hx hb dX0_landmarkOf_1 rfl (lv_at hl 1 rfl) ?_
  refine cVv (As := [.int (nI i)]) (rest := []) hF (mX0_checkLeg i (by omega) (by omega)) C0.mv hX (C0.rc hX) jyX0_checkLeg kl_RX0_72 ⟨rfl, rfl⟩ ⟨Nat.le_of_ble_eq_true rfl, Nat.le_of_ble_eq_true rfl⟩ rfl hl.1 rfl (Nat.le_of_ble_eq_true rfl) ⟨Nat.zero_le _, Nat.zero_le _⟩ dX0_landmarkOf_2 ?_
  refine lv_aload_n hx hb dX0_landmarkOf_5 rfl (lv_at hl 0 rfl) ?_
  refine C0.get hF hX 2 (by decide) rfl rfl kf_RX0_16 dX0_landmarkOf_6 ?_
  refine lv_iload_n hx hb dX0_landmarkOf_9 rfl (lv_at hl 1 rfl) ?_
  refine aldI hF hX.2.1 hX.1 3 0 rfl rfl i (by omega) (by decide) rfl dX0_landmarkOf_10 ?_
  exact W.iret hx hb hr (fun t ht hW => ⟨_, rfl, rfl, ht⟩) (fun q hq => absurd hq List.not_mem_nil) dX0_landmarkOf_11
set_option maxHeartbeats 4000000 in
set_option maxRecDepth 100000 in
theorem mX0_noteOf (hok : Ok N st v) (hde : Der N st v w) (i : Nat) (hi : i < N) : Met l yX0_noteOf (wm yX0_noteOf cX0_noteOf 2 (some .int)) ({ frames := 1, cells := 0, slots := 0, locals := 21 } : Room) (va_Pc [.ref (q 0), .int (nI i)] (fun U => C0 D cyI cyZ q (nI N) st v mk w U U.heap)) (vp_Si (fun r => r = nt (v 0) st (i + 1))) 0 0 (fun _ => False) := by
  refine mt (by decide) (Nat.le_of_ble_eq_true rfl) ?_
  intro p ev s m below meth c ls hF hr hlocks hnm hX hl
  have hF : CallFix p m c cX0_noteOf 2 s _ wA RX0 := hF
  obtain ⟨hx, hb, hml, hown, hts⟩ := id hF
  have hX : C0 D cyI cyZ q (nI N) st v mk w s s.heap := hX
  have hl : lv_has ls 2 [(0, .ref (q 0)), (1, .int (nI i))] := hl
  have hN := hok.1
  refine lv_aload_n hx hb dX0_noteOf_0 rfl (lv_at hl 0 rfl) ?_
  refine lv_iload_n hx hb dX0_noteOf_1 rfl (lv_at hl 1 rfl) ?_
  refine cVv (As := [.int (nI i)]) (rest := []) hF (mX0_checkLeg i (by omega) (by omega)) C0.mv hX (C0.rc hX) jyX0_checkLeg kl_RX0_72 ⟨rfl, rfl⟩ ⟨Nat.le_of_ble_eq_true rfl, Nat.le_of_ble_eq_true rfl⟩ rfl hl.1 rfl (Nat.le_of_ble_eq_true rfl) ⟨Nat.zero_le _, Nat.zero_le _⟩ dX0_noteOf_2 ?_
  refine lv_aload_n hx hb dX0_noteOf_5 rfl (lv_at hl 0 rfl) ?_
  refine C0.get hF hX 10 (by decide) rfl rfl kf_RX0_35 dX0_noteOf_6 ?_
  refine lv_iload_n hx hb dX0_noteOf_9 rfl (lv_at hl 1 rfl) ?_
  refine aldI hF hX.2.1 hX.1 9 0 rfl rfl i (by omega) (by decide) rfl dX0_noteOf_10 ?_
  exact W.iret hx hb hr (fun t ht hW => ⟨_, rfl, (hde i hi).2.2.2, ht⟩) (fun q hq => absurd hq List.not_mem_nil) dX0_noteOf_11
set_option maxHeartbeats 4000000 in
set_option maxRecDepth 100000 in
theorem mX0_isFolded (hok : Ok N st v) (hde : Der N st v w) (i : Nat) (hi : i < N) : Met l yX0_isFolded (wm yX0_isFolded cX0_isFolded 2 (some .boolean)) ({ frames := 1, cells := 0, slots := 0, locals := 21 } : Room) (va_Pc [.ref (q 0), .int (nI i)] (fun U => C0 D cyI cyZ q (nI N) st v mk w U U.heap)) (vp_Si (fun r => r = b2i (fold1 v st i))) 0 0 (fun _ => False) := by
  refine mt (by decide) (Nat.le_of_ble_eq_true rfl) ?_
  intro p ev s m below meth c ls hF hr hlocks hnm hX hl
  have hF : CallFix p m c cX0_isFolded 2 s _ wA RX0 := hF
  obtain ⟨hx, hb, hml, hown, hts⟩ := id hF
  have hX : C0 D cyI cyZ q (nI N) st v mk w s s.heap := hX
  have hl : lv_has ls 2 [(0, .ref (q 0)), (1, .int (nI i))] := hl
  have hN := hok.1
  refine lv_aload_n hx hb dX0_isFolded_0 rfl (lv_at hl 0 rfl) ?_
  refine lv_iload_n hx hb dX0_isFolded_1 rfl (lv_at hl 1 rfl) ?_
  refine cVv (As := [.int (nI i)]) (rest := []) hF (mX0_checkLeg i (by omega) (by omega)) C0.mv hX (C0.rc hX) jyX0_checkLeg kl_RX0_72 ⟨rfl, rfl⟩ ⟨Nat.le_of_ble_eq_true rfl, Nat.le_of_ble_eq_true rfl⟩ rfl hl.1 rfl (Nat.le_of_ble_eq_true rfl) ⟨Nat.zero_le _, Nat.zero_le _⟩ dX0_isFolded_2 ?_
  refine lv_aload_n hx hb dX0_isFolded_5 rfl (lv_at hl 0 rfl) ?_
  refine lv_iload_n hx hb dX0_isFolded_6 rfl (lv_at hl 1 rfl) ?_
  refine cVi (As := [.int (nI i)]) (rest := []) hF (mX0_noteAhead i hde (by omega) (by omega)) C0.mv hX (C0.rc hX) jyX0_noteAhead kl_RX0_114 ⟨rfl, rfl⟩ ⟨Nat.le_of_ble_eq_true rfl, Nat.le_of_ble_eq_true rfl⟩ rfl hl.1 rfl (Nat.le_of_ble_eq_true rfl) ⟨Nat.zero_le _, Nat.zero_le _⟩ dX0_isFolded_7 (fun r hr9 => ?_)
  subst hr9
  refine lv_aload_n hx hb dX0_isFolded_10 rfl (lv_at hl 0 rfl) ?_
  refine C0.get hF hX 0 (by decide) rfl rfl kf_RX0_9 dX0_isFolded_11 ?_
  refine lv_iload_n hx hb dX0_isFolded_14 rfl (lv_at hl 1 rfl) ?_
  refine aldI hF hX.2.1 hX.1 1 0 rfl rfl i (by omega) (by decide) rfl dX0_isFolded_15 ?_
  refine lv_aload_n hx hb dX0_isFolded_16 rfl (lv_at hl 0 rfl) ?_
  refine C0.get hF hX 6 (by decide) rfl rfl kf_RX0_38 dX0_isFolded_17 ?_
  refine lv_imul hx hb dX0_isFolded_20 ?_
  refine lv_iadd hx hb dX0_isFolded_21 ?_
  refine cSi (As := [.int ((nt (v 0) st i) + ((v 0 i) * st))]) (rest := []) hF (mX0_leavesVoice ((nt (v 0) st i) + ((v 0 i) * st))) Mv.const trivial jyX0_leavesVoice kl_RX0_117 ⟨rfl, rfl⟩ ⟨Nat.le_of_ble_eq_true rfl, Nat.le_of_ble_eq_true rfl⟩ rfl hl.1 rfl (Nat.le_of_ble_eq_true rfl) ⟨Nat.zero_le _, Nat.zero_le _⟩ dX0_isFolded_22 (fun r hr9 => ?_)
  subst hr9
  exact W.zret hx hb hr b2i_nar (fun t ht hW => ⟨_, rfl, rfl, ht⟩) (fun q hq => absurd hq List.not_mem_nil) dX0_isFolded_25
set_option maxHeartbeats 4000000 in
set_option maxRecDepth 100000 in
theorem mX0_wordIn (hok : Ok N st v) (hde : Der N st v w) (i : Nat) (hi : i < N) : Met l yX0_wordIn (wm yX0_wordIn cX0_wordIn 2 (some .int)) ({ frames := 1, cells := 0, slots := 0, locals := 21 } : Room) (va_Pc [.ref (q 0), .int (nI i)] (fun U => C0 D cyI cyZ q (nI N) st v mk w U U.heap)) (vp_Si (fun r => r = wd v i)) 0 0 (fun _ => False) := by
  refine mt (by decide) (Nat.le_of_ble_eq_true rfl) ?_
  intro p ev s m below meth c ls hF hr hlocks hnm hX hl
  have hF : CallFix p m c cX0_wordIn 2 s _ wA RX0 := hF
  obtain ⟨hx, hb, hml, hown, hts⟩ := id hF
  have hX : C0 D cyI cyZ q (nI N) st v mk w s s.heap := hX
  have hl : lv_has ls 2 [(0, .ref (q 0)), (1, .int (nI i))] := hl
  have hN := hok.1
  refine lv_aload_n hx hb dX0_wordIn_0 rfl (lv_at hl 0 rfl) ?_
  refine lv_iload_n hx hb dX0_wordIn_1 rfl (lv_at hl 1 rfl) ?_
  refine cVv (As := [.int (nI i)]) (rest := []) hF (mX0_checkLeg i (by omega) (by omega)) C0.mv hX (C0.rc hX) jyX0_checkLeg kl_RX0_72 ⟨rfl, rfl⟩ ⟨Nat.le_of_ble_eq_true rfl, Nat.le_of_ble_eq_true rfl⟩ rfl hl.1 rfl (Nat.le_of_ble_eq_true rfl) ⟨Nat.zero_le _, Nat.zero_le _⟩ dX0_wordIn_2 ?_
  refine lv_aload_n hx hb dX0_wordIn_5 rfl (lv_at hl 0 rfl) ?_
  refine C0.get hF hX 4 (by decide) rfl rfl kf_RX0_23 dX0_wordIn_6 ?_
  refine lv_aload_n hx hb dX0_wordIn_9 rfl (lv_at hl 0 rfl) ?_
  refine C0.get hF hX 2 (by decide) rfl rfl kf_RX0_16 dX0_wordIn_10 ?_
  refine lv_iload_n hx hb dX0_wordIn_13 rfl (lv_at hl 1 rfl) ?_
  refine aldI hF hX.2.1 hX.1 3 0 rfl rfl i (by omega) (by decide) rfl dX0_wordIn_14 ?_
  refine aldI hF hX.2.1 hX.1 5 0 rfl rfl (ix (v 2 i)) (okM10 hok i) (by decide) (okM hok i) dX0_wordIn_15 ?_
  exact W.iret hx hb hr (fun t ht hW => ⟨_, rfl, rfl, ht⟩) (fun q hq => absurd hq List.not_mem_nil) dX0_wordIn_16
set_option maxHeartbeats 4000000 in
set_option maxRecDepth 100000 in
theorem mX0_wordOf (j : Nat) (hj : j < 10) : Met l yX0_wordOf (wm yX0_wordOf cX0_wordOf 2 (some .int)) ({ frames := 2, cells := 0, slots := 0, locals := 40 } : Room) (va_Pc [.ref (q 0), .int (nI j)] (fun U => C0 D cyI cyZ q (nI N) st v mk w U U.heap)) (vp_Si (fun r => r = v 3 j)) 0 0 (fun _ => False) := by
  refine mt (by decide) (Nat.le_of_ble_eq_true rfl) ?_
  intro p ev s m below meth c ls hF hr hlocks hnm hX hl
  have hF : CallFix p m c cX0_wordOf 2 s _ wA RX0 := hF
  obtain ⟨hx, hb, hml, hown, hts⟩ := id hF
  have hX : C0 D cyI cyZ q (nI N) st v mk w s s.heap := hX
  have hl : lv_has ls 2 [(0, .ref (q 0)), (1, .int (nI j))] := hl
  refine lv_iload_n hx hb dX0_wordOf_0 rfl (lv_at hl 1 rfl) ?_
  refine cSv (As := [.int (nI j)]) (rest := []) hF (mX0_checkLandmark j (by omega)) Mv.const trivial jyX0_checkLandmark kl_RX0_78 ⟨rfl, rfl⟩ ⟨Nat.le_of_ble_eq_true rfl, Nat.le_of_ble_eq_true rfl⟩ rfl hl.1 rfl (Nat.le_of_ble_eq_true rfl) ⟨Nat.zero_le _, Nat.zero_le _⟩ dX0_wordOf_1 ?_
  refine lv_aload_n hx hb dX0_wordOf_4 rfl (lv_at hl 0 rfl) ?_
  refine C0.get hF hX 4 (by decide) rfl rfl kf_RX0_23 dX0_wordOf_5 ?_
  refine lv_iload_n hx hb dX0_wordOf_8 rfl (lv_at hl 1 rfl) ?_
  refine aldI hF hX.2.1 hX.1 5 0 rfl rfl j (by omega) (by decide) rfl dX0_wordOf_9 ?_
  exact W.iret hx hb hr (fun t ht hW => ⟨_, rfl, rfl, ht⟩) (fun q hq => absurd hq List.not_mem_nil) dX0_wordOf_10
set_option maxHeartbeats 4000000 in
set_option maxRecDepth 100000 in
theorem mX0_beats (hok : Ok N st v) (hde : Der N st v w) : Met l yX0_beats (wm yX0_beats cX0_beats 3 (some .int)) ({ frames := 0, cells := 0, slots := 0, locals := 0 } : Room) (va_Pc [.ref (q 0)] (fun U => C0 D cyI cyZ q (nI N) st v mk w U U.heap)) (vp_Si (fun r => r = sumI (v 1) N)) 0 0 (fun _ => False) := by
  refine mt (by decide) (Nat.le_of_ble_eq_true rfl) ?_
  intro p ev s m below meth c ls hF hr hlocks hnm hX hl
  have hF : CallFix p m c cX0_beats 3 s _ wA RX0 := hF
  obtain ⟨hx, hb, hml, hown, hts⟩ := id hF
  have hX : C0 D cyI cyZ q (nI N) st v mk w s s.heap := hX
  have hl : lv_has ls 3 [(0, .ref (q 0))] := hl
  have hN := hok.1
  refine lv_iconst (v := 0) hx hb dX0_beats_0 (by decide) ?_
  refine lv_istore_n (lv' := [(1, .int 0), (0, .ref (q 0))]) hx hb dX0_beats_1 rfl hl (by decide) rfl (fun ls hl => ?_)
  refine lv_iconst (v := 0) hx hb dX0_beats_2 (by decide) ?_
  refine lv_istore_n (lv' := [(2, .int 0), (1, .int 0), (0, .ref (q 0))]) hx hb dX0_beats_3 rfl hl (by decide) rfl (fun ls hl => ?_)
  refine lpW (σ := Nat) (fun j ls => (j ≤ N) ∧ lv_has ls 3 [(0, .ref (q 0)), (1, .int (sumI (v 1) j)), (2, .int (nI j))]) (fun j => N - j) (fun j ls hI ih => ?_) (0) ⟨by omega, lv_sub hl [2, 1, 0] rfl⟩
  obtain ⟨hj, hl⟩ := hI
  refine lv_iload_n hx hb dX0_beats_4 rfl (lv_at hl 2 rfl) ?_
  refine lv_aload_n hx hb dX0_beats_5 rfl (lv_at hl 0 rfl) ?_
  refine C0.get hF hX 5 (by decide) rfl rfl kf_RX0_59 dX0_beats_6 ?_
  refine lv_icmp_ge (tgt := 27) hx hb dX0_beats_9 (by decide) (fun c9 => ?_) (fun c9 => ?_)
  · have c9n : N ≤ j := (nI_leI (a := N) (b := j) (by omega) (by omega)).mp c9
    obtain rfl : j = N := by omega
    refine lv_iload_n hx hb dX0_beats_27 rfl (lv_at hl 1 rfl) ?_
    exact W.iret hx hb hr (fun t ht hW => ⟨_, rfl, rfl, ht⟩) (fun q hq => absurd hq List.not_mem_nil) dX0_beats_28
  · have c9n : ¬ N ≤ j := fun h9 => c9 ((nI_leI (a := N) (b := j) (by omega) (by omega)).mpr h9)
    refine lv_iload_n hx hb dX0_beats_12 rfl (lv_at hl 1 rfl) ?_
    refine lv_aload_n hx hb dX0_beats_13 rfl (lv_at hl 0 rfl) ?_
    refine C0.get hF hX 1 (by decide) rfl rfl kf_RX0_13 dX0_beats_14 ?_
    refine lv_iload_n hx hb dX0_beats_17 rfl (lv_at hl 2 rfl) ?_
    refine aldI hF hX.2.1 hX.1 2 0 rfl rfl j (by omega) (by decide) rfl dX0_beats_18 ?_
    refine lv_iadd hx hb dX0_beats_19 ?_
    refine lv_istore_n (lv' := [(1, .int ((sumI (v 1) j) + (v 1 j))), (0, .ref (q 0)), (2, .int (nI j))]) hx hb dX0_beats_20 rfl hl (by decide) rfl (fun ls hl => ?_)
    refine lv_iinc (v := (nI (j + 1))) (lv' := [(2, .int (nI (j + 1))), (1, .int ((sumI (v 1) j) + (v 1 j))), (0, .ref (q 0))]) hx hb dX0_beats_21 hl (k := 2) rfl (nI_1 _) (by decide) rfl (fun ls hl => ?_)
    refine lv_goto (tgt := 4) hx hb dX0_beats_24 (by decide) ?_
    exact ih (j + 1) ls (by omega) ⟨by omega, by exact lv_sub hl [2, 1, 0] rfl⟩
set_option maxHeartbeats 4000000 in
set_option maxRecDepth 100000 in
theorem mX0_folded (hok : Ok N st v) (hde : Der N st v w) : Met l yX0_folded (wm yX0_folded cX0_folded 3 (some .int)) ({ frames := 2, cells := 0, slots := 0, locals := 42 } : Room) (va_Pc [.ref (q 0)] (fun U => C0 D cyI cyZ q (nI N) st v mk w U U.heap)) (vp_Si (fun r => r = ctB (fold1 v st) N)) 0 0 (fun _ => False) := by
  refine mt (by decide) (Nat.le_of_ble_eq_true rfl) ?_
  intro p ev s m below meth c ls hF hr hlocks hnm hX hl
  have hF : CallFix p m c cX0_folded 3 s _ wA RX0 := hF
  obtain ⟨hx, hb, hml, hown, hts⟩ := id hF
  have hX : C0 D cyI cyZ q (nI N) st v mk w s s.heap := hX
  have hl : lv_has ls 3 [(0, .ref (q 0))] := hl
  have hN := hok.1
  refine lv_iconst (v := 0) hx hb dX0_folded_0 (by decide) ?_
  refine lv_istore_n (lv' := [(1, .int 0), (0, .ref (q 0))]) hx hb dX0_folded_1 rfl hl (by decide) rfl (fun ls hl => ?_)
  refine lv_iconst (v := 0) hx hb dX0_folded_2 (by decide) ?_
  refine lv_istore_n (lv' := [(2, .int 0), (1, .int 0), (0, .ref (q 0))]) hx hb dX0_folded_3 rfl hl (by decide) rfl (fun ls hl => ?_)
  refine lpW (σ := Nat) (fun j ls => (j ≤ N) ∧ lv_has ls 3 [(0, .ref (q 0)), (1, .int (ctB (fold1 v st) j)), (2, .int (nI j))]) (fun j => N - j) (fun j ls hI ih => ?_) (0) ⟨by omega, lv_sub hl [2, 1, 0] rfl⟩
  obtain ⟨hj, hl⟩ := hI
  refine lv_iload_n hx hb dX0_folded_4 rfl (lv_at hl 2 rfl) ?_
  refine lv_aload_n hx hb dX0_folded_5 rfl (lv_at hl 0 rfl) ?_
  refine C0.get hF hX 5 (by decide) rfl rfl kf_RX0_59 dX0_folded_6 ?_
  refine lv_icmp_ge (tgt := 29) hx hb dX0_folded_9 (by decide) (fun c9 => ?_) (fun c9 => ?_)
  · have c9n : N ≤ j := (nI_leI (a := N) (b := j) (by omega) (by omega)).mp c9
    obtain rfl : j = N := by omega
    refine lv_iload_n hx hb dX0_folded_29 rfl (lv_at hl 1 rfl) ?_
    exact W.iret hx hb hr (fun t ht hW => ⟨_, rfl, rfl, ht⟩) (fun q hq => absurd hq List.not_mem_nil) dX0_folded_30
  · have c9n : ¬ N ≤ j := fun h9 => c9 ((nI_leI (a := N) (b := j) (by omega) (by omega)).mpr h9)
    refine lv_aload_n hx hb dX0_folded_12 rfl (lv_at hl 0 rfl) ?_
    refine lv_iload_n hx hb dX0_folded_13 rfl (lv_at hl 2 rfl) ?_
    refine cVi (As := [.int (nI j)]) (rest := []) hF (mX0_isFolded hok hde j (by omega)) C0.mv hX (C0.rc hX) jyX0_isFolded kl_RX0_120 ⟨rfl, rfl⟩ ⟨Nat.le_of_ble_eq_true rfl, Nat.le_of_ble_eq_true rfl⟩ rfl hl.1 rfl (Nat.le_of_ble_eq_true rfl) ⟨Nat.zero_le _, Nat.zero_le _⟩ dX0_folded_14 (fun r hr9 => ?_)
    subst hr9
    refine lv_if_eq (tgt := 23) hx hb dX0_folded_17 (by decide) (fun c17 => ?_) (fun c17 => ?_)
    · have c17b := b2i_f c17
      refine lv_iinc (v := (nI (j + 1))) (lv' := [(2, .int (nI (j + 1))), (0, .ref (q 0)), (1, .int (ctB (fold1 v st) j))]) hx hb dX0_folded_23 hl (k := 2) rfl (nI_1 _) (by decide) rfl (fun ls hl => ?_)
      refine lv_goto (tgt := 4) hx hb dX0_folded_26 (by decide) ?_
      exact ih (j + 1) ls (by omega) ⟨by omega, by rw [ctB_f c17b]; exact lv_sub hl [1, 2, 0] rfl⟩
    · have c17b := b2i_t c17
      refine lv_iinc (v := ((ctB (fold1 v st) j) + 1)) (lv' := [(1, .int ((ctB (fold1 v st) j) + 1)), (0, .ref (q 0)), (2, .int (nI j))]) hx hb dX0_folded_20 hl (k := 1) rfl (rfl) (by decide) rfl (fun ls hl => ?_)
      refine lv_iinc (v := (nI (j + 1))) (lv' := [(2, .int (nI (j + 1))), (1, .int ((ctB (fold1 v st) j) + 1)), (0, .ref (q 0))]) hx hb dX0_folded_23 hl (k := 2) rfl (nI_1 _) (by decide) rfl (fun ls hl => ?_)
      refine lv_goto (tgt := 4) hx hb dX0_folded_26 (by decide) ?_
      exact ih (j + 1) ls (by omega) ⟨by omega, by rw [ctB_t c17b]; exact lv_sub hl [2, 1, 0] rfl⟩
set_option maxHeartbeats 4000000 in
set_option maxRecDepth 100000 in
theorem mX0_range (hok : Ok N st v) (hde : Der N st v w) : Met l yX0_range (wm yX0_range cX0_range 4 (some .int)) ({ frames := 1, cells := 0, slots := 0, locals := 13 } : Room) (va_Pc [.ref (q 0)] (fun U => C0 D cyI cyZ q (nI N) st v mk w U U.heap)) (vp_Si (fun r => r = rng v st N)) 0 0 (fun _ => False) := by
  refine mt (by decide) (Nat.le_of_ble_eq_true rfl) ?_
  intro p ev s m below meth c ls hF hr hlocks hnm hX hl
  have hF : CallFix p m c cX0_range 4 s _ wA RX0 := hF
  obtain ⟨hx, hb, hml, hown, hts⟩ := id hF
  have hX : C0 D cyI cyZ q (nI N) st v mk w s s.heap := hX
  have hl : lv_has ls 4 [(0, .ref (q 0))] := hl
  have hN := hok.1
  refine lv_aload_n hx hb dX0_range_0 rfl (lv_at hl 0 rfl) ?_
  refine C0.get hF hX 5 (by decide) rfl rfl kf_RX0_59 dX0_range_1 ?_
  refine lv_if_gt (tgt := 9) hx hb dX0_range_4 (by decide) (fun c4 => ?_) (fun c4 => ?_)
  · have c4n : 0 < N := (nI_ltI (a := 0) (b := N) (by omega) (by omega)).mp c4
    refine lv_aload_n hx hb dX0_range_9 rfl (lv_at hl 0 rfl) ?_
    refine C0.get hF hX 10 (by decide) rfl rfl kf_RX0_35 dX0_range_10 ?_
    refine lv_iconst (v := 0) hx hb dX0_range_13 (by decide) ?_
    refine aldI hF hX.2.1 hX.1 9 0 rfl rfl 0 (by omega) (by decide) rfl dX0_range_14 ?_
    refine topI (show (w 3 0) = lo9 (v 0) st 1 from (hde 0 (by omega)).2.2.2.trans (lo_1 hok).1) ?_
    refine lv_istore_n (lv' := [(1, .int (lo9 (v 0) st 1)), (0, .ref (q 0))]) hx hb dX0_range_15 rfl hl (by decide) rfl (fun ls hl => ?_)
    refine lv_aload_n hx hb dX0_range_16 rfl (lv_at hl 1 rfl) ?_
    refine C0.get hF hX 10 (by decide) rfl rfl kf_RX0_35 dX0_range_17 ?_
    refine lv_iconst (v := 0) hx hb dX0_range_20 (by decide) ?_
    refine aldI hF hX.2.1 hX.1 9 0 rfl rfl 0 (by omega) (by decide) rfl dX0_range_21 ?_
    refine topI (show (w 3 0) = hi9 (v 0) st 1 from (hde 0 (by omega)).2.2.2.trans (lo_1 hok).2) ?_
    refine lv_istore_n (lv' := [(2, .int (hi9 (v 0) st 1)), (1, .int (lo9 (v 0) st 1)), (0, .ref (q 0))]) hx hb dX0_range_22 rfl hl (by decide) rfl (fun ls hl => ?_)
    refine lv_iconst (v := 1) hx hb dX0_range_23 (by decide) ?_
    refine lv_istore_n (lv' := [(3, .int 1), (2, .int (hi9 (v 0) st 1)), (1, .int (lo9 (v 0) st 1)), (0, .ref (q 0))]) hx hb dX0_range_24 rfl hl (by decide) rfl (fun ls hl => ?_)
    refine lpW (σ := Nat) (fun j ls => (1 ≤ j ∧ j ≤ N) ∧ lv_has ls 4 [(0, .ref (q 0)), (1, .int (lo9 (v 0) st j)), (2, .int (hi9 (v 0) st j)), (3, .int (nI j))]) (fun j => N - j) (fun j ls hI ih => ?_) (1) ⟨⟨by omega, by omega⟩, lv_sub hl [3, 2, 1, 0] rfl⟩
    obtain ⟨hj, hl⟩ := hI
    refine lv_iload_n hx hb dX0_range_25 rfl (lv_at hl 3 rfl) ?_
    refine lv_aload_n hx hb dX0_range_26 rfl (lv_at hl 0 rfl) ?_
    refine C0.get hF hX 5 (by decide) rfl rfl kf_RX0_59 dX0_range_27 ?_
    refine lv_icmp_ge (tgt := 61) hx hb dX0_range_30 (by decide) (fun c30 => ?_) (fun c30 => ?_)
    · have c30n : N ≤ j := (nI_leI (a := N) (b := j) (by omega) (by omega)).mp c30
      obtain rfl : j = N := by omega
      refine lv_iload_n hx hb dX0_range_61 rfl (lv_at hl 2 rfl) ?_
      refine lv_iload_n hx hb dX0_range_62 rfl (lv_at hl 1 rfl) ?_
      refine lv_isub hx hb dX0_range_63 ?_
      exact W.iret hx hb hr (fun t ht hW => ⟨_, rfl, (rng_1 (by omega)), ht⟩) (fun q hq => absurd hq List.not_mem_nil) dX0_range_64
    · have c30n : ¬ N ≤ j := fun h9 => c30 ((nI_leI (a := N) (b := j) (by omega) (by omega)).mpr h9)
      refine lv_iload_n hx hb dX0_range_33 rfl (lv_at hl 1 rfl) ?_
      refine lv_aload_n hx hb dX0_range_34 rfl (lv_at hl 0 rfl) ?_
      refine C0.get hF hX 10 (by decide) rfl rfl kf_RX0_35 dX0_range_35 ?_
      refine lv_iload_n hx hb dX0_range_38 rfl (lv_at hl 3 rfl) ?_
      refine aldI hF hX.2.1 hX.1 9 0 rfl rfl j (by omega) (by decide) rfl dX0_range_39 ?_
      refine topI (show (w 3 j) = nt (v 0) st (j + 1) from (hde j (by omega)).2.2.2) ?_
      refine va_mmin hx hb (hml.trans hl.1.symm) hown (hts _ kl_RX0_123) (hts _ ks_LM_min_name) (hts _ kn_Math) (hts _ kd_LM_min_name) (Nat.le_of_ble_eq_true rfl) (Nat.le_of_ble_eq_true rfl) (Nat.zero_le _) (Nat.zero_le _) dX0_range_40 ?_
      refine lv_istore_n (lv' := [(1, .int (mn (lo9 (v 0) st j) (nt (v 0) st (j + 1)))), (0, .ref (q 0)), (2, .int (hi9 (v 0) st j)), (3, .int (nI j))]) hx hb dX0_range_43 rfl hl (by decide) rfl (fun ls hl => ?_)
      refine lv_iload_n hx hb dX0_range_44 rfl (lv_at hl 2 rfl) ?_
      refine lv_aload_n hx hb dX0_range_45 rfl (lv_at hl 1 rfl) ?_
      refine C0.get hF hX 10 (by decide) rfl rfl kf_RX0_35 dX0_range_46 ?_
      refine lv_iload_n hx hb dX0_range_49 rfl (lv_at hl 3 rfl) ?_
      refine aldI hF hX.2.1 hX.1 9 0 rfl rfl j (by omega) (by decide) rfl dX0_range_50 ?_
      refine topI (show (w 3 j) = nt (v 0) st (j + 1) from (hde j (by omega)).2.2.2) ?_
      refine va_mmax hx hb (hml.trans hl.1.symm) hown (hts _ kl_RX0_107) (hts _ ks_LM_max_name) (hts _ kn_Math) (hts _ kd_LM_max_name) (Nat.le_of_ble_eq_true rfl) (Nat.le_of_ble_eq_true rfl) (Nat.zero_le _) (Nat.zero_le _) dX0_range_51 ?_
      refine lv_istore_n (lv' := [(2, .int (mx (hi9 (v 0) st j) (nt (v 0) st (j + 1)))), (1, .int (mn (lo9 (v 0) st j) (nt (v 0) st (j + 1)))), (0, .ref (q 0)), (3, .int (nI j))]) hx hb dX0_range_54 rfl hl (by decide) rfl (fun ls hl => ?_)
      refine lv_iinc (v := (nI (j + 1))) (lv' := [(3, .int (nI (j + 1))), (2, .int (mx (hi9 (v 0) st j) (nt (v 0) st (j + 1)))), (1, .int (mn (lo9 (v 0) st j) (nt (v 0) st (j + 1)))), (0, .ref (q 0))]) hx hb dX0_range_55 hl (k := 3) rfl (nI_1 _) (by decide) rfl (fun ls hl => ?_)
      refine lv_goto (tgt := 25) hx hb dX0_range_58 (by decide) ?_
      exact ih (j + 1) ls (by omega) ⟨by omega, by exact lv_sub hl [3, 2, 1, 0] rfl⟩
  · have c4n : ¬ 0 < N := fun h9 => c4 ((nI_ltI (a := 0) (b := N) (by omega) (by omega)).mpr h9)
    refine lv_iconst (v := 0) hx hb dX0_range_7 (by decide) ?_
    exact W.iret hx hb hr (fun t ht hW => ⟨_, rfl, (rng_0 (by omega)), ht⟩) (fun q hq => absurd hq List.not_mem_nil) dX0_range_8
set_option maxHeartbeats 4000000 in
set_option maxRecDepth 100000 in
theorem mX0_sungWith (hok : Ok N st v) (hde : Der N st v w) (x : Nat) (hx10 : x < 10) : Met l yX0_sungWith (wm yX0_sungWith cX0_sungWith 4 (some .int)) ({ frames := 2, cells := 0, slots := 0, locals := 40 } : Room) (va_Pc [.ref (q 0), .int (nI x)] (fun U => C0 D cyI cyZ q (nI N) st v mk w U U.heap)) (vp_Si (fun r => r = sung v (nI x) N)) 0 0 (fun _ => False) := by
  refine mt (by decide) (Nat.le_of_ble_eq_true rfl) ?_
  intro p ev s m below meth c ls hF hr hlocks hnm hX hl
  have hF : CallFix p m c cX0_sungWith 4 s _ wA RX0 := hF
  obtain ⟨hx, hb, hml, hown, hts⟩ := id hF
  have hX : C0 D cyI cyZ q (nI N) st v mk w s s.heap := hX
  have hl : lv_has ls 4 [(0, .ref (q 0)), (1, .int (nI x))] := hl
  have hN := hok.1
  refine lv_iload_n hx hb dX0_sungWith_0 rfl (lv_at hl 1 rfl) ?_
  refine cSv (As := [.int (nI x)]) (rest := []) hF (mX0_checkWord x (by omega)) Mv.const trivial jyX0_checkWord kl_RX0_126 ⟨rfl, rfl⟩ ⟨Nat.le_of_ble_eq_true rfl, Nat.le_of_ble_eq_true rfl⟩ rfl hl.1 rfl (Nat.le_of_ble_eq_true rfl) ⟨Nat.zero_le _, Nat.zero_le _⟩ dX0_sungWith_1 ?_
  refine lv_iconst (v := 0) hx hb dX0_sungWith_4 (by decide) ?_
  refine lv_istore_n (lv' := [(2, .int 0), (0, .ref (q 0)), (1, .int (nI x))]) hx hb dX0_sungWith_5 rfl hl (by decide) rfl (fun ls hl => ?_)
  refine lv_iconst (v := 0) hx hb dX0_sungWith_6 (by decide) ?_
  refine lv_istore_n (lv' := [(3, .int 0), (2, .int 0), (0, .ref (q 0)), (1, .int (nI x))]) hx hb dX0_sungWith_7 rfl hl (by decide) rfl (fun ls hl => ?_)
  refine lpW (σ := Nat) (fun j ls => (j ≤ N) ∧ lv_has ls 4 [(0, .ref (q 0)), (1, .int (nI x)), (2, .int (ctB (sgP v (nI x)) j)), (3, .int (nI j))]) (fun j => N - j) (fun j ls hI ih => ?_) (0) ⟨by omega, lv_sub hl [2, 3, 1, 0] rfl⟩
  obtain ⟨hj, hl⟩ := hI
  refine lv_iload_n hx hb dX0_sungWith_8 rfl (lv_at hl 3 rfl) ?_
  refine lv_aload_n hx hb dX0_sungWith_9 rfl (lv_at hl 0 rfl) ?_
  refine C0.get hF hX 5 (by decide) rfl rfl kf_RX0_59 dX0_sungWith_10 ?_
  refine lv_icmp_ge (tgt := 40) hx hb dX0_sungWith_13 (by decide) (fun c13 => ?_) (fun c13 => ?_)
  · have c13n : N ≤ j := (nI_leI (a := N) (b := j) (by omega) (by omega)).mp c13
    obtain rfl : j = N := by omega
    refine lv_iload_n hx hb dX0_sungWith_40 rfl (lv_at hl 2 rfl) ?_
    exact W.iret hx hb hr (fun t ht hW => ⟨_, rfl, rfl, ht⟩) (fun q hq => absurd hq List.not_mem_nil) dX0_sungWith_41
  · have c13n : ¬ N ≤ j := fun h9 => c13 ((nI_leI (a := N) (b := j) (by omega) (by omega)).mpr h9)
    refine lv_aload_n hx hb dX0_sungWith_16 rfl (lv_at hl 0 rfl) ?_
    refine C0.get hF hX 4 (by decide) rfl rfl kf_RX0_23 dX0_sungWith_17 ?_
    refine lv_aload_n hx hb dX0_sungWith_20 rfl (lv_at hl 0 rfl) ?_
    refine C0.get hF hX 2 (by decide) rfl rfl kf_RX0_16 dX0_sungWith_21 ?_
    refine lv_iload_n hx hb dX0_sungWith_24 rfl (lv_at hl 3 rfl) ?_
    refine aldI hF hX.2.1 hX.1 3 0 rfl rfl j (by omega) (by decide) rfl dX0_sungWith_25 ?_
    refine aldI hF hX.2.1 hX.1 5 0 rfl rfl (ix (v 2 j)) (okM10 hok j) (by decide) (okM hok j) dX0_sungWith_26 ?_
    refine lv_iload_n hx hb dX0_sungWith_27 rfl (lv_at hl 1 rfl) ?_
    refine lv_icmp_ne (tgt := 34) hx hb dX0_sungWith_28 (by decide) (fun c28 => ?_) (fun c28 => ?_)
    · refine lv_iinc (v := (nI (j + 1))) (lv' := [(3, .int (nI (j + 1))), (0, .ref (q 0)), (1, .int (nI x)), (2, .int (ctB (sgP v (nI x)) j))]) hx hb dX0_sungWith_34 hl (k := 3) rfl (nI_1 _) (by decide) rfl (fun ls hl => ?_)
      refine lv_goto (tgt := 8) hx hb dX0_sungWith_37 (by decide) ?_
      exact ih (j + 1) ls (by omega) ⟨by omega, by rw [ctB_f (sgP_f c28)]; exact lv_sub hl [1, 2, 3, 0] rfl⟩
    · refine lv_iinc (v := ((ctB (sgP v (nI x)) j) + 1)) (lv' := [(2, .int ((ctB (sgP v (nI x)) j) + 1)), (0, .ref (q 0)), (1, .int (nI x)), (3, .int (nI j))]) hx hb dX0_sungWith_31 hl (k := 2) rfl (rfl) (by decide) rfl (fun ls hl => ?_)
      refine lv_iinc (v := (nI (j + 1))) (lv' := [(3, .int (nI (j + 1))), (2, .int ((ctB (sgP v (nI x)) j) + 1)), (0, .ref (q 0)), (1, .int (nI x))]) hx hb dX0_sungWith_34 hl (k := 3) rfl (nI_1 _) (by decide) rfl (fun ls hl => ?_)
      refine lv_goto (tgt := 8) hx hb dX0_sungWith_37 (by decide) ?_
      exact ih (j + 1) ls (by omega) ⟨by omega, by rw [ctB_t (sgP_t c28)]; exact lv_sub hl [2, 3, 1, 0] rfl⟩
end P11
end
section
section P12
variable {l : Launch} {D : va_G} {cyI cyZ : ClassId} {q : Nat → Nat} {N K : Nat} {n st th md : Int32} {v w : Nat → Nat → Int32} {mk : Nat → Bool}
set_option maxHeartbeats 4000000 in
set_option maxRecDepth 100000 in
theorem mX0_readings (hok : Ok N st v) (hde : Der N st v w) (i : Nat) (hi : i < N) : Met l yX0_readings (wm yX0_readings cX0_readings 3 (some .int)) ({ frames := 3, cells := 0, slots := 0, locals := 67 } : Room) (va_Pc [.ref (q 0), .int (nI i)] (fun U => C0 D cyI cyZ q (nI N) st v mk w U U.heap)) (vp_Si (fun r => r = rdn v st i)) 0 0 (fun _ => False) := by
  refine mt (by decide) (Nat.le_of_ble_eq_true rfl) ?_
  intro p ev s m below meth c ls hF hr hlocks hnm hX hl
  have hF : CallFix p m c cX0_readings 3 s _ wA RX0 := hF
  obtain ⟨hx, hb, hml, hown, hts⟩ := id hF
  have hX : C0 D cyI cyZ q (nI N) st v mk w s s.heap := hX
  have hl : lv_has ls 3 [(0, .ref (q 0)), (1, .int (nI i))] := hl
  have hN := hok.1
  refine lv_aload_n hx hb dX0_readings_0 rfl (lv_at hl 0 rfl) ?_
  refine lv_iload_n hx hb dX0_readings_1 rfl (lv_at hl 1 rfl) ?_
  refine cVv (As := [.int (nI i)]) (rest := []) hF (mX0_checkLeg i (by omega) (by omega)) C0.mv hX (C0.rc hX) jyX0_checkLeg kl_RX0_72 ⟨rfl, rfl⟩ ⟨Nat.le_of_ble_eq_true rfl, Nat.le_of_ble_eq_true rfl⟩ rfl hl.1 rfl (Nat.le_of_ble_eq_true rfl) ⟨Nat.zero_le _, Nat.zero_le _⟩ dX0_readings_2 ?_
  refine lv_aload_n hx hb dX0_readings_5 rfl (lv_at hl 0 rfl) ?_
  refine C0.get hF hX 10 (by decide) rfl rfl kf_RX0_35 dX0_readings_6 ?_
  refine lv_iload_n hx hb dX0_readings_9 rfl (lv_at hl 1 rfl) ?_
  refine aldI hF hX.2.1 hX.1 9 0 rfl rfl i (by omega) (by decide) rfl dX0_readings_10 ?_
  refine lv_aload_n hx hb dX0_readings_11 rfl (lv_at hl 0 rfl) ?_
  refine lv_iload_n hx hb dX0_readings_12 rfl (lv_at hl 1 rfl) ?_
  refine cVi (As := [.int (nI i)]) (rest := [.int (w 3 i)]) hF (mX0_noteAhead i hde (by omega) (by omega)) C0.mv hX (C0.rc hX) jyX0_noteAhead kl_RX0_114 ⟨rfl, rfl⟩ ⟨Nat.le_of_ble_eq_true rfl, Nat.le_of_ble_eq_true rfl⟩ rfl hl.1 rfl (Nat.le_of_ble_eq_true rfl) ⟨Nat.zero_le _, Nat.zero_le _⟩ dX0_readings_13 (fun r hr9 => ?_)
  subst hr9
  refine lv_aload_n hx hb dX0_readings_16 rfl (lv_at hl 0 rfl) ?_
  refine C0.get hF hX 6 (by decide) rfl rfl kf_RX0_38 dX0_readings_17 ?_
  refine lv_iconst (v := (nI 7 - 3)) hx hb dX0_readings_20 (by decide) ?_
  refine cSi (As := [.int (w 3 i), .int (nt (v 0) st i), .int st, .int (nI 7 - 3)]) (rest := []) hF (mX0_turnsSungAs (w 3 i) (nt (v 0) st i) 7 (by omega)) Mv.const trivial jyX0_turnsSungAs kl_RX0_129 ⟨rfl, rfl⟩ ⟨Nat.le_of_ble_eq_true rfl, Nat.le_of_ble_eq_true rfl⟩ rfl hl.1 rfl (Nat.le_of_ble_eq_true rfl) ⟨Nat.zero_le _, Nat.zero_le _⟩ dX0_readings_21 (fun r hr9 => ?_)
  subst hr9
  refine lv_istore_n (lv' := [(2, .int (tsa (w 3 i) (nt (v 0) st i) st 7)), (0, .ref (q 0)), (1, .int (nI i))]) hx hb dX0_readings_24 rfl hl (by decide) rfl (fun ls hl => ?_)
  refine lv_iload_n hx hb dX0_readings_25 rfl (lv_at hl 0 rfl) ?_
  refine lv_aload_n hx hb dX0_readings_26 rfl (lv_at hl 1 rfl) ?_
  refine lv_aload_n hx hb dX0_readings_27 rfl (lv_at hl 1 rfl) ?_
  refine C0.get hF hX 4 (by decide) rfl rfl kf_RX0_23 dX0_readings_28 ?_
  refine lv_aload_n hx hb dX0_readings_31 rfl (lv_at hl 1 rfl) ?_
  refine C0.get hF hX 2 (by decide) rfl rfl kf_RX0_16 dX0_readings_32 ?_
  refine lv_iload_n hx hb dX0_readings_35 rfl (lv_at hl 2 rfl) ?_
  refine aldI hF hX.2.1 hX.1 3 0 rfl rfl i (by omega) (by decide) rfl dX0_readings_36 ?_
  refine aldI hF hX.2.1 hX.1 5 0 rfl rfl (ix (v 2 i)) (okM10 hok i) (by decide) (okM hok i) dX0_readings_37 ?_
  refine lv_bipush (v := (nI 10)) hx hb dX0_readings_38 (by decide) ?_
  refine cVi (As := [.int (v 3 (ix (v 2 i))), .int (nI 10)]) (rest := [.int (tsa (w 3 i) (nt (v 0) st i) st 7)]) hF (mX0_landmarksNamed (v 3 (ix (v 2 i))) 10 (by omega)) C0.mv hX (C0.rc hX) jyX0_landmarksNamed kl_RX0_133 ⟨rfl, rfl⟩ ⟨Nat.le_of_ble_eq_true rfl, Nat.le_of_ble_eq_true rfl⟩ rfl hl.1 rfl (Nat.le_of_ble_eq_true rfl) ⟨Nat.zero_le _, Nat.zero_le _⟩ dX0_readings_40 (fun r hr9 => ?_)
  subst hr9
  refine lv_imul hx hb dX0_readings_43 ?_
  exact W.iret hx hb hr (fun t ht hW => ⟨_, rfl, rdn_c hok hde hi, ht⟩) (fun q hq => absurd hq List.not_mem_nil) dX0_readings_44
set_option maxHeartbeats 4000000 in
set_option maxRecDepth 100000 in
theorem mX0_rightReading (hok : Ok N st v) (hde : Der N st v w) (i : Nat) (hi : i < N) : Met l yX0_rightReading (wm yX0_rightReading cX0_rightReading 4 (some .int)) ({ frames := 3, cells := 0, slots := 0, locals := 67 } : Room) (va_Pc [.ref (q 0), .int (nI i)] (fun U => C0 D cyI cyZ q (nI N) st v mk w U U.heap)) (vp_Si (fun r => r = rrn v st i)) 0 0 (fun _ => False) := by
  refine mt (by decide) (Nat.le_of_ble_eq_true rfl) ?_
  intro p ev s m below meth c ls hF hr hlocks hnm hX hl
  have hF : CallFix p m c cX0_rightReading 4 s _ wA RX0 := hF
  obtain ⟨hx, hb, hml, hown, hts⟩ := id hF
  have hX : C0 D cyI cyZ q (nI N) st v mk w s s.heap := hX
  have hl : lv_has ls 4 [(0, .ref (q 0)), (1, .int (nI i))] := hl
  have hN := hok.1
  obtain ⟨e, he, hve⟩ := hok.2.2.1 i
  refine lv_aload_n hx hb dX0_rightReading_0 rfl (lv_at hl 0 rfl) ?_
  refine lv_iload_n hx hb dX0_rightReading_1 rfl (lv_at hl 1 rfl) ?_
  refine cVv (As := [.int (nI i)]) (rest := []) hF (mX0_checkLeg i (by omega) (by omega)) C0.mv hX (C0.rc hX) jyX0_checkLeg kl_RX0_72 ⟨rfl, rfl⟩ ⟨Nat.le_of_ble_eq_true rfl, Nat.le_of_ble_eq_true rfl⟩ rfl hl.1 rfl (Nat.le_of_ble_eq_true rfl) ⟨Nat.zero_le _, Nat.zero_le _⟩ dX0_rightReading_2 ?_
  refine lv_aload_n hx hb dX0_rightReading_5 rfl (lv_at hl 0 rfl) ?_
  refine C0.get hF hX 4 (by decide) rfl rfl kf_RX0_23 dX0_rightReading_6 ?_
  refine lv_aload_n hx hb dX0_rightReading_9 rfl (lv_at hl 0 rfl) ?_
  refine C0.get hF hX 2 (by decide) rfl rfl kf_RX0_16 dX0_rightReading_10 ?_
  refine lv_iload_n hx hb dX0_rightReading_13 rfl (lv_at hl 1 rfl) ?_
  refine aldI hF hX.2.1 hX.1 3 0 rfl rfl i (by omega) (by decide) rfl dX0_rightReading_14 ?_
  refine aldI hF hX.2.1 hX.1 5 0 rfl rfl (ix (v 2 i)) (okM10 hok i) (by decide) (okM hok i) dX0_rightReading_15 ?_
  refine lv_istore_n (lv' := [(2, .int (v 3 (ix (v 2 i)))), (0, .ref (q 0)), (1, .int (nI i))]) hx hb dX0_rightReading_16 rfl hl (by decide) rfl (fun ls hl => ?_)
  refine lv_aload_n hx hb dX0_rightReading_17 rfl (lv_at hl 1 rfl) ?_
  refine C0.get hF hX 10 (by decide) rfl rfl kf_RX0_35 dX0_rightReading_18 ?_
  refine lv_iload_n hx hb dX0_rightReading_21 rfl (lv_at hl 2 rfl) ?_
  refine aldI hF hX.2.1 hX.1 9 0 rfl rfl i (by omega) (by decide) rfl dX0_rightReading_22 ?_
  refine lv_aload_n hx hb dX0_rightReading_23 rfl (lv_at hl 1 rfl) ?_
  refine lv_iload_n hx hb dX0_rightReading_24 rfl (lv_at hl 2 rfl) ?_
  refine cVi (As := [.int (nI i)]) (rest := [.int (w 3 i)]) hF (mX0_noteAhead i hde (by omega) (by omega)) C0.mv hX (C0.rc hX) jyX0_noteAhead kl_RX0_114 ⟨rfl, rfl⟩ ⟨Nat.le_of_ble_eq_true rfl, Nat.le_of_ble_eq_true rfl⟩ rfl hl.1 rfl (Nat.le_of_ble_eq_true rfl) ⟨Nat.zero_le _, Nat.zero_le _⟩ dX0_rightReading_25 (fun r hr9 => ?_)
  subst hr9
  refine lv_aload_n hx hb dX0_rightReading_28 rfl (lv_at hl 1 rfl) ?_
  refine C0.get hF hX 6 (by decide) rfl rfl kf_RX0_38 dX0_rightReading_29 ?_
  refine lv_aload_n hx hb dX0_rightReading_32 rfl (lv_at hl 1 rfl) ?_
  refine C0.get hF hX 0 (by decide) rfl rfl kf_RX0_9 dX0_rightReading_33 ?_
  refine lv_iload_n hx hb dX0_rightReading_36 rfl (lv_at hl 2 rfl) ?_
  refine aldI hF hX.2.1 hX.1 1 0 rfl rfl i (by omega) (by decide) rfl dX0_rightReading_37 ?_
  refine topI (show (v 0 i) = (nI e - 3) from hve) ?_
  refine cSi (As := [.int (w 3 i), .int (nt (v 0) st i), .int st, .int (nI e - 3)]) (rest := []) hF (mX0_turnsSungAs (w 3 i) (nt (v 0) st i) e (by omega)) Mv.const trivial jyX0_turnsSungAs kl_RX0_129 ⟨rfl, rfl⟩ ⟨Nat.le_of_ble_eq_true rfl, Nat.le_of_ble_eq_true rfl⟩ rfl hl.1 rfl (Nat.le_of_ble_eq_true rfl) ⟨Nat.zero_le _, Nat.zero_le _⟩ dX0_rightReading_38 (fun r hr9 => ?_)
  subst hr9
  refine lv_istore_n (lv' := [(3, .int (tsa (w 3 i) (nt (v 0) st i) st e)), (2, .int (v 3 (ix (v 2 i)))), (0, .ref (q 0)), (1, .int (nI i))]) hx hb dX0_rightReading_41 rfl hl (by decide) rfl (fun ls hl => ?_)
  refine lv_iload_n hx hb dX0_rightReading_42 rfl (lv_at hl 0 rfl) ?_
  refine lv_aload_n hx hb dX0_rightReading_43 rfl (lv_at hl 2 rfl) ?_
  refine lv_iload_n hx hb dX0_rightReading_44 rfl (lv_at hl 1 rfl) ?_
  refine lv_bipush (v := (nI 10)) hx hb dX0_rightReading_45 (by decide) ?_
  refine cVi (As := [.int (v 3 (ix (v 2 i))), .int (nI 10)]) (rest := [.int (tsa (w 3 i) (nt (v 0) st i) st e)]) hF (mX0_landmarksNamed (v 3 (ix (v 2 i))) 10 (by omega)) C0.mv hX (C0.rc hX) jyX0_landmarksNamed kl_RX0_133 ⟨rfl, rfl⟩ ⟨Nat.le_of_ble_eq_true rfl, Nat.le_of_ble_eq_true rfl⟩ rfl hl.1 rfl (Nat.le_of_ble_eq_true rfl) ⟨Nat.zero_le _, Nat.zero_le _⟩ dX0_rightReading_47 (fun r hr9 => ?_)
  subst hr9
  refine lv_imul hx hb dX0_rightReading_50 ?_
  refine lv_aload_n hx hb dX0_rightReading_51 rfl (lv_at hl 2 rfl) ?_
  refine lv_iload_n hx hb dX0_rightReading_52 rfl (lv_at hl 1 rfl) ?_
  refine lv_aload_n hx hb dX0_rightReading_53 rfl (lv_at hl 2 rfl) ?_
  refine C0.get hF hX 2 (by decide) rfl rfl kf_RX0_16 dX0_rightReading_54 ?_
  refine lv_iload_n hx hb dX0_rightReading_57 rfl (lv_at hl 3 rfl) ?_
  refine aldI hF hX.2.1 hX.1 3 0 rfl rfl i (by omega) (by decide) rfl dX0_rightReading_58 ?_
  refine topI (show (v 2 i) = nI (ix (v 2 i)) from okM hok i) ?_
  refine cVi (As := [.int (v 3 (ix (v 2 i))), .int (nI (ix (v 2 i)))]) (rest := [.int ((tsa (w 3 i) (nt (v 0) st i) st e) * (lc (v 3) (v 3 (ix (v 2 i))) 10))]) hF (mX0_landmarksNamed (v 3 (ix (v 2 i))) (ix (v 2 i)) (by exact Nat.le_of_lt (okM10 hok i))) C0.mv hX (C0.rc hX) jyX0_landmarksNamed kl_RX0_133 ⟨rfl, rfl⟩ ⟨Nat.le_of_ble_eq_true rfl, Nat.le_of_ble_eq_true rfl⟩ rfl hl.1 rfl (Nat.le_of_ble_eq_true rfl) ⟨Nat.zero_le _, Nat.zero_le _⟩ dX0_rightReading_59 (fun r hr9 => ?_)
  subst hr9
  refine lv_iadd hx hb dX0_rightReading_62 ?_
  exact W.iret hx hb hr (fun t ht hW => ⟨_, rfl, rrn_c hok hde hi he hve, ht⟩) (fun q hq => absurd hq List.not_mem_nil) dX0_rightReading_63
set_option maxHeartbeats 4000000 in
set_option maxRecDepth 100000 in
theorem mX0_isAmbiguous (hok : Ok N st v) (hde : Der N st v w) (i : Nat) (hi : i < N) : Met l yX0_isAmbiguous (wm yX0_isAmbiguous cX0_isAmbiguous 2 (some .boolean)) ({ frames := 4, cells := 0, slots := 0, locals := 89 } : Room) (va_Pc [.ref (q 0), .int (nI i)] (fun U => C0 D cyI cyZ q (nI N) st v mk w U U.heap)) (vp_Si (fun r => r = b2i (amb v st mk i))) 0 0 (fun _ => False) := by
  refine mt (by decide) (Nat.le_of_ble_eq_true rfl) ?_
  intro p ev s m below meth c ls hF hr hlocks hnm hX hl
  have hF : CallFix p m c cX0_isAmbiguous 2 s _ wA RX0 := hF
  obtain ⟨hx, hb, hml, hown, hts⟩ := id hF
  have hX : C0 D cyI cyZ q (nI N) st v mk w s s.heap := hX
  have hl : lv_has ls 2 [(0, .ref (q 0)), (1, .int (nI i))] := hl
  have hN := hok.1
  refine lv_aload_n hx hb dX0_isAmbiguous_0 rfl (lv_at hl 0 rfl) ?_
  refine lv_iload_n hx hb dX0_isAmbiguous_1 rfl (lv_at hl 1 rfl) ?_
  refine cVv (As := [.int (nI i)]) (rest := []) hF (mX0_checkLeg i (by omega) (by omega)) C0.mv hX (C0.rc hX) jyX0_checkLeg kl_RX0_72 ⟨rfl, rfl⟩ ⟨Nat.le_of_ble_eq_true rfl, Nat.le_of_ble_eq_true rfl⟩ rfl hl.1 rfl (Nat.le_of_ble_eq_true rfl) ⟨Nat.zero_le _, Nat.zero_le _⟩ dX0_isAmbiguous_2 ?_
  refine lv_aload_n hx hb dX0_isAmbiguous_5 rfl (lv_at hl 0 rfl) ?_
  refine C0.get hF hX 3 (by decide) rfl rfl kf_RX0_19 dX0_isAmbiguous_6 ?_
  refine lv_iload_n hx hb dX0_isAmbiguous_9 rfl (lv_at hl 1 rfl) ?_
  refine aldZ hF hX.2.1 hX.1 4 1 rfl rfl i (by omega) (by decide) rfl dX0_isAmbiguous_10 ?_
  refine lv_if_ne (tgt := 27) hx hb dX0_isAmbiguous_11 (by decide) (fun c11 => ?_) (fun c11 => ?_)
  · have c11b := b2i_t c11
    refine lv_iconst (v := 0) hx hb dX0_isAmbiguous_27 (by decide) ?_
    exact W.zret hx hb hr rfl (fun t ht hW => ⟨_, rfl, b2i_0 (by simp [amb, c11b]), ht⟩) (fun q hq => absurd hq List.not_mem_nil) dX0_isAmbiguous_28
  · have c11b := b2i_f c11
    refine lv_aload_n hx hb dX0_isAmbiguous_14 rfl (lv_at hl 0 rfl) ?_
    refine lv_iload_n hx hb dX0_isAmbiguous_15 rfl (lv_at hl 1 rfl) ?_
    refine cVi (As := [.int (nI i)]) (rest := []) hF (mX0_readings hok hde i (by omega)) C0.mv hX (C0.rc hX) jyX0_readings kl_RX0_136 ⟨rfl, rfl⟩ ⟨Nat.le_of_ble_eq_true rfl, Nat.le_of_ble_eq_true rfl⟩ rfl hl.1 rfl (Nat.le_of_ble_eq_true rfl) ⟨Nat.zero_le _, Nat.zero_le _⟩ dX0_isAmbiguous_16 (fun r hr9 => ?_)
    subst hr9
    refine lv_iconst (v := 1) hx hb dX0_isAmbiguous_19 (by decide) ?_
    refine lv_icmp_le (tgt := 27) hx hb dX0_isAmbiguous_20 (by decide) (fun c20 => ?_) (fun c20 => ?_)
    · refine lv_iconst (v := 0) hx hb dX0_isAmbiguous_27 (by decide) ?_
      exact W.zret hx hb hr rfl (fun t ht hW => ⟨_, rfl, b2i_0 (by simp [amb, Int32.not_lt.mpr c20]), ht⟩) (fun q hq => absurd hq List.not_mem_nil) dX0_isAmbiguous_28
    · refine lv_iconst (v := 1) hx hb dX0_isAmbiguous_23 (by decide) ?_
      refine lv_goto (tgt := 28) hx hb dX0_isAmbiguous_24 (by decide) ?_
      exact W.zret hx hb hr rfl (fun t ht hW => ⟨_, rfl, b2i_1 (by simp [amb, c11b, Int32.not_le.mp c20]), ht⟩) (fun q hq => absurd hq List.not_mem_nil) dX0_isAmbiguous_28
set_option maxHeartbeats 4000000 in
set_option maxRecDepth 100000 in
theorem mX0_isMended (hok : Ok N st v) (hde : Der N st v w) (i : Nat) (hi : i < N) : Met l yX0_isMended (wm yX0_isMended cX0_isMended 2 (some .boolean)) ({ frames := 1, cells := 0, slots := 0, locals := 21 } : Room) (va_Pc [.ref (q 0), .int (nI i)] (fun U => C0 D cyI cyZ q (nI N) st v mk w U U.heap)) (vp_Si (fun r => r = b2i (mk i))) 0 0 (fun _ => False) := by
  refine mt (by decide) (Nat.le_of_ble_eq_true rfl) ?_
  intro p ev s m below meth c ls hF hr hlocks hnm hX hl
  have hF : CallFix p m c cX0_isMended 2 s _ wA RX0 := hF
  obtain ⟨hx, hb, hml, hown, hts⟩ := id hF
  have hX : C0 D cyI cyZ q (nI N) st v mk w s s.heap := hX
  have hl : lv_has ls 2 [(0, .ref (q 0)), (1, .int (nI i))] := hl
  have hN := hok.1
  refine lv_aload_n hx hb dX0_isMended_0 rfl (lv_at hl 0 rfl) ?_
  refine lv_iload_n hx hb dX0_isMended_1 rfl (lv_at hl 1 rfl) ?_
  refine cVv (As := [.int (nI i)]) (rest := []) hF (mX0_checkLeg i (by omega) (by omega)) C0.mv hX (C0.rc hX) jyX0_checkLeg kl_RX0_72 ⟨rfl, rfl⟩ ⟨Nat.le_of_ble_eq_true rfl, Nat.le_of_ble_eq_true rfl⟩ rfl hl.1 rfl (Nat.le_of_ble_eq_true rfl) ⟨Nat.zero_le _, Nat.zero_le _⟩ dX0_isMended_2 ?_
  refine lv_aload_n hx hb dX0_isMended_5 rfl (lv_at hl 0 rfl) ?_
  refine C0.get hF hX 3 (by decide) rfl rfl kf_RX0_19 dX0_isMended_6 ?_
  refine lv_iload_n hx hb dX0_isMended_9 rfl (lv_at hl 1 rfl) ?_
  refine aldZ hF hX.2.1 hX.1 4 1 rfl rfl i (by omega) (by decide) rfl dX0_isMended_10 ?_
  exact W.zret hx hb hr b2i_nar (fun t ht hW => ⟨_, rfl, rfl, ht⟩) (fun q hq => absurd hq List.not_mem_nil) dX0_isMended_11
set_option maxHeartbeats 4000000 in
set_option maxRecDepth 100000 in
theorem mX0_ambiguous (hok : Ok N st v) (hde : Der N st v w) : Met l yX0_ambiguous (wm yX0_ambiguous cX0_ambiguous 3 (some .int)) ({ frames := 5, cells := 0, slots := 0, locals := 110 } : Room) (va_Pc [.ref (q 0)] (fun U => C0 D cyI cyZ q (nI N) st v mk w U U.heap)) (vp_Si (fun r => r = ctB (amb v st mk) N)) 0 0 (fun _ => False) := by
  refine mt (by decide) (Nat.le_of_ble_eq_true rfl) ?_
  intro p ev s m below meth c ls hF hr hlocks hnm hX hl
  have hF : CallFix p m c cX0_ambiguous 3 s _ wA RX0 := hF
  obtain ⟨hx, hb, hml, hown, hts⟩ := id hF
  have hX : C0 D cyI cyZ q (nI N) st v mk w s s.heap := hX
  have hl : lv_has ls 3 [(0, .ref (q 0))] := hl
  have hN := hok.1
  refine lv_iconst (v := 0) hx hb dX0_ambiguous_0 (by decide) ?_
  refine lv_istore_n (lv' := [(1, .int 0), (0, .ref (q 0))]) hx hb dX0_ambiguous_1 rfl hl (by decide) rfl (fun ls hl => ?_)
  refine lv_iconst (v := 0) hx hb dX0_ambiguous_2 (by decide) ?_
  refine lv_istore_n (lv' := [(2, .int 0), (1, .int 0), (0, .ref (q 0))]) hx hb dX0_ambiguous_3 rfl hl (by decide) rfl (fun ls hl => ?_)
  refine lpW (σ := Nat) (fun j ls => (j ≤ N) ∧ lv_has ls 3 [(0, .ref (q 0)), (1, .int (ctB (amb v st mk) j)), (2, .int (nI j))]) (fun j => N - j) (fun j ls hI ih => ?_) (0) ⟨by omega, lv_sub hl [2, 1, 0] rfl⟩
  obtain ⟨hj, hl⟩ := hI
  refine lv_iload_n hx hb dX0_ambiguous_4 rfl (lv_at hl 2 rfl) ?_
  refine lv_aload_n hx hb dX0_ambiguous_5 rfl (lv_at hl 0 rfl) ?_
  refine C0.get hF hX 5 (by decide) rfl rfl kf_RX0_59 dX0_ambiguous_6 ?_
  refine lv_icmp_ge (tgt := 29) hx hb dX0_ambiguous_9 (by decide) (fun c9 => ?_) (fun c9 => ?_)
  · have c9n : N ≤ j := (nI_leI (a := N) (b := j) (by omega) (by omega)).mp c9
    obtain rfl : j = N := by omega
    refine lv_iload_n hx hb dX0_ambiguous_29 rfl (lv_at hl 1 rfl) ?_
    exact W.iret hx hb hr (fun t ht hW => ⟨_, rfl, rfl, ht⟩) (fun q hq => absurd hq List.not_mem_nil) dX0_ambiguous_30
  · have c9n : ¬ N ≤ j := fun h9 => c9 ((nI_leI (a := N) (b := j) (by omega) (by omega)).mpr h9)
    refine lv_aload_n hx hb dX0_ambiguous_12 rfl (lv_at hl 0 rfl) ?_
    refine lv_iload_n hx hb dX0_ambiguous_13 rfl (lv_at hl 2 rfl) ?_
    refine cVi (As := [.int (nI j)]) (rest := []) hF (mX0_isAmbiguous hok hde j (by omega)) C0.mv hX (C0.rc hX) jyX0_isAmbiguous kl_RX0_139 ⟨rfl, rfl⟩ ⟨Nat.le_of_ble_eq_true rfl, Nat.le_of_ble_eq_true rfl⟩ rfl hl.1 rfl (Nat.le_of_ble_eq_true rfl) ⟨Nat.zero_le _, Nat.zero_le _⟩ dX0_ambiguous_14 (fun r hr9 => ?_)
    subst hr9
    refine lv_if_eq (tgt := 23) hx hb dX0_ambiguous_17 (by decide) (fun c17 => ?_) (fun c17 => ?_)
    · have c17b := b2i_f c17
      refine lv_iinc (v := (nI (j + 1))) (lv' := [(2, .int (nI (j + 1))), (0, .ref (q 0)), (1, .int (ctB (amb v st mk) j))]) hx hb dX0_ambiguous_23 hl (k := 2) rfl (nI_1 _) (by decide) rfl (fun ls hl => ?_)
      refine lv_goto (tgt := 4) hx hb dX0_ambiguous_26 (by decide) ?_
      exact ih (j + 1) ls (by omega) ⟨by omega, by rw [ctB_f c17b]; exact lv_sub hl [1, 2, 0] rfl⟩
    · have c17b := b2i_t c17
      refine lv_iinc (v := ((ctB (amb v st mk) j) + 1)) (lv' := [(1, .int ((ctB (amb v st mk) j) + 1)), (0, .ref (q 0)), (2, .int (nI j))]) hx hb dX0_ambiguous_20 hl (k := 1) rfl (rfl) (by decide) rfl (fun ls hl => ?_)
      refine lv_iinc (v := (nI (j + 1))) (lv' := [(2, .int (nI (j + 1))), (1, .int ((ctB (amb v st mk) j) + 1)), (0, .ref (q 0))]) hx hb dX0_ambiguous_23 hl (k := 2) rfl (nI_1 _) (by decide) rfl (fun ls hl => ?_)
      refine lv_goto (tgt := 4) hx hb dX0_ambiguous_26 (by decide) ?_
      exact ih (j + 1) ls (by omega) ⟨by omega, by rw [ctB_t c17b]; exact lv_sub hl [2, 1, 0] rfl⟩
set_option maxHeartbeats 4000000 in
set_option maxRecDepth 100000 in
theorem mX0_ways (hok : Ok N st v) (hde : Der N st v w) : Met l yX0_ways (wm yX0_ways cX0_ways 4 (some .long)) ({ frames := 5, cells := 0, slots := 0, locals := 110 } : Room) (va_Pc [.ref (q 0)] (fun U => C0 D cyI cyZ q (nI N) st v mk w U U.heap)) (vp_Sl (fun r => r = wys v st mk N)) 0 0 (fun _ => False) := by
  refine mt (by decide) (Nat.le_of_ble_eq_true rfl) ?_
  intro p ev s m below meth c ls hF hr hlocks hnm hX hl
  have hF : CallFix p m c cX0_ways 4 s _ wA RX0 := hF
  obtain ⟨hx, hb, hml, hown, hts⟩ := id hF
  have hX : C0 D cyI cyZ q (nI N) st v mk w s s.heap := hX
  have hl : lv_has ls 4 [(0, .ref (q 0))] := hl
  have hN := hok.1
  refine lv_lconst (v := 1) hx hb dX0_ways_0 (by decide) ?_
  refine lv_lstore_n (lv' := [(1, .long 1), (0, .ref (q 0))]) hx hb dX0_ways_1 rfl hl (by decide) rfl (fun ls hl => ?_)
  refine lv_iconst (v := 0) hx hb dX0_ways_2 (by decide) ?_
  refine lv_istore_n (lv' := [(3, .int 0), (1, .long 1), (0, .ref (q 0))]) hx hb dX0_ways_3 rfl hl (by decide) rfl (fun ls hl => ?_)
  refine lpW (σ := Nat) (fun j ls => (j ≤ N) ∧ lv_has ls 4 [(0, .ref (q 0)), (1, .long (wys v st mk j)), (3, .int (nI j))]) (fun j => N - j) (fun j ls hI ih => ?_) (0) ⟨by omega, lv_sub hl [2, 1, 0] rfl⟩
  obtain ⟨hj, hl⟩ := hI
  refine lv_iload_n hx hb dX0_ways_4 rfl (lv_at hl 2 rfl) ?_
  refine lv_aload_n hx hb dX0_ways_5 rfl (lv_at hl 0 rfl) ?_
  refine C0.get hF hX 5 (by decide) rfl rfl kf_RX0_59 dX0_ways_6 ?_
  refine lv_icmp_ge (tgt := 41) hx hb dX0_ways_9 (by decide) (fun c9 => ?_) (fun c9 => ?_)
  · have c9n : N ≤ j := (nI_leI (a := N) (b := j) (by omega) (by omega)).mp c9
    obtain rfl : j = N := by omega
    refine lv_lload_n hx hb dX0_ways_41 rfl (lv_at hl 1 rfl) ?_
    exact W.lret hx hb hr (fun t ht hW => ⟨_, rfl, rfl, ht⟩) (fun q hq => absurd hq List.not_mem_nil) dX0_ways_42
  · have c9n : ¬ N ≤ j := fun h9 => c9 ((nI_leI (a := N) (b := j) (by omega) (by omega)).mpr h9)
    refine lv_aload_n hx hb dX0_ways_12 rfl (lv_at hl 0 rfl) ?_
    refine lv_iload_n hx hb dX0_ways_13 rfl (lv_at hl 2 rfl) ?_
    refine cVi (As := [.int (nI j)]) (rest := []) hF (mX0_isAmbiguous hok hde j (by omega)) C0.mv hX (C0.rc hX) jyX0_isAmbiguous kl_RX0_139 ⟨rfl, rfl⟩ ⟨Nat.le_of_ble_eq_true rfl, Nat.le_of_ble_eq_true rfl⟩ rfl hl.1 rfl (Nat.le_of_ble_eq_true rfl) ⟨Nat.zero_le _, Nat.zero_le _⟩ dX0_ways_14 (fun r hr9 => ?_)
    subst hr9
    refine lv_if_eq (tgt := 35) hx hb dX0_ways_17 (by decide) (fun c17 => ?_) (fun c17 => ?_)
    · have c17b := b2i_f c17
      refine lv_iinc (v := (nI (j + 1))) (lv' := [(3, .int (nI (j + 1))), (0, .ref (q 0)), (1, .long (wys v st mk j))]) hx hb dX0_ways_35 hl (k := 2) rfl (nI_1 _) (by decide) rfl (fun ls hl => ?_)
      refine lv_goto (tgt := 4) hx hb dX0_ways_38 (by decide) ?_
      exact ih (j + 1) ls (by omega) ⟨by omega, by rw [wys_f c17b]; exact lv_sub hl [1, 2, 0] rfl⟩
    · have c17b := b2i_t c17
      refine lv_lload_n hx hb dX0_ways_20 rfl (lv_at hl 1 rfl) ?_
      refine lv_aload_n hx hb dX0_ways_21 rfl (lv_at hl 0 rfl) ?_
      refine lv_iload_n hx hb dX0_ways_22 rfl (lv_at hl 2 rfl) ?_
      refine cVi (As := [.int (nI j)]) (rest := [.long (wys v st mk j)]) hF (mX0_readings hok hde j (by omega)) C0.mv hX (C0.rc hX) jyX0_readings kl_RX0_136 ⟨rfl, rfl⟩ ⟨Nat.le_of_ble_eq_true rfl, Nat.le_of_ble_eq_true rfl⟩ rfl hl.1 rfl (Nat.le_of_ble_eq_true rfl) ⟨Nat.zero_le _, Nat.zero_le _⟩ dX0_ways_23 (fun r hr9 => ?_)
      subst hr9
      refine lv_i2l hx hb dX0_ways_26 rfl ?_
      refine lv_lmul hx hb dX0_ways_27 ?_
      refine lv_ldc2 hx hb hown (hts _ kk_RX0_157) dX0_ways_28 ?_
      refine va_mmin_long hx hb (hml.trans hl.1.symm) hown (hts _ kl_RX0_159) (hts _ ks_LM_min_long_x) (hts _ kn_Math) (hts _ kd_LM_min_long_x) (Nat.le_of_ble_eq_true rfl) (Nat.le_of_ble_eq_true rfl) (Nat.zero_le _) (Nat.zero_le _) dX0_ways_31 ?_
      refine lv_lstore_n (lv' := [(1, .long (if 1000000000 < ((wys v st mk j) * (Int32.toInt64 (rdn v st j))) then 1000000000 else ((wys v st mk j) * (Int32.toInt64 (rdn v st j))))), (0, .ref (q 0)), (3, .int (nI j))]) hx hb dX0_ways_34 rfl hl (by decide) rfl (fun ls hl => ?_)
      refine lv_iinc (v := (nI (j + 1))) (lv' := [(3, .int (nI (j + 1))), (1, .long (if 1000000000 < ((wys v st mk j) * (Int32.toInt64 (rdn v st j))) then 1000000000 else ((wys v st mk j) * (Int32.toInt64 (rdn v st j))))), (0, .ref (q 0))]) hx hb dX0_ways_35 hl (k := 2) rfl (nI_1 _) (by decide) rfl (fun ls hl => ?_)
      refine lv_goto (tgt := 4) hx hb dX0_ways_38 (by decide) ?_
      exact ih (j + 1) ls (by omega) ⟨by omega, by rw [wys_t c17b]; exact lv_sub hl [2, 1, 0] rfl⟩
set_option maxHeartbeats 4000000 in
set_option maxRecDepth 100000 in
theorem mX0_firstAmbiguous (hok : Ok N st v) (hde : Der N st v w) : Met l yX0_firstAmbiguous (wm yX0_firstAmbiguous cX0_firstAmbiguous 2 (some .int)) ({ frames := 5, cells := 0, slots := 0, locals := 110 } : Room) (va_Pc [.ref (q 0)] (fun U => C0 D cyI cyZ q (nI N) st v mk w U U.heap)) (vp_Si (fun r => r = fam v st mk N)) 0 0 (fun _ => False) := by
  refine mt (by decide) (Nat.le_of_ble_eq_true rfl) ?_
  intro p ev s m below meth c ls hF hr hlocks hnm hX hl
  have hF : CallFix p m c cX0_firstAmbiguous 2 s _ wA RX0 := hF
  obtain ⟨hx, hb, hml, hown, hts⟩ := id hF
  have hX : C0 D cyI cyZ q (nI N) st v mk w s s.heap := hX
  have hl : lv_has ls 2 [(0, .ref (q 0))] := hl
  have hN := hok.1
  refine lv_iconst (v := 0) hx hb dX0_firstAmbiguous_0 (by decide) ?_
  refine lv_istore_n (lv' := [(1, .int 0), (0, .ref (q 0))]) hx hb dX0_firstAmbiguous_1 rfl hl (by decide) rfl (fun ls hl => ?_)
  refine lpW (σ := Nat) (fun j ls => (j ≤ N ∧ ∀ i, i < j → amb v st mk i = false) ∧ lv_has ls 2 [(0, .ref (q 0)), (1, .int (nI j))]) (fun j => N - j) (fun j ls hI ih => ?_) (0) ⟨⟨by omega, fun i h => absurd h (Nat.not_lt_zero _)⟩, lv_sub hl [1, 0] rfl⟩
  obtain ⟨hj, hl⟩ := hI
  refine lv_iload_n hx hb dX0_firstAmbiguous_2 rfl (lv_at hl 1 rfl) ?_
  refine lv_aload_n hx hb dX0_firstAmbiguous_3 rfl (lv_at hl 0 rfl) ?_
  refine C0.get hF hX 5 (by decide) rfl rfl kf_RX0_59 dX0_firstAmbiguous_4 ?_
  refine lv_icmp_ge (tgt := 26) hx hb dX0_firstAmbiguous_7 (by decide) (fun c7 => ?_) (fun c7 => ?_)
  · have c7n : N ≤ j := (nI_leI (a := N) (b := j) (by omega) (by omega)).mp c7
    obtain rfl : j = N := by omega
    refine lv_iconst (v := (-1)) hx hb dX0_firstAmbiguous_26 (by decide) ?_
    exact W.iret hx hb hr (fun t ht hW => ⟨_, rfl, fam_no hj.2, ht⟩) (fun q hq => absurd hq List.not_mem_nil) dX0_firstAmbiguous_27
  · have c7n : ¬ N ≤ j := fun h9 => c7 ((nI_leI (a := N) (b := j) (by omega) (by omega)).mpr h9)
    refine lv_aload_n hx hb dX0_firstAmbiguous_10 rfl (lv_at hl 0 rfl) ?_
    refine lv_iload_n hx hb dX0_firstAmbiguous_11 rfl (lv_at hl 1 rfl) ?_
    refine cVi (As := [.int (nI j)]) (rest := []) hF (mX0_isAmbiguous hok hde j (by omega)) C0.mv hX (C0.rc hX) jyX0_isAmbiguous kl_RX0_139 ⟨rfl, rfl⟩ ⟨Nat.le_of_ble_eq_true rfl, Nat.le_of_ble_eq_true rfl⟩ rfl hl.1 rfl (Nat.le_of_ble_eq_true rfl) ⟨Nat.zero_le _, Nat.zero_le _⟩ dX0_firstAmbiguous_12 (fun r hr9 => ?_)
    subst hr9
    refine lv_if_eq (tgt := 20) hx hb dX0_firstAmbiguous_15 (by decide) (fun c15 => ?_) (fun c15 => ?_)
    · have c15b := b2i_f c15
      refine lv_iinc (v := (nI (j + 1))) (lv' := [(1, .int (nI (j + 1))), (0, .ref (q 0))]) hx hb dX0_firstAmbiguous_20 hl (k := 1) rfl (nI_1 _) (by decide) rfl (fun ls hl => ?_)
      refine lv_goto (tgt := 2) hx hb dX0_firstAmbiguous_23 (by decide) ?_
      exact ih (j + 1) ls (by omega) ⟨⟨by omega, lt_s1 hj.2 c15b⟩, by exact lv_sub hl [1, 0] rfl⟩
    · have c15b := b2i_t c15
      refine lv_iload_n hx hb dX0_firstAmbiguous_18 rfl (lv_at hl 1 rfl) ?_
      exact W.iret hx hb hr (fun t ht hW => ⟨_, rfl, fam_at hj.2 c15b (by omega), ht⟩) (fun q hq => absurd hq List.not_mem_nil) dX0_firstAmbiguous_19
set_option maxHeartbeats 4000000 in
set_option maxRecDepth 100000 in
theorem mX0_mostAmbiguous (hok : Ok N st v) (hde : Der N st v w) : Met l yX0_mostAmbiguous (wm yX0_mostAmbiguous cX0_mostAmbiguous 5 (some .int)) ({ frames := 4, cells := 0, slots := 0, locals := 89 } : Room) (va_Pc [.ref (q 0)] (fun U => C0 D cyI cyZ q (nI N) st v mk w U U.heap)) (vp_Si (fun r => r = optI (mst v st mk N))) 0 0 (fun _ => False) := by
  refine mt (by decide) (Nat.le_of_ble_eq_true rfl) ?_
  intro p ev s m below meth c ls hF hr hlocks hnm hX hl
  have hF : CallFix p m c cX0_mostAmbiguous 5 s _ wA RX0 := hF
  obtain ⟨hx, hb, hml, hown, hts⟩ := id hF
  have hX : C0 D cyI cyZ q (nI N) st v mk w s s.heap := hX
  have hl : lv_has ls 5 [(0, .ref (q 0))] := hl
  have hN := hok.1
  refine lv_iconst (v := (-1)) hx hb dX0_mostAmbiguous_0 (by decide) ?_
  refine lv_istore_n (lv' := [(1, .int (-1)), (0, .ref (q 0))]) hx hb dX0_mostAmbiguous_1 rfl hl (by decide) rfl (fun ls hl => ?_)
  refine lv_iconst (v := 1) hx hb dX0_mostAmbiguous_2 (by decide) ?_
  refine lv_istore_n (lv' := [(2, .int 1), (1, .int (-1)), (0, .ref (q 0))]) hx hb dX0_mostAmbiguous_3 rfl hl (by decide) rfl (fun ls hl => ?_)
  refine lv_iconst (v := 0) hx hb dX0_mostAmbiguous_4 (by decide) ?_
  refine lv_istore_n (lv' := [(3, .int 0), (2, .int 1), (1, .int (-1)), (0, .ref (q 0))]) hx hb dX0_mostAmbiguous_5 rfl hl (by decide) rfl (fun ls hl => ?_)
  refine lpW (σ := Nat) (fun j ls => (j ≤ N) ∧ lv_has ls 5 [(0, .ref (q 0)), (1, .int (optI (mst v st mk j))), (2, .int (optR v st (mst v st mk j))), (3, .int (nI j))]) (fun j => N - j) (fun j ls hI ih => ?_) (0) ⟨by omega, lv_sub hl [3, 2, 1, 0] rfl⟩
  obtain ⟨hj, hl⟩ := hI
  refine lv_iload_n hx hb dX0_mostAmbiguous_6 rfl (lv_at hl 3 rfl) ?_
  refine lv_aload_n hx hb dX0_mostAmbiguous_7 rfl (lv_at hl 0 rfl) ?_
  refine C0.get hF hX 5 (by decide) rfl rfl kf_RX0_59 dX0_mostAmbiguous_8 ?_
  refine lv_icmp_ge (tgt := 47) hx hb dX0_mostAmbiguous_11 (by decide) (fun c11 => ?_) (fun c11 => ?_)
  · have c11n : N ≤ j := (nI_leI (a := N) (b := j) (by omega) (by omega)).mp c11
    obtain rfl : j = N := by omega
    refine lv_iload_n hx hb dX0_mostAmbiguous_47 rfl (lv_at hl 1 rfl) ?_
    exact W.iret hx hb hr (fun t ht hW => ⟨_, rfl, rfl, ht⟩) (fun q hq => absurd hq List.not_mem_nil) dX0_mostAmbiguous_48
  · have c11n : ¬ N ≤ j := fun h9 => c11 ((nI_leI (a := N) (b := j) (by omega) (by omega)).mpr h9)
    refine lv_aload_n hx hb dX0_mostAmbiguous_14 rfl (lv_at hl 0 rfl) ?_
    refine lv_iload_n hx hb dX0_mostAmbiguous_15 rfl (lv_at hl 3 rfl) ?_
    refine cVi (As := [.int (nI j)]) (rest := []) hF (mX0_readings hok hde j (by omega)) C0.mv hX (C0.rc hX) jyX0_readings kl_RX0_136 ⟨rfl, rfl⟩ ⟨Nat.le_of_ble_eq_true rfl, Nat.le_of_ble_eq_true rfl⟩ rfl hl.1 rfl (Nat.le_of_ble_eq_true rfl) ⟨Nat.zero_le _, Nat.zero_le _⟩ dX0_mostAmbiguous_16 (fun r hr9 => ?_)
    subst hr9
    refine lv_istore (lv' := [(4, .int (rdn v st j)), (0, .ref (q 0)), (1, .int (optI (mst v st mk j))), (2, .int (optR v st (mst v st mk j))), (3, .int (nI j))]) hx hb dX0_mostAmbiguous_19 hl (by decide) rfl (fun ls hl => ?_)
    refine lv_aload_n hx hb dX0_mostAmbiguous_21 rfl (lv_at hl 1 rfl) ?_
    refine C0.get hF hX 3 (by decide) rfl rfl kf_RX0_19 dX0_mostAmbiguous_22 ?_
    refine lv_iload_n hx hb dX0_mostAmbiguous_25 rfl (lv_at hl 4 rfl) ?_
    refine aldZ hF hX.2.1 hX.1 4 1 rfl rfl j (by omega) (by decide) rfl dX0_mostAmbiguous_26 ?_
    refine lv_if_ne (tgt := 41) hx hb dX0_mostAmbiguous_27 (by decide) (fun c27 => ?_) (fun c27 => ?_)
    · have c27b := b2i_t c27
      refine lv_iinc (v := (nI (j + 1))) (lv' := [(3, .int (nI (j + 1))), (4, .int (rdn v st j)), (0, .ref (q 0)), (1, .int (optI (mst v st mk j))), (2, .int (optR v st (mst v st mk j)))]) hx hb dX0_mostAmbiguous_41 hl (k := 4) rfl (nI_1 _) (by decide) rfl (fun ls hl => ?_)
      refine lv_goto (tgt := 6) hx hb dX0_mostAmbiguous_44 (by decide) ?_
      exact ih (j + 1) ls (by omega) ⟨by omega, by rw [mst_f (fun h9 => by have h8 := h9.1; rw [c27b] at h8; cases h8)]; exact lv_sub hl [2, 3, 4, 0] rfl⟩
    · have c27b := b2i_f c27
      refine lv_iload hx hb dX0_mostAmbiguous_30 (lv_at hl 0 rfl) ?_
      refine lv_iload_n hx hb dX0_mostAmbiguous_32 rfl (lv_at hl 3 rfl) ?_
      refine lv_icmp_le (tgt := 41) hx hb dX0_mostAmbiguous_33 (by decide) (fun c33 => ?_) (fun c33 => ?_)
      · refine lv_iinc (v := (nI (j + 1))) (lv' := [(3, .int (nI (j + 1))), (4, .int (rdn v st j)), (0, .ref (q 0)), (1, .int (optI (mst v st mk j))), (2, .int (optR v st (mst v st mk j)))]) hx hb dX0_mostAmbiguous_41 hl (k := 4) rfl (nI_1 _) (by decide) rfl (fun ls hl => ?_)
        refine lv_goto (tgt := 6) hx hb dX0_mostAmbiguous_44 (by decide) ?_
        exact ih (j + 1) ls (by omega) ⟨by omega, by rw [mst_f (fun h9 => Int32.not_lt.mpr c33 h9.2)]; exact lv_sub hl [2, 3, 4, 0] rfl⟩
      · refine lv_iload hx hb dX0_mostAmbiguous_36 (lv_at hl 0 rfl) ?_
        refine lv_istore_n (lv' := [(2, .int (rdn v st j)), (4, .int (rdn v st j)), (0, .ref (q 0)), (1, .int (optI (mst v st mk j))), (3, .int (nI j))]) hx hb dX0_mostAmbiguous_38 rfl hl (by decide) rfl (fun ls hl => ?_)
        refine lv_iload_n hx hb dX0_mostAmbiguous_39 rfl (lv_at hl 4 rfl) ?_
        refine lv_istore_n (lv' := [(1, .int (nI j)), (2, .int (rdn v st j)), (4, .int (rdn v st j)), (0, .ref (q 0)), (3, .int (nI j))]) hx hb dX0_mostAmbiguous_40 rfl hl (by decide) rfl (fun ls hl => ?_)
        refine lv_iinc (v := (nI (j + 1))) (lv' := [(3, .int (nI (j + 1))), (1, .int (nI j)), (2, .int (rdn v st j)), (4, .int (rdn v st j)), (0, .ref (q 0))]) hx hb dX0_mostAmbiguous_41 hl (k := 4) rfl (nI_1 _) (by decide) rfl (fun ls hl => ?_)
        refine lv_goto (tgt := 6) hx hb dX0_mostAmbiguous_44 (by decide) ?_
        exact ih (j + 1) ls (by omega) ⟨by omega, by rw [mst_t c27b (Int32.not_le.mp c33)]; exact lv_sub hl [4, 1, 2, 0] rfl⟩
set_option maxHeartbeats 4000000 in
set_option maxRecDepth 100000 in
theorem mX0_wordIf (a j : Nat) (x : Int32) (ha : a < 10) (hj : j < 10) : Met l yX0_wordIf (wm yX0_wordIf cX0_wordIf 4 (some .int)) ({ frames := 0, cells := 0, slots := 0, locals := 0 } : Room) (va_Pc [.ref (q 0), .int (nI a), .int (nI j), .int x] (fun U => C0 D cyI cyZ q n st v mk w U U.heap)) (vp_Si (fun r => r = upd (v 3) j x a)) 0 0 (fun _ => False) := by
  refine mt (by decide) (Nat.le_of_ble_eq_true rfl) ?_
  intro p ev s m below meth c ls hF hr hlocks hnm hX hl
  have hF : CallFix p m c cX0_wordIf 4 s _ wA RX0 := hF
  obtain ⟨hx, hb, hml, hown, hts⟩ := id hF
  have hX : C0 D cyI cyZ q n st v mk w s s.heap := hX
  have hl : lv_has ls 4 [(0, .ref (q 0)), (1, .int (nI a)), (2, .int (nI j)), (3, .int x)] := hl
  refine lv_iload_n hx hb dX0_wordIf_0 rfl (lv_at hl 1 rfl) ?_
  refine lv_iload_n hx hb dX0_wordIf_1 rfl (lv_at hl 2 rfl) ?_
  refine lv_icmp_ne (tgt := 9) hx hb dX0_wordIf_2 (by decide) (fun c2 => ?_) (fun c2 => ?_)
  · have c2n : ¬ a = j := fun h9 => c2 ((nI_eq (a := a) (b := j) (by omega) (by omega)).mpr h9)
    refine lv_aload_n hx hb dX0_wordIf_9 rfl (lv_at hl 0 rfl) ?_
    refine C0.get hF hX 4 (by decide) rfl rfl kf_RX0_23 dX0_wordIf_10 ?_
    refine lv_iload_n hx hb dX0_wordIf_13 rfl (lv_at hl 1 rfl) ?_
    refine aldI hF hX.2.1 hX.1 5 0 rfl rfl a (by omega) (by decide) rfl dX0_wordIf_14 ?_
    exact W.iret hx hb hr (fun t ht hW => ⟨_, rfl, (upd_n c2n), ht⟩) (fun q hq => absurd hq List.not_mem_nil) dX0_wordIf_15
  · have c2n : a = j := (nI_eq (a := a) (b := j) (by omega) (by omega)).mp c2
    refine lv_iload_n hx hb dX0_wordIf_5 rfl (lv_at hl 3 rfl) ?_
    refine lv_goto (tgt := 15) hx hb dX0_wordIf_6 (by decide) ?_
    exact W.iret hx hb hr (fun t ht hW => ⟨_, rfl, (upd_s c2n), ht⟩) (fun q hq => absurd hq List.not_mem_nil) dX0_wordIf_15
set_option maxHeartbeats 4000000 in
set_option maxRecDepth 100000 in
theorem mX0_sharesWordIf (a j : Nat) (x : Int32) (ha : a < 10) (hj10 : j < 10) : Met l yX0_sharesWordIf (wm yX0_sharesWordIf cX0_sharesWordIf 6 (some .boolean)) ({ frames := 1, cells := 0, slots := 0, locals := 23 } : Room) (va_Pc [.ref (q 0), .int (nI a), .int (nI j), .int x] (fun U => C0 D cyI cyZ q n st v mk w U U.heap)) (vp_Si (fun r => r = b2i (exB (shE (upd (v 3) j x) a) 10))) 0 0 (fun _ => False) := by
  refine mt (by decide) (Nat.le_of_ble_eq_true rfl) ?_
  intro p ev s m below meth c ls hF hr hlocks hnm hX hl
  have hF : CallFix p m c cX0_sharesWordIf 6 s _ wA RX0 := hF
  obtain ⟨hx, hb, hml, hown, hts⟩ := id hF
  have hX : C0 D cyI cyZ q n st v mk w s s.heap := hX
  have hl : lv_has ls 6 [(0, .ref (q 0)), (1, .int (nI a)), (2, .int (nI j)), (3, .int x)] := hl
  refine lv_aload_n hx hb dX0_sharesWordIf_0 rfl (lv_at hl 0 rfl) ?_
  refine lv_iload_n hx hb dX0_sharesWordIf_1 rfl (lv_at hl 1 rfl) ?_
  refine lv_iload_n hx hb dX0_sharesWordIf_2 rfl (lv_at hl 2 rfl) ?_
  refine lv_iload_n hx hb dX0_sharesWordIf_3 rfl (lv_at hl 3 rfl) ?_
  refine cVi (As := [.int (nI a), .int (nI j), .int x]) (rest := []) hF (mX0_wordIf a j x (by omega) (by omega)) C0.mv hX (C0.rc hX) jyX0_wordIf kl_RX0_234 ⟨rfl, rfl⟩ ⟨Nat.le_of_ble_eq_true rfl, Nat.le_of_ble_eq_true rfl⟩ rfl hl.1 rfl (Nat.le_of_ble_eq_true rfl) ⟨Nat.zero_le _, Nat.zero_le _⟩ dX0_sharesWordIf_4 (fun r hr9 => ?_)
  subst hr9
  refine lv_istore (lv' := [(4, .int (upd (v 3) j x a)), (0, .ref (q 0)), (1, .int (nI a)), (2, .int (nI j)), (3, .int x)]) hx hb dX0_sharesWordIf_7 hl (by decide) rfl (fun ls hl => ?_)
  refine lv_iconst (v := 0) hx hb dX0_sharesWordIf_9 (by decide) ?_
  refine lv_istore (lv' := [(5, .int 0), (4, .int (upd (v 3) j x a)), (0, .ref (q 0)), (1, .int (nI a)), (2, .int (nI j)), (3, .int x)]) hx hb dX0_sharesWordIf_10 hl (by decide) rfl (fun ls hl => ?_)
  refine lpW (σ := Nat) (fun o ls => (o ≤ 10 ∧ exB (shE (upd (v 3) j x) a) o = false) ∧ lv_has ls 6 [(0, .ref (q 0)), (1, .int (nI a)), (2, .int (nI j)), (3, .int x), (4, .int (upd (v 3) j x a)), (5, .int (nI o))]) (fun o => 10 - o) (fun o ls hI ih => ?_) (0) ⟨⟨by omega, rfl⟩, lv_sub hl [2, 3, 4, 5, 1, 0] rfl⟩
  obtain ⟨hj, hl⟩ := hI
  refine lv_iload hx hb dX0_sharesWordIf_12 (lv_at hl 5 rfl) ?_
  refine lv_bipush (v := 10) hx hb dX0_sharesWordIf_14 (by decide) ?_
  refine lv_icmp_ge (tgt := 46) hx hb dX0_sharesWordIf_16 (by decide) (fun c16 => ?_) (fun c16 => ?_)
  · have c16n : 10 ≤ o := (nI_leI (a := 10) (b := o) (by omega) (by omega)).mp c16
    obtain rfl : o = 10 := by omega
    refine lv_iconst (v := 0) hx hb dX0_sharesWordIf_46 (by decide) ?_
    exact W.zret hx hb hr rfl (fun t ht hW => ⟨_, rfl, b2i_0 hj.2, ht⟩) (fun q hq => absurd hq List.not_mem_nil) dX0_sharesWordIf_47
  · have c16n : ¬ 10 ≤ o := fun h9 => c16 ((nI_leI (a := 10) (b := o) (by omega) (by omega)).mpr h9)
    refine lv_iload hx hb dX0_sharesWordIf_19 (lv_at hl 5 rfl) ?_
    refine lv_iload_n hx hb dX0_sharesWordIf_21 rfl (lv_at hl 1 rfl) ?_
    refine lv_icmp_eq (tgt := 40) hx hb dX0_sharesWordIf_22 (by decide) (fun c22 => ?_) (fun c22 => ?_)
    · have c22n : o = a := (nI_eq (a := o) (b := a) (by omega) (by omega)).mp c22
      refine lv_iinc (v := (nI (o + 1))) (lv' := [(5, .int (nI (o + 1))), (0, .ref (q 0)), (1, .int (nI a)), (2, .int (nI j)), (3, .int x), (4, .int (upd (v 3) j x a))]) hx hb dX0_sharesWordIf_40 hl (k := 5) rfl (nI_1 _) (by decide) rfl (fun ls hl => ?_)
      refine lv_goto (tgt := 12) hx hb dX0_sharesWordIf_43 (by decide) ?_
      exact ih (o + 1) ls (by omega) ⟨⟨by omega, exB_f hj.2 (by first | exact shE_a c22n | exact shE_w c35)⟩, by exact lv_sub hl [1, 2, 3, 4, 5, 0] rfl⟩
    · have c22n : ¬ o = a := fun h9 => c22 ((nI_eq (a := o) (b := a) (by omega) (by omega)).mpr h9)
      refine lv_aload_n hx hb dX0_sharesWordIf_25 rfl (lv_at hl 0 rfl) ?_
      refine lv_iload hx hb dX0_sharesWordIf_26 (lv_at hl 5 rfl) ?_
      refine lv_iload_n hx hb dX0_sharesWordIf_28 rfl (lv_at hl 2 rfl) ?_
      refine lv_iload_n hx hb dX0_sharesWordIf_29 rfl (lv_at hl 3 rfl) ?_
      refine cVi (As := [.int (nI o), .int (nI j), .int x]) (rest := []) hF (mX0_wordIf o j x (by omega) (by omega)) C0.mv hX (C0.rc hX) jyX0_wordIf kl_RX0_234 ⟨rfl, rfl⟩ ⟨Nat.le_of_ble_eq_true rfl, Nat.le_of_ble_eq_true rfl⟩ rfl hl.1 rfl (Nat.le_of_ble_eq_true rfl) ⟨Nat.zero_le _, Nat.zero_le _⟩ dX0_sharesWordIf_30 (fun r hr9 => ?_)
      subst hr9
      refine lv_iload hx hb dX0_sharesWordIf_33 (lv_at hl 4 rfl) ?_
      refine lv_icmp_ne (tgt := 40) hx hb dX0_sharesWordIf_35 (by decide) (fun c35 => ?_) (fun c35 => ?_)
      · refine lv_iinc (v := (nI (o + 1))) (lv' := [(5, .int (nI (o + 1))), (0, .ref (q 0)), (1, .int (nI a)), (2, .int (nI j)), (3, .int x), (4, .int (upd (v 3) j x a))]) hx hb dX0_sharesWordIf_40 hl (k := 5) rfl (nI_1 _) (by decide) rfl (fun ls hl => ?_)
        refine lv_goto (tgt := 12) hx hb dX0_sharesWordIf_43 (by decide) ?_
        exact ih (o + 1) ls (by omega) ⟨⟨by omega, exB_f hj.2 (by first | exact shE_a c22n | exact shE_w c35)⟩, by exact lv_sub hl [1, 2, 3, 4, 5, 0] rfl⟩
      · refine lv_iconst (v := 1) hx hb dX0_sharesWordIf_38 (by decide) ?_
        exact W.zret hx hb hr rfl (fun t ht hW => ⟨_, rfl, b2i_1 (exB_in (i := o) (by omega) (shE_t c22n c35)), ht⟩) (fun q hq => absurd hq List.not_mem_nil) dX0_sharesWordIf_39
set_option maxHeartbeats 4000000 in
set_option maxRecDepth 100000 in
theorem mX0_unmendedWith (hok : Ok N st v) (by1 : Int32) (hby : ∃ s : Nat, s < 4 ∧ by1 = nI (s + 1)) (i : Nat) (x : Int32) (hi : i < 10) : Met l yX0_unmendedWith (wm yX0_unmendedWith cX0_unmendedWith 9 (some .int)) ({ frames := 3, cells := 0, slots := 0, locals := 67 } : Room) (va_Pc [.ref (q 0), .int by1, .int (nI i), .int x] (fun U => C0 D cyI cyZ q (nI N) st v mk w U U.heap)) (vp_Si (fun r => r = unm v (upd (v 3) i x) by1 N)) 0 0 (fun _ => False) := by
  refine mt (by decide) (Nat.le_of_ble_eq_true rfl) ?_
  intro p ev s m below meth c ls hF hr hlocks hnm hX hl
  have hF : CallFix p m c cX0_unmendedWith 9 s _ wA RX0 := hF
  obtain ⟨hx, hb, hml, hown, hts⟩ := id hF
  have hX : C0 D cyI cyZ q (nI N) st v mk w s s.heap := hX
  have hl : lv_has ls 9 [(0, .ref (q 0)), (1, .int by1), (2, .int (nI i)), (3, .int x)] := hl
  have hN := hok.1
  refine lv_iconst (v := 0) hx hb dX0_unmendedWith_0 (by decide) ?_
  refine lv_istore (lv' := [(4, .int 0), (0, .ref (q 0)), (1, .int by1), (2, .int (nI i)), (3, .int x)]) hx hb dX0_unmendedWith_1 hl (by decide) rfl (fun ls hl => ?_)
  refine lv_bipush (v := 12) hx hb dX0_unmendedWith_3 (by decide) ?_
  refine lv_istore (lv' := [(5, .int 12), (4, .int 0), (0, .ref (q 0)), (1, .int by1), (2, .int (nI i)), (3, .int x)]) hx hb dX0_unmendedWith_5 hl (by decide) rfl (fun ls hl => ?_)
  refine lv_iconst (v := 0) hx hb dX0_unmendedWith_7 (by decide) ?_
  refine lv_istore (lv' := [(6, .int 0), (5, .int 12), (4, .int 0), (0, .ref (q 0)), (1, .int by1), (2, .int (nI i)), (3, .int x)]) hx hb dX0_unmendedWith_8 hl (by decide) rfl (fun ls hl => ?_)
  refine lpW (σ := Nat) (fun k ls => (k ≤ N) ∧ lv_has ls 9 [(0, .ref (q 0)), (1, .int by1), (2, .int (nI i)), (3, .int x), (4, .int (ctB (umP v (upd (v 3) i x) by1) k)), (5, .int (nt (v 0) by1 k)), (6, .int (nI k))]) (fun k => N - k) (fun k ls hI ih => ?_) (0) ⟨by omega, lv_sub hl [3, 4, 5, 6, 2, 1, 0] rfl⟩
  obtain ⟨hj, hl⟩ := hI
  refine lv_iload hx hb dX0_unmendedWith_10 (lv_at hl 6 rfl) ?_
  refine lv_aload_n hx hb dX0_unmendedWith_12 rfl (lv_at hl 0 rfl) ?_
  refine C0.get hF hX 5 (by decide) rfl rfl kf_RX0_59 dX0_unmendedWith_13 ?_
  refine lv_icmp_ge (tgt := 89) hx hb dX0_unmendedWith_16 (by decide) (fun c16 => ?_) (fun c16 => ?_)
  · have c16n : N ≤ k := (nI_leI (a := N) (b := k) (by omega) (by omega)).mp c16
    obtain rfl : k = N := by omega
    refine lv_iload hx hb dX0_unmendedWith_89 (lv_at hl 4 rfl) ?_
    exact W.iret hx hb hr (fun t ht hW => ⟨_, rfl, rfl, ht⟩) (fun q hq => absurd hq List.not_mem_nil) dX0_unmendedWith_91
  · have c16n : ¬ N ≤ k := fun h9 => c16 ((nI_leI (a := N) (b := k) (by omega) (by omega)).mpr h9)
    refine lv_iload hx hb dX0_unmendedWith_19 (lv_at hl 5 rfl) ?_
    refine lv_aload_n hx hb dX0_unmendedWith_21 rfl (lv_at hl 0 rfl) ?_
    refine C0.get hF hX 0 (by decide) rfl rfl kf_RX0_9 dX0_unmendedWith_22 ?_
    refine lv_iload hx hb dX0_unmendedWith_25 (lv_at hl 6 rfl) ?_
    refine aldI hF hX.2.1 hX.1 1 0 rfl rfl k (by omega) (by decide) rfl dX0_unmendedWith_27 ?_
    refine lv_iload_n hx hb dX0_unmendedWith_28 rfl (lv_at hl 1 rfl) ?_
    refine lv_imul hx hb dX0_unmendedWith_29 ?_
    refine cSi (As := [.int (nt (v 0) by1 k), .int ((v 0 k) * by1)]) (rest := []) hF (mX0_noteBehind (nt (v 0) by1 k) ((v 0 k) * by1)) Mv.const trivial jyX0_noteBehind kl_RX0_227 ⟨rfl, rfl⟩ ⟨Nat.le_of_ble_eq_true rfl, Nat.le_of_ble_eq_true rfl⟩ rfl hl.1 rfl (Nat.le_of_ble_eq_true rfl) ⟨Nat.zero_le _, Nat.zero_le _⟩ dX0_unmendedWith_30 (fun r hr9 => ?_)
    subst hr9
    refine lv_istore (lv' := [(7, .int (nb (nt (v 0) by1 k) ((v 0 k) * by1))), (0, .ref (q 0)), (1, .int by1), (2, .int (nI i)), (3, .int x), (4, .int (ctB (umP v (upd (v 3) i x) by1) k)), (5, .int (nt (v 0) by1 k)), (6, .int (nI k))]) hx hb dX0_unmendedWith_33 hl (by decide) rfl (fun ls hl => ?_)
    refine lv_iload hx hb dX0_unmendedWith_35 (lv_at hl 0 rfl) ?_
    refine lv_iload hx hb dX0_unmendedWith_37 (lv_at hl 6 rfl) ?_
    refine lv_iload_n hx hb dX0_unmendedWith_39 rfl (lv_at hl 2 rfl) ?_
    refine lv_iconst (v := (nI 7 - 3)) hx hb dX0_unmendedWith_40 (by decide) ?_
    refine cSi (As := [.int (nb (nt (v 0) by1 k) ((v 0 k) * by1)), .int (nt (v 0) by1 k), .int by1, .int (nI 7 - 3)]) (rest := []) hF (mX0_turnsSungAs (nb (nt (v 0) by1 k) ((v 0 k) * by1)) (nt (v 0) by1 k) 7 (by omega)) Mv.const trivial jyX0_turnsSungAs kl_RX0_129 ⟨rfl, rfl⟩ ⟨Nat.le_of_ble_eq_true rfl, Nat.le_of_ble_eq_true rfl⟩ rfl hl.1 rfl (Nat.le_of_ble_eq_true rfl) ⟨Nat.zero_le _, Nat.zero_le _⟩ dX0_unmendedWith_41 (fun r hr9 => ?_)
    subst hr9
    refine lv_iconst (v := 1) hx hb dX0_unmendedWith_44 (by decide) ?_
    refine lv_icmp_le (tgt := 52) hx hb dX0_unmendedWith_45 (by decide) (fun c45 => ?_) (fun c45 => ?_)
    · refine lv_iconst (v := 0) hx hb dX0_unmendedWith_52 (by decide) ?_
      refine lv_istore (lv' := [(8, .int 0), (7, .int (nb (nt (v 0) by1 k) ((v 0 k) * by1))), (0, .ref (q 0)), (1, .int by1), (2, .int (nI i)), (3, .int x), (4, .int (ctB (umP v (upd (v 3) i x) by1) k)), (5, .int (nt (v 0) by1 k)), (6, .int (nI k))]) hx hb dX0_unmendedWith_53 hl (by decide) rfl (fun ls hl => ?_)
      refine lv_iload hx hb dX0_unmendedWith_55 (lv_at hl 0 rfl) ?_
      refine lv_if_ne (tgt := 76) hx hb dX0_unmendedWith_57 (by decide) (fun c57 => ?_) (fun c57 => ?_)
      · exact absurd rfl c57
      · refine lv_aload_n hx hb dX0_unmendedWith_60 rfl (lv_at hl 2 rfl) ?_
        refine lv_aload_n hx hb dX0_unmendedWith_61 rfl (lv_at hl 2 rfl) ?_
        refine C0.get hF hX 2 (by decide) rfl rfl kf_RX0_16 dX0_unmendedWith_62 ?_
        refine lv_iload hx hb dX0_unmendedWith_65 (lv_at hl 8 rfl) ?_
        refine aldI hF hX.2.1 hX.1 3 0 rfl rfl k (by omega) (by decide) rfl dX0_unmendedWith_67 ?_
        refine topI (show (v 2 k) = nI (ix (v 2 k)) from okM hok k) ?_
        refine lv_iload_n hx hb dX0_unmendedWith_68 rfl (lv_at hl 4 rfl) ?_
        refine lv_iload_n hx hb dX0_unmendedWith_69 rfl (lv_at hl 5 rfl) ?_
        refine cVi (As := [.int (nI (ix (v 2 k))), .int (nI i), .int x]) (rest := []) hF (mX0_sharesWordIf (ix (v 2 k)) i x (okM10 hok k) (by omega)) C0.mv hX (C0.rc hX) jyX0_sharesWordIf kl_RX0_230 ⟨rfl, rfl⟩ ⟨Nat.le_of_ble_eq_true rfl, Nat.le_of_ble_eq_true rfl⟩ rfl hl.1 rfl (Nat.le_of_ble_eq_true rfl) ⟨Nat.zero_le _, Nat.zero_le _⟩ dX0_unmendedWith_70 (fun r hr9 => ?_)
        subst hr9
        refine lv_if_eq (tgt := 79) hx hb dX0_unmendedWith_73 (by decide) (fun c73 => ?_) (fun c73 => ?_)
        · have c73b := b2i_f c73
          refine lv_iload hx hb dX0_unmendedWith_79 (lv_at hl 1 rfl) ?_
          refine lv_istore (lv' := [(5, .int (nb (nt (v 0) by1 k) ((v 0 k) * by1))), (8, .int 0), (7, .int (nb (nt (v 0) by1 k) ((v 0 k) * by1))), (0, .ref (q 0)), (1, .int by1), (2, .int (nI i)), (3, .int x), (4, .int (ctB (umP v (upd (v 3) i x) by1) k)), (6, .int (nI k))]) hx hb dX0_unmendedWith_81 hl (by decide) rfl (fun ls hl => ?_)
          refine lv_iinc (v := (nI (k + 1))) (lv' := [(6, .int (nI (k + 1))), (5, .int (nb (nt (v 0) by1 k) ((v 0 k) * by1))), (8, .int 0), (7, .int (nb (nt (v 0) by1 k) ((v 0 k) * by1))), (0, .ref (q 0)), (1, .int by1), (2, .int (nI i)), (3, .int x), (4, .int (ctB (umP v (upd (v 3) i x) by1) k))]) hx hb dX0_unmendedWith_83 hl (k := 8) rfl (nI_1 _) (by decide) rfl (fun ls hl => ?_)
          refine lv_goto (tgt := 10) hx hb dX0_unmendedWith_86 (by decide) ?_
          exact ih (k + 1) ls (by omega) ⟨by omega, by rw [ctB_f (um_f hok hby c45 c73b)]; exact lv_sub hl [4, 5, 6, 7, 8, 1, 0] rfl⟩
        · have c73b := b2i_t c73
          refine lv_iinc (v := ((ctB (umP v (upd (v 3) i x) by1) k) + 1)) (lv' := [(4, .int ((ctB (umP v (upd (v 3) i x) by1) k) + 1)), (8, .int 0), (7, .int (nb (nt (v 0) by1 k) ((v 0 k) * by1))), (0, .ref (q 0)), (1, .int by1), (2, .int (nI i)), (3, .int x), (5, .int (nt (v 0) by1 k)), (6, .int (nI k))]) hx hb dX0_unmendedWith_76 hl (k := 6) rfl (rfl) (by decide) rfl (fun ls hl => ?_)
          refine lv_iload hx hb dX0_unmendedWith_79 (lv_at hl 2 rfl) ?_
          refine lv_istore (lv' := [(5, .int (nb (nt (v 0) by1 k) ((v 0 k) * by1))), (4, .int ((ctB (umP v (upd (v 3) i x) by1) k) + 1)), (8, .int 0), (7, .int (nb (nt (v 0) by1 k) ((v 0 k) * by1))), (0, .ref (q 0)), (1, .int by1), (2, .int (nI i)), (3, .int x), (6, .int (nI k))]) hx hb dX0_unmendedWith_81 hl (by decide) rfl (fun ls hl => ?_)
          refine lv_iinc (v := (nI (k + 1))) (lv' := [(6, .int (nI (k + 1))), (5, .int (nb (nt (v 0) by1 k) ((v 0 k) * by1))), (4, .int ((ctB (umP v (upd (v 3) i x) by1) k) + 1)), (8, .int 0), (7, .int (nb (nt (v 0) by1 k) ((v 0 k) * by1))), (0, .ref (q 0)), (1, .int by1), (2, .int (nI i)), (3, .int x)]) hx hb dX0_unmendedWith_83 hl (k := 8) rfl (nI_1 _) (by decide) rfl (fun ls hl => ?_)
          refine lv_goto (tgt := 10) hx hb dX0_unmendedWith_86 (by decide) ?_
          exact ih (k + 1) ls (by omega) ⟨by omega, by rw [ctB_t (um_t2 hok c73b)]; exact lv_sub hl [5, 6, 7, 8, 2, 1, 0] rfl⟩
    · refine lv_iconst (v := 1) hx hb dX0_unmendedWith_48 (by decide) ?_
      refine lv_goto (tgt := 53) hx hb dX0_unmendedWith_49 (by decide) ?_
      refine lv_istore (lv' := [(8, .int 1), (7, .int (nb (nt (v 0) by1 k) ((v 0 k) * by1))), (0, .ref (q 0)), (1, .int by1), (2, .int (nI i)), (3, .int x), (4, .int (ctB (umP v (upd (v 3) i x) by1) k)), (5, .int (nt (v 0) by1 k)), (6, .int (nI k))]) hx hb dX0_unmendedWith_53 hl (by decide) rfl (fun ls hl => ?_)
      refine lv_iload hx hb dX0_unmendedWith_55 (lv_at hl 0 rfl) ?_
      refine lv_if_ne (tgt := 76) hx hb dX0_unmendedWith_57 (by decide) (fun c57 => ?_) (fun c57 => ?_)
      · 
        refine lv_iinc (v := ((ctB (umP v (upd (v 3) i x) by1) k) + 1)) (lv' := [(4, .int ((ctB (umP v (upd (v 3) i x) by1) k) + 1)), (8, .int 1), (7, .int (nb (nt (v 0) by1 k) ((v 0 k) * by1))), (0, .ref (q 0)), (1, .int by1), (2, .int (nI i)), (3, .int x), (5, .int (nt (v 0) by1 k)), (6, .int (nI k))]) hx hb dX0_unmendedWith_76 hl (k := 6) rfl (rfl) (by decide) rfl (fun ls hl => ?_)
        refine lv_iload hx hb dX0_unmendedWith_79 (lv_at hl 2 rfl) ?_
        refine lv_istore (lv' := [(5, .int (nb (nt (v 0) by1 k) ((v 0 k) * by1))), (4, .int ((ctB (umP v (upd (v 3) i x) by1) k) + 1)), (8, .int 1), (7, .int (nb (nt (v 0) by1 k) ((v 0 k) * by1))), (0, .ref (q 0)), (1, .int by1), (2, .int (nI i)), (3, .int x), (6, .int (nI k))]) hx hb dX0_unmendedWith_81 hl (by decide) rfl (fun ls hl => ?_)
        refine lv_iinc (v := (nI (k + 1))) (lv' := [(6, .int (nI (k + 1))), (5, .int (nb (nt (v 0) by1 k) ((v 0 k) * by1))), (4, .int ((ctB (umP v (upd (v 3) i x) by1) k) + 1)), (8, .int 1), (7, .int (nb (nt (v 0) by1 k) ((v 0 k) * by1))), (0, .ref (q 0)), (1, .int by1), (2, .int (nI i)), (3, .int x)]) hx hb dX0_unmendedWith_83 hl (k := 8) rfl (nI_1 _) (by decide) rfl (fun ls hl => ?_)
        refine lv_goto (tgt := 10) hx hb dX0_unmendedWith_86 (by decide) ?_
        exact ih (k + 1) ls (by omega) ⟨by omega, by rw [ctB_t (um_t1 hok hby c45)]; exact lv_sub hl [5, 6, 7, 8, 2, 1, 0] rfl⟩
      · exact absurd c57 (by decide)
set_option maxHeartbeats 4000000 in
set_option maxRecDepth 100000 in
theorem mX0_ambiguousWith (hok : Ok N st v) (i x : Nat) (hi : i < 10) (hx10 : x < 10) : Met l yX0_ambiguousWith (wm yX0_ambiguousWith cX0_ambiguousWith 3 (some .int)) ({ frames := 4, cells := 0, slots := 0, locals := 95 } : Room) (va_Pc [.ref (q 0), .int (nI i), .int (nI x)] (fun U => C0 D cyI cyZ q (nI N) st v mk w U U.heap)) (vp_Si (fun r => r = unW v st N i (nI x))) 0 0 (fun _ => False) := by
  refine mt (by decide) (Nat.le_of_ble_eq_true rfl) ?_
  intro p ev s m below meth c ls hF hr hlocks hnm hX hl
  have hF : CallFix p m c cX0_ambiguousWith 3 s _ wA RX0 := hF
  obtain ⟨hx, hb, hml, hown, hts⟩ := id hF
  have hX : C0 D cyI cyZ q (nI N) st v mk w s s.heap := hX
  have hl : lv_has ls 3 [(0, .ref (q 0)), (1, .int (nI i)), (2, .int (nI x))] := hl
  have hN := hok.1
  refine lv_iload_n hx hb dX0_ambiguousWith_0 rfl (lv_at hl 1 rfl) ?_
  refine cSv (As := [.int (nI i)]) (rest := []) hF (mX0_checkLandmark i (by omega)) Mv.const trivial jyX0_checkLandmark kl_RX0_78 ⟨rfl, rfl⟩ ⟨Nat.le_of_ble_eq_true rfl, Nat.le_of_ble_eq_true rfl⟩ rfl hl.1 rfl (Nat.le_of_ble_eq_true rfl) ⟨Nat.zero_le _, Nat.zero_le _⟩ dX0_ambiguousWith_1 ?_
  refine lv_iload_n hx hb dX0_ambiguousWith_4 rfl (lv_at hl 2 rfl) ?_
  refine cSv (As := [.int (nI x)]) (rest := []) hF (mX0_checkWord x (by omega)) Mv.const trivial jyX0_checkWord kl_RX0_126 ⟨rfl, rfl⟩ ⟨Nat.le_of_ble_eq_true rfl, Nat.le_of_ble_eq_true rfl⟩ rfl hl.1 rfl (Nat.le_of_ble_eq_true rfl) ⟨Nat.zero_le _, Nat.zero_le _⟩ dX0_ambiguousWith_5 ?_
  refine lv_aload_n hx hb dX0_ambiguousWith_8 rfl (lv_at hl 0 rfl) ?_
  refine lv_aload_n hx hb dX0_ambiguousWith_9 rfl (lv_at hl 0 rfl) ?_
  refine C0.get hF hX 6 (by decide) rfl rfl kf_RX0_38 dX0_ambiguousWith_10 ?_
  refine lv_iload_n hx hb dX0_ambiguousWith_13 rfl (lv_at hl 1 rfl) ?_
  refine lv_iload_n hx hb dX0_ambiguousWith_14 rfl (lv_at hl 2 rfl) ?_
  refine cVi (As := [.int st, .int (nI i), .int (nI x)]) (rest := []) hF (mX0_unmendedWith hok st hok.2.1 i (nI x) (by omega)) C0.mv hX (C0.rc hX) jyX0_unmendedWith kl_RX0_162 ⟨rfl, rfl⟩ ⟨Nat.le_of_ble_eq_true rfl, Nat.le_of_ble_eq_true rfl⟩ rfl hl.1 rfl (Nat.le_of_ble_eq_true rfl) ⟨Nat.zero_le _, Nat.zero_le _⟩ dX0_ambiguousWith_15 (fun r hr9 => ?_)
  subst hr9
  exact W.iret hx hb hr (fun t ht hW => ⟨_, rfl, rfl, ht⟩) (fun q hq => absurd hq List.not_mem_nil) dX0_ambiguousWith_18
set_option maxHeartbeats 4000000 in
set_option maxRecDepth 100000 in
theorem mX0_bestWord (hok : Ok N st v) (i : Nat) (hi : i < 10) : Met l yX0_bestWord (wm yX0_bestWord cX0_bestWord 6 (some .int)) ({ frames := 4, cells := 0, slots := 0, locals := 95 } : Room) (va_Pc [.ref (q 0), .int (nI i)] (fun U => C0 D cyI cyZ q (nI N) st v mk w U U.heap)) (vp_Si (fun r => r = nI (bwd v st N i))) 0 0 (fun _ => False) := by
  refine mt (by decide) (Nat.le_of_ble_eq_true rfl) ?_
  intro p ev s m below meth c ls hF hr hlocks hnm hX hl
  have hF : CallFix p m c cX0_bestWord 6 s _ wA RX0 := hF
  obtain ⟨hx, hb, hml, hown, hts⟩ := id hF
  have hX : C0 D cyI cyZ q (nI N) st v mk w s s.heap := hX
  have hl : lv_has ls 6 [(0, .ref (q 0)), (1, .int (nI i))] := hl
  have hN := hok.1
  refine lv_iload_n hx hb dX0_bestWord_0 rfl (lv_at hl 1 rfl) ?_
  refine cSv (As := [.int (nI i)]) (rest := []) hF (mX0_checkLandmark i (by omega)) Mv.const trivial jyX0_checkLandmark kl_RX0_78 ⟨rfl, rfl⟩ ⟨Nat.le_of_ble_eq_true rfl, Nat.le_of_ble_eq_true rfl⟩ rfl hl.1 rfl (Nat.le_of_ble_eq_true rfl) ⟨Nat.zero_le _, Nat.zero_le _⟩ dX0_bestWord_1 ?_
  refine lv_iconst (v := (nI 0)) hx hb dX0_bestWord_4 (by decide) ?_
  refine lv_istore_n (lv' := [(2, .int (nI 0)), (0, .ref (q 0)), (1, .int (nI i))]) hx hb dX0_bestWord_5 rfl hl (by decide) rfl (fun ls hl => ?_)
  refine lv_aload_n hx hb dX0_bestWord_6 rfl (lv_at hl 1 rfl) ?_
  refine lv_aload_n hx hb dX0_bestWord_7 rfl (lv_at hl 1 rfl) ?_
  refine C0.get hF hX 6 (by decide) rfl rfl kf_RX0_38 dX0_bestWord_8 ?_
  refine lv_iload_n hx hb dX0_bestWord_11 rfl (lv_at hl 2 rfl) ?_
  refine lv_iconst (v := (nI 0)) hx hb dX0_bestWord_12 (by decide) ?_
  refine cVi (As := [.int st, .int (nI i), .int (nI 0)]) (rest := []) hF (mX0_unmendedWith hok st hok.2.1 i (nI 0) (by omega)) C0.mv hX (C0.rc hX) jyX0_unmendedWith kl_RX0_162 ⟨rfl, rfl⟩ ⟨Nat.le_of_ble_eq_true rfl, Nat.le_of_ble_eq_true rfl⟩ rfl hl.1 rfl (Nat.le_of_ble_eq_true rfl) ⟨Nat.zero_le _, Nat.zero_le _⟩ dX0_bestWord_13 (fun r hr9 => ?_)
  subst hr9
  refine lv_istore_n (lv' := [(3, .int (unm v (upd (v 3) i (nI 0)) st N)), (2, .int (nI 0)), (0, .ref (q 0)), (1, .int (nI i))]) hx hb dX0_bestWord_16 rfl hl (by decide) rfl (fun ls hl => ?_)
  refine lv_iconst (v := (nI 1)) hx hb dX0_bestWord_17 (by decide) ?_
  refine lv_istore (lv' := [(4, .int (nI 1)), (3, .int (unm v (upd (v 3) i (nI 0)) st N)), (2, .int (nI 0)), (0, .ref (q 0)), (1, .int (nI i))]) hx hb dX0_bestWord_18 hl (by decide) rfl (fun ls hl => ?_)
  refine lpW (σ := Nat) (fun j ls => (j ≤ 9) ∧ lv_has ls 6 [(0, .ref (q 0)), (1, .int (nI i)), (2, .int (nI (amin (fun x => unW v st N i (nI x)) j))), (3, .int (unW v st N i (nI (amin (fun x => unW v st N i (nI x)) j)))), (4, .int (nI (j + 1)))]) (fun j => 9 - j) (fun j ls hI ih => ?_) (0) ⟨by omega, lv_sub hl [3, 4, 2, 1, 0] rfl⟩
  obtain ⟨hj, hl⟩ := hI
  refine lv_iload hx hb dX0_bestWord_20 (lv_at hl 4 rfl) ?_
  refine lv_bipush (v := 10) hx hb dX0_bestWord_22 (by decide) ?_
  refine lv_icmp_ge (tgt := 58) hx hb dX0_bestWord_24 (by decide) (fun c24 => ?_) (fun c24 => ?_)
  · have c24n : 10 ≤ (j + 1) := (nI_leI (a := 10) (b := (j + 1)) (by omega) (by omega)).mp c24
    obtain rfl : j = 9 := by omega
    refine lv_iload_n hx hb dX0_bestWord_58 rfl (lv_at hl 2 rfl) ?_
    exact W.iret hx hb hr (fun t ht hW => ⟨_, rfl, rfl, ht⟩) (fun q hq => absurd hq List.not_mem_nil) dX0_bestWord_59
  · have c24n : ¬ 10 ≤ (j + 1) := fun h9 => c24 ((nI_leI (a := 10) (b := (j + 1)) (by omega) (by omega)).mpr h9)
    refine lv_aload_n hx hb dX0_bestWord_27 rfl (lv_at hl 0 rfl) ?_
    refine lv_aload_n hx hb dX0_bestWord_28 rfl (lv_at hl 0 rfl) ?_
    refine C0.get hF hX 6 (by decide) rfl rfl kf_RX0_38 dX0_bestWord_29 ?_
    refine lv_iload_n hx hb dX0_bestWord_32 rfl (lv_at hl 1 rfl) ?_
    refine lv_iload hx hb dX0_bestWord_33 (lv_at hl 4 rfl) ?_
    refine cVi (As := [.int st, .int (nI i), .int (nI (j + 1))]) (rest := []) hF (mX0_unmendedWith hok st hok.2.1 i (nI (j + 1)) (by omega)) C0.mv hX (C0.rc hX) jyX0_unmendedWith kl_RX0_162 ⟨rfl, rfl⟩ ⟨Nat.le_of_ble_eq_true rfl, Nat.le_of_ble_eq_true rfl⟩ rfl hl.1 rfl (Nat.le_of_ble_eq_true rfl) ⟨Nat.zero_le _, Nat.zero_le _⟩ dX0_bestWord_35 (fun r hr9 => ?_)
    subst hr9
    refine lv_istore (lv' := [(5, .int (unm v (upd (v 3) i (nI (j + 1))) st N)), (0, .ref (q 0)), (1, .int (nI i)), (2, .int (nI (amin (fun x => unW v st N i (nI x)) j))), (3, .int (unW v st N i (nI (amin (fun x => unW v st N i (nI x)) j)))), (4, .int (nI (j + 1)))]) hx hb dX0_bestWord_38 hl (by decide) rfl (fun ls hl => ?_)
    refine lv_iload hx hb dX0_bestWord_40 (lv_at hl 0 rfl) ?_
    refine lv_iload_n hx hb dX0_bestWord_42 rfl (lv_at hl 4 rfl) ?_
    refine lv_icmp_ge (tgt := 52) hx hb dX0_bestWord_43 (by decide) (fun c43 => ?_) (fun c43 => ?_)
    · refine lv_iinc (v := (nI (j + 1 + 1))) (lv' := [(4, .int (nI (j + 1 + 1))), (5, .int (unm v (upd (v 3) i (nI (j + 1))) st N)), (0, .ref (q 0)), (1, .int (nI i)), (2, .int (nI (amin (fun x => unW v st N i (nI x)) j))), (3, .int (unW v st N i (nI (amin (fun x => unW v st N i (nI x)) j))))]) hx hb dX0_bestWord_52 hl (k := 5) rfl (nI_1 _) (by decide) rfl (fun ls hl => ?_)
      refine lv_goto (tgt := 20) hx hb dX0_bestWord_55 (by decide) ?_
      exact ih (j + 1) ls (by omega) ⟨by omega, by rw [amin_f (f := (fun x => unW v st N i (nI x))) (k := j) (Int32.not_lt.mpr c43)]; exact lv_sub hl [2, 3, 4, 5, 0] rfl⟩
    · refine lv_iload hx hb dX0_bestWord_46 (lv_at hl 0 rfl) ?_
      refine lv_istore_n (lv' := [(3, .int (unm v (upd (v 3) i (nI (j + 1))) st N)), (5, .int (unm v (upd (v 3) i (nI (j + 1))) st N)), (0, .ref (q 0)), (1, .int (nI i)), (2, .int (nI (amin (fun x => unW v st N i (nI x)) j))), (4, .int (nI (j + 1)))]) hx hb dX0_bestWord_48 rfl hl (by decide) rfl (fun ls hl => ?_)
      refine lv_iload hx hb dX0_bestWord_49 (lv_at hl 5 rfl) ?_
      refine lv_istore_n (lv' := [(2, .int (nI (j + 1))), (3, .int (unm v (upd (v 3) i (nI (j + 1))) st N)), (5, .int (unm v (upd (v 3) i (nI (j + 1))) st N)), (0, .ref (q 0)), (1, .int (nI i)), (4, .int (nI (j + 1)))]) hx hb dX0_bestWord_51 rfl hl (by decide) rfl (fun ls hl => ?_)
      refine lv_iinc (v := (nI (j + 1 + 1))) (lv' := [(4, .int (nI (j + 1 + 1))), (2, .int (nI (j + 1))), (3, .int (unm v (upd (v 3) i (nI (j + 1))) st N)), (5, .int (unm v (upd (v 3) i (nI (j + 1))) st N)), (0, .ref (q 0)), (1, .int (nI i))]) hx hb dX0_bestWord_52 hl (k := 5) rfl (nI_1 _) (by decide) rfl (fun ls hl => ?_)
      refine lv_goto (tgt := 20) hx hb dX0_bestWord_55 (by decide) ?_
      exact ih (j + 1) ls (by omega) ⟨by omega, by rw [amin_t (f := (fun x => unW v st N i (nI x))) (k := j) (Int32.not_le.mp c43)]; exact lv_sub hl [4, 5, 1, 2, 0] rfl⟩
set_option maxHeartbeats 4000000 in
set_option maxRecDepth 100000 in
theorem mX0_bestStep (hok : Ok N st v) : Met l yX0_bestStep (wm yX0_bestStep cX0_bestStep 5 (some .int)) ({ frames := 4, cells := 0, slots := 0, locals := 95 } : Room) (va_Pc [.ref (q 0)] (fun U => C0 D cyI cyZ q (nI N) st v mk w U U.heap)) (vp_Si (fun r => r = nI (bst v N))) 0 0 (fun _ => False) := by
  refine mt (by decide) (Nat.le_of_ble_eq_true rfl) ?_
  intro p ev s m below meth c ls hF hr hlocks hnm hX hl
  have hF : CallFix p m c cX0_bestStep 5 s _ wA RX0 := hF
  obtain ⟨hx, hb, hml, hown, hts⟩ := id hF
  have hX : C0 D cyI cyZ q (nI N) st v mk w s s.heap := hX
  have hl : lv_has ls 5 [(0, .ref (q 0))] := hl
  have hN := hok.1
  refine lv_iconst (v := (nI (0 + 1))) hx hb dX0_bestStep_0 (by decide) ?_
  refine lv_istore_n (lv' := [(1, .int (nI (0 + 1))), (0, .ref (q 0))]) hx hb dX0_bestStep_1 rfl hl (by decide) rfl (fun ls hl => ?_)
  refine lv_aload_n hx hb dX0_bestStep_2 rfl (lv_at hl 1 rfl) ?_
  refine lv_iconst (v := (nI (0 + 1))) hx hb dX0_bestStep_3 (by decide) ?_
  refine lv_iconst (v := (nI 0)) hx hb dX0_bestStep_4 (by decide) ?_
  refine lv_aload_n hx hb dX0_bestStep_5 rfl (lv_at hl 1 rfl) ?_
  refine C0.get hF hX 4 (by decide) rfl rfl kf_RX0_23 dX0_bestStep_6 ?_
  refine lv_iconst (v := 0) hx hb dX0_bestStep_9 (by decide) ?_
  refine aldI hF hX.2.1 hX.1 5 0 rfl rfl 0 (by omega) (by decide) rfl dX0_bestStep_10 ?_
  refine cVi (As := [.int (nI (0 + 1)), .int (nI 0), .int (v 3 0)]) (rest := []) hF (mX0_unmendedWith hok (nI (0 + 1)) ⟨_, by omega, rfl⟩ 0 (v 3 0) (by omega)) C0.mv hX (C0.rc hX) jyX0_unmendedWith kl_RX0_162 ⟨rfl, rfl⟩ ⟨Nat.le_of_ble_eq_true rfl, Nat.le_of_ble_eq_true rfl⟩ rfl hl.1 rfl (Nat.le_of_ble_eq_true rfl) ⟨Nat.zero_le _, Nat.zero_le _⟩ dX0_bestStep_11 (fun r hr9 => ?_)
  subst hr9
  refine topI (show (unm v (upd (v 3) 0 (v 3 0)) (nI (0 + 1)) N) = unm v (v 3) (nI (0 + 1)) N from by rw [upd_self]) ?_
  refine lv_istore_n (lv' := [(2, .int (unm v (v 3) (nI (0 + 1)) N)), (1, .int (nI (0 + 1))), (0, .ref (q 0))]) hx hb dX0_bestStep_14 rfl hl (by decide) rfl (fun ls hl => ?_)
  refine lv_iconst (v := (nI (0 + 2))) hx hb dX0_bestStep_15 (by decide) ?_
  refine lv_istore_n (lv' := [(3, .int (nI (0 + 2))), (2, .int (unm v (v 3) (nI (0 + 1)) N)), (1, .int (nI (0 + 1))), (0, .ref (q 0))]) hx hb dX0_bestStep_16 rfl hl (by decide) rfl (fun ls hl => ?_)
  refine lpW (σ := Nat) (fun j ls => (j ≤ 3) ∧ lv_has ls 5 [(0, .ref (q 0)), (1, .int (nI (amin (fun x => unm v (v 3) (nI (x + 1)) N) j + 1))), (2, .int (unm v (v 3) (nI (amin (fun x => unm v (v 3) (nI (x + 1)) N) j + 1)) N)), (3, .int (nI (j + 2)))]) (fun j => 3 - j) (fun j ls hI ih => ?_) (0) ⟨by omega, lv_sub hl [3, 2, 1, 0] rfl⟩
  obtain ⟨hj, hl⟩ := hI
  refine lv_iload_n hx hb dX0_bestStep_17 rfl (lv_at hl 3 rfl) ?_
  refine lv_iconst (v := 4) hx hb dX0_bestStep_18 (by decide) ?_
  refine lv_icmp_gt (tgt := 53) hx hb dX0_bestStep_19 (by decide) (fun c19 => ?_) (fun c19 => ?_)
  · have c19n : 4 < (j + 2) := (nI_ltI (a := 4) (b := (j + 2)) (by omega) (by omega)).mp c19
    obtain rfl : j = 3 := by omega
    refine lv_iload_n hx hb dX0_bestStep_53 rfl (lv_at hl 1 rfl) ?_
    exact W.iret hx hb hr (fun t ht hW => ⟨_, rfl, rfl, ht⟩) (fun q hq => absurd hq List.not_mem_nil) dX0_bestStep_54
  · have c19n : ¬ 4 < (j + 2) := fun h9 => c19 ((nI_ltI (a := 4) (b := (j + 2)) (by omega) (by omega)).mpr h9)
    refine lv_aload_n hx hb dX0_bestStep_22 rfl (lv_at hl 0 rfl) ?_
    refine lv_iload_n hx hb dX0_bestStep_23 rfl (lv_at hl 3 rfl) ?_
    refine lv_iconst (v := (nI 0)) hx hb dX0_bestStep_24 (by decide) ?_
    refine lv_aload_n hx hb dX0_bestStep_25 rfl (lv_at hl 0 rfl) ?_
    refine C0.get hF hX 4 (by decide) rfl rfl kf_RX0_23 dX0_bestStep_26 ?_
    refine lv_iconst (v := 0) hx hb dX0_bestStep_29 (by decide) ?_
    refine aldI hF hX.2.1 hX.1 5 0 rfl rfl 0 (by omega) (by decide) rfl dX0_bestStep_30 ?_
    refine cVi (As := [.int (nI (j + 2)), .int (nI 0), .int (v 3 0)]) (rest := []) hF (mX0_unmendedWith hok (nI (j + 2)) ⟨_, by omega, rfl⟩ 0 (v 3 0) (by omega)) C0.mv hX (C0.rc hX) jyX0_unmendedWith kl_RX0_162 ⟨rfl, rfl⟩ ⟨Nat.le_of_ble_eq_true rfl, Nat.le_of_ble_eq_true rfl⟩ rfl hl.1 rfl (Nat.le_of_ble_eq_true rfl) ⟨Nat.zero_le _, Nat.zero_le _⟩ dX0_bestStep_31 (fun r hr9 => ?_)
    subst hr9
    refine topI (show (unm v (upd (v 3) 0 (v 3 0)) (nI (j + 2)) N) = unm v (v 3) (nI (j + 1 + 1)) N from by rw [upd_self]) ?_
    refine lv_istore (lv' := [(4, .int (unm v (v 3) (nI (j + 1 + 1)) N)), (0, .ref (q 0)), (1, .int (nI (amin (fun x => unm v (v 3) (nI (x + 1)) N) j + 1))), (2, .int (unm v (v 3) (nI (amin (fun x => unm v (v 3) (nI (x + 1)) N) j + 1)) N)), (3, .int (nI (j + 2)))]) hx hb dX0_bestStep_34 hl (by decide) rfl (fun ls hl => ?_)
    refine lv_iload hx hb dX0_bestStep_36 (lv_at hl 0 rfl) ?_
    refine lv_iload_n hx hb dX0_bestStep_38 rfl (lv_at hl 3 rfl) ?_
    refine lv_icmp_ge (tgt := 47) hx hb dX0_bestStep_39 (by decide) (fun c39 => ?_) (fun c39 => ?_)
    · refine lv_iinc (v := (nI (j + 2 + 1))) (lv' := [(3, .int (nI (j + 2 + 1))), (4, .int (unm v (v 3) (nI (j + 1 + 1)) N)), (0, .ref (q 0)), (1, .int (nI (amin (fun x => unm v (v 3) (nI (x + 1)) N) j + 1))), (2, .int (unm v (v 3) (nI (amin (fun x => unm v (v 3) (nI (x + 1)) N) j + 1)) N))]) hx hb dX0_bestStep_47 hl (k := 4) rfl (nI_1 _) (by decide) rfl (fun ls hl => ?_)
      refine lv_goto (tgt := 17) hx hb dX0_bestStep_50 (by decide) ?_
      exact ih (j + 1) ls (by omega) ⟨by omega, by rw [amin_f (f := (fun x => unm v (v 3) (nI (x + 1)) N)) (k := j) (Int32.not_lt.mpr c39)]; exact lv_sub hl [2, 3, 4, 0] rfl⟩
    · refine lv_iload hx hb dX0_bestStep_42 (lv_at hl 0 rfl) ?_
      refine lv_istore_n (lv' := [(2, .int (unm v (v 3) (nI (j + 1 + 1)) N)), (4, .int (unm v (v 3) (nI (j + 1 + 1)) N)), (0, .ref (q 0)), (1, .int (nI (amin (fun x => unm v (v 3) (nI (x + 1)) N) j + 1))), (3, .int (nI (j + 2)))]) hx hb dX0_bestStep_44 rfl hl (by decide) rfl (fun ls hl => ?_)
      refine lv_iload_n hx hb dX0_bestStep_45 rfl (lv_at hl 4 rfl) ?_
      refine lv_istore_n (lv' := [(1, .int (nI (j + 2))), (2, .int (unm v (v 3) (nI (j + 1 + 1)) N)), (4, .int (unm v (v 3) (nI (j + 1 + 1)) N)), (0, .ref (q 0)), (3, .int (nI (j + 2)))]) hx hb dX0_bestStep_46 rfl hl (by decide) rfl (fun ls hl => ?_)
      refine lv_iinc (v := (nI (j + 2 + 1))) (lv' := [(3, .int (nI (j + 2 + 1))), (1, .int (nI (j + 2))), (2, .int (unm v (v 3) (nI (j + 1 + 1)) N)), (4, .int (unm v (v 3) (nI (j + 1 + 1)) N)), (0, .ref (q 0))]) hx hb dX0_bestStep_47 hl (k := 4) rfl (nI_1 _) (by decide) rfl (fun ls hl => ?_)
      refine lv_goto (tgt := 17) hx hb dX0_bestStep_50 (by decide) ?_
      exact ih (j + 1) ls (by omega) ⟨by omega, by rw [amin_t (f := (fun x => unm v (v 3) (nI (x + 1)) N)) (k := j) (Int32.not_le.mp c39)]; exact lv_sub hl [4, 1, 2, 0] rfl⟩
end P12
end
section
section P13
variable {l : Launch} {D : va_G} {cyI cyZ : ClassId} {q : Nat → Nat} {N K : Nat} {n st th md : Int32} {v w : Nat → Nat → Int32} {mk : Nat → Bool}
variable {t1 t2 : Nat}
set_option maxHeartbeats 4000000 in
set_option maxRecDepth 100000 in
theorem mJ9_floorMod_7cf53 (x y : Int32) (hy : ¬ y = 0) : Met l yJ9_floorMod_7cf53 (wm yJ9_floorMod_7cf53 cJ9_floorMod_7cf53 3 (some .int)) ({ frames := 0, cells := 0, slots := 0, locals := 0 } : Room) (va_Pc [.int x, .int y] (fun U => (fun _ _ => True : State → Heap → Prop) U U.heap)) (vp_Si (fun r => r = fmd x y)) 0 0 (fun _ => False) := by
  refine mtF (by decide +kernel) (Nat.le_of_ble_eq_true rfl) ?_
  intro p ev s m below meth c ls hF hr hlocks hnm hX hl
  have hF : CallFix p m c cJ9_floorMod_7cf53 3 s _ wA RJ9 := hF
  obtain ⟨hx, hb, hml, hown, hts⟩ := id hF
  have hl : lv_has ls 3 [(0, .int x), (1, .int y)] := hl
  refine lv_iload_n hx hb dJ9_floorMod_7cf53_0 rfl (lv_at hl 0 rfl) ?_
  refine lv_iload_n hx hb dJ9_floorMod_7cf53_1 rfl (lv_at hl 1 rfl) ?_
  refine lv_irem hx hb dJ9_floorMod_7cf53_2 hy ?_
  refine lv_istore_n (lv' := [(2, .int (x - x / y * y)), (0, .int x), (1, .int y)]) hx hb dJ9_floorMod_7cf53_3 rfl hl (by decide) rfl (fun ls hl => ?_)
  refine lv_iload_n hx hb dJ9_floorMod_7cf53_4 rfl (lv_at hl 1 rfl) ?_
  refine lv_iload_n hx hb dJ9_floorMod_7cf53_5 rfl (lv_at hl 2 rfl) ?_
  refine lv_ixor hx hb dJ9_floorMod_7cf53_6 ?_
  refine lv_if_ge (tgt := 18) hx hb dJ9_floorMod_7cf53_7 (by decide) (fun c7 => ?_) (fun c7 => ?_)
  · refine lv_iload_n hx hb dJ9_floorMod_7cf53_18 rfl (lv_at hl 0 rfl) ?_
    exact W.iret hx hb hr (fun t ht hW => ⟨_, rfl, (fmd_1 c7), ht⟩) (fun q hq => absurd hq List.not_mem_nil) dJ9_floorMod_7cf53_19
  · refine lv_iload_n hx hb dJ9_floorMod_7cf53_10 rfl (lv_at hl 0 rfl) ?_
    refine lv_if_eq (tgt := 18) hx hb dJ9_floorMod_7cf53_11 (by decide) (fun c11 => ?_) (fun c11 => ?_)
    · refine lv_iload_n hx hb dJ9_floorMod_7cf53_18 rfl (lv_at hl 0 rfl) ?_
      exact W.iret hx hb hr (fun t ht hW => ⟨_, rfl, (fmd_2 c11), ht⟩) (fun q hq => absurd hq List.not_mem_nil) dJ9_floorMod_7cf53_19
    · refine lv_iload_n hx hb dJ9_floorMod_7cf53_14 rfl (lv_at hl 0 rfl) ?_
      refine lv_iload_n hx hb dJ9_floorMod_7cf53_15 rfl (lv_at hl 2 rfl) ?_
      refine lv_iadd hx hb dJ9_floorMod_7cf53_16 ?_
      exact W.iret hx hb hr (fun t ht hW => ⟨_, rfl, (fmd_3 c7 c11), ht⟩) (fun q hq => absurd hq List.not_mem_nil) dJ9_floorMod_7cf53_17
set_option maxHeartbeats 4000000 in
set_option maxRecDepth 100000 in
theorem mX0_follow (i : Nat) (hok : Ok N st v) (hde : Der i st v w) (hi : i ≤ N) : Met l yX0_follow (wm yX0_follow cX0_follow 4 none) ({ frames := 2, cells := 0, slots := 0, locals := 42 } : Room) (va_Pc [.ref (q 0), .int (nI i)] (fun U => (fun U H => C0 D cyI cyZ q (nI N) st v mk w U H ∧ (ST t1 t2 (own 10 q)) U H : State → Heap → Prop) U U.heap)) (va_Qv (fun (u : Nat → Nat → Int32) => Der N st v u) (fun u U => (fun (u : Nat → Nat → Int32) => (C0 D cyI cyZ q (nI N) st v mk u : State → Heap → Prop)) u U U.heap) (own 10 q)) 0 0 (own 10 q) := by
  refine mt (by decide) (Nat.le_of_ble_eq_true rfl) ?_
  intro p ev s m below meth c ls hF hr hlocks hnm hX hl
  have hF : CallFix p m c cX0_follow 4 s _ wA RX0 := hF
  obtain ⟨hx, hb, hml, hown, hts⟩ := id hF
  have hZ0 : (ST t1 t2 (own 10 q)) s s.heap := hX.2
  have hX : C0 D cyI cyZ q (nI N) st v mk w s s.heap := hX.1
  have hl : lv_has ls 4 [(0, .ref (q 0)), (1, .int (nI i))] := hl
  have hS : va_S (own 10 q) s.heap s.heap [] := va_S.rf
  have hN := hok.1
  refine lv_iload_n hx hb dX0_follow_0 rfl (lv_at hl 1 rfl) ?_
  refine lv_istore_n (lv' := [(2, .int (nI i)), (0, .ref (q 0)), (1, .int (nI i))]) hx hb dX0_follow_1 rfl hl (by decide) rfl (fun ls hl => ?_)
  refine lpH2 (σ := Nat) (τ := Nat → Nat → Int32) (fun j w ls H locs => (i ≤ j ∧ j ≤ N ∧ Der j st v w) ∧ C0 D cyI cyZ q (nI N) st v mk w s H ∧ va_S (own 10 q) s.heap H locs ∧ lv_has ls 4 [(0, .ref (q 0)), (1, .int (nI i)), (2, .int (nI j))]) (fun j w => N - j) (fun j w ls H locs hI ih => ?_) (i) w ⟨⟨Nat.le_refl i, hi, hde⟩, hX, hS, lv_sub hl [1, 2, 0] rfl⟩
  obtain ⟨hj, hX, hS, hl⟩ := hI
  refine lv_iload_n hx hb dX0_follow_2 rfl (lv_at hl 2 rfl) ?_
  refine lv_aload_n hx hb dX0_follow_3 rfl (lv_at hl 0 rfl) ?_
  refine C0.get hF hX 5 (by decide) rfl rfl kf_RX0_59 dX0_follow_4 ?_
  refine lv_icmp_ge (tgt := 114) hx hb dX0_follow_7 (by decide) (fun c7 => ?_) (fun c7 => ?_)
  · have c7n : N ≤ j := (nI_leI (a := N) (b := j) (by omega) (by omega)).mp c7
    obtain rfl : j = N := by omega
    exact W.vret hx hb hr (fun t ht hW => ⟨⟨w, rfl, hj.2.2, wEnd C0.mv hX ht hW⟩, hS.F ht⟩) hS.2.2 dX0_follow_114
  · have c7n : ¬ N ≤ j := fun h9 => c7 ((nI_leI (a := N) (b := j) (by omega) (by omega)).mpr h9)
    refine lv_aload_n hx hb dX0_follow_10 rfl (lv_at hl 0 rfl) ?_
    refine lv_iload_n hx hb dX0_follow_11 rfl (lv_at hl 2 rfl) ?_
    refine cVi (As := [.int (nI j)]) (rest := []) hF (mX0_headingAhead j hj.2.2 (by omega) (by omega)) C0.mv hX (C0.rc hX) jyX0_headingAhead kl_RX0_215 ⟨rfl, rfl⟩ ⟨Nat.le_of_ble_eq_true rfl, Nat.le_of_ble_eq_true rfl⟩ rfl hl.1 rfl (Nat.le_of_ble_eq_true rfl) ⟨Nat.zero_le _, Nat.zero_le _⟩ dX0_follow_12 (fun r hr9 => ?_)
    subst hr9
    refine lv_aload_n hx hb dX0_follow_15 rfl (lv_at hl 0 rfl) ?_
    refine C0.get hF hX 0 (by decide) rfl rfl kf_RX0_9 dX0_follow_16 ?_
    refine lv_iload_n hx hb dX0_follow_19 rfl (lv_at hl 2 rfl) ?_
    refine aldI hF hX.2.1 hX.1 1 0 rfl rfl j (by omega) (by decide) rfl dX0_follow_20 ?_
    refine lv_iadd hx hb dX0_follow_21 ?_
    refine lv_bipush (v := 8) hx hb dX0_follow_22 (by decide) ?_
    refine cSi (As := [.int ((hd (v 0) j) + (v 0 j)), .int 8]) (rest := []) hF (mJ9_floorMod_7cf53 ((hd (v 0) j) + (v 0 j)) 8 (by decide)) Mv.const trivial jyJ9_floorMod_7cf53 kl_RX0_218 ⟨rfl, rfl⟩ ⟨Nat.le_of_ble_eq_true rfl, Nat.le_of_ble_eq_true rfl⟩ rfl hl.1 rfl (Nat.le_of_ble_eq_true rfl) ⟨Nat.zero_le _, Nat.zero_le _⟩ dX0_follow_24 (fun r hr9 => ?_)
    subst hr9
    refine topI (show (fmd ((hd (v 0) j) + (v 0 j)) 8) = hd (v 0) (j + 1) from rfl) ?_
    refine lv_istore_n (lv' := [(3, .int (hd (v 0) (j + 1))), (0, .ref (q 0)), (1, .int (nI i)), (2, .int (nI j))]) hx hb dX0_follow_27 rfl hl (by decide) rfl (fun ls hl => ?_)
    refine lv_aload_n hx hb dX0_follow_28 rfl (lv_at hl 1 rfl) ?_
    refine C0.get hF hX 7 (by decide) rfl rfl kf_RX0_26 dX0_follow_29 ?_
    refine lv_iload_n hx hb dX0_follow_32 rfl (lv_at hl 3 rfl) ?_
    refine lv_iload_n hx hb dX0_follow_33 rfl (lv_at hl 0 rfl) ?_
    refine C0.st_w0 hF hX hS j (by omega) rfl dX0_follow_34 (fun H locs hX hS => ?_)
    refine lv_aload_n hx hb dX0_follow_35 rfl (lv_at hl 1 rfl) ?_
    refine C0.get hF hX 8 (by decide) rfl rfl kf_RX0_29 dX0_follow_36 ?_
    refine lv_iload_n hx hb dX0_follow_39 rfl (lv_at hl 3 rfl) ?_
    refine lv_aload_n hx hb dX0_follow_40 rfl (lv_at hl 1 rfl) ?_
    refine lv_iload_n hx hb dX0_follow_41 rfl (lv_at hl 3 rfl) ?_
    refine cVi (As := [.int (nI j)]) (rest := [.int (nI j), .ref (q 7)]) hF (mX0_xAhead j (der_up hj.2.2 (Nat.le_refl j) 0 _) (by omega) (by omega)) C0.mv hX (C0.rc hX) jyX0_xAhead kl_RX0_88 ⟨rfl, rfl⟩ ⟨Nat.le_of_ble_eq_true rfl, Nat.le_of_ble_eq_true rfl⟩ rfl hl.1 rfl (Nat.le_of_ble_eq_true rfl) ⟨Nat.zero_le _, Nat.zero_le _⟩ dX0_follow_42 (fun r hr9 => ?_)
    subst hr9
    refine lv_aload_n hx hb dX0_follow_45 rfl (lv_at hl 1 rfl) ?_
    refine C0.get hF hX 1 (by decide) rfl rfl kf_RX0_13 dX0_follow_46 ?_
    refine lv_iload_n hx hb dX0_follow_49 rfl (lv_at hl 3 rfl) ?_
    refine aldI hF hX.2.1 hX.1 2 0 rfl rfl j (by omega) (by decide) rfl dX0_follow_50 ?_
    refine va_gets hx hb hZ0.1 hS hown (hts _ kf_RX0_221) (fun _ h9 => h9) dX0_follow_51 ?_
    refine lv_iload_n hx hb dX0_follow_54 rfl (lv_at hl 0 rfl) ?_
    refine aldT hF hZ0.2.1 hS (ix (hd (v 0) (j + 1))) (hd_ix8 hok (j + 1)) (by decide) (hd_ix hok (j + 1)) rfl dX0_follow_55 ?_
    refine lv_imul hx hb dX0_follow_56 ?_
    refine lv_iadd hx hb dX0_follow_57 ?_
    refine topI (show ((px (v 0) (v 1) j) + ((v 1 j) * (eaT (ix (hd (v 0) (j + 1)))))) = px (v 0) (v 1) (j + 1) from rfl) ?_
    refine C0.st_w1 hF hX hS j (by omega) rfl dX0_follow_58 (fun H locs hX hS => ?_)
    refine lv_aload_n hx hb dX0_follow_59 rfl (lv_at hl 1 rfl) ?_
    refine C0.get hF hX 9 (by decide) rfl rfl kf_RX0_32 dX0_follow_60 ?_
    refine lv_iload_n hx hb dX0_follow_63 rfl (lv_at hl 3 rfl) ?_
    refine lv_aload_n hx hb dX0_follow_64 rfl (lv_at hl 1 rfl) ?_
    refine lv_iload_n hx hb dX0_follow_65 rfl (lv_at hl 3 rfl) ?_
    refine cVi (As := [.int (nI j)]) (rest := [.int (nI j), .ref (q 8)]) hF (mX0_yAhead j (der_up (der_up hj.2.2 (Nat.le_refl j) 0 _) (Nat.le_refl j) 1 _) (by omega) (by omega)) C0.mv hX (C0.rc hX) jyX0_yAhead kl_RX0_92 ⟨rfl, rfl⟩ ⟨Nat.le_of_ble_eq_true rfl, Nat.le_of_ble_eq_true rfl⟩ rfl hl.1 rfl (Nat.le_of_ble_eq_true rfl) ⟨Nat.zero_le _, Nat.zero_le _⟩ dX0_follow_66 (fun r hr9 => ?_)
    subst hr9
    refine lv_aload_n hx hb dX0_follow_69 rfl (lv_at hl 1 rfl) ?_
    refine C0.get hF hX 1 (by decide) rfl rfl kf_RX0_13 dX0_follow_70 ?_
    refine lv_iload_n hx hb dX0_follow_73 rfl (lv_at hl 3 rfl) ?_
    refine aldI hF hX.2.1 hX.1 2 0 rfl rfl j (by omega) (by decide) rfl dX0_follow_74 ?_
    refine va_gets hx hb hZ0.2.2.1 hS hown (hts _ kf_RX0_224) (fun _ h9 => h9) dX0_follow_75 ?_
    refine lv_iload_n hx hb dX0_follow_78 rfl (lv_at hl 0 rfl) ?_
    refine aldT hF hZ0.2.2.2 hS (ix (hd (v 0) (j + 1))) (hd_ix8 hok (j + 1)) (by decide) (hd_ix hok (j + 1)) rfl dX0_follow_79 ?_
    refine lv_imul hx hb dX0_follow_80 ?_
    refine lv_iadd hx hb dX0_follow_81 ?_
    refine topI (show ((py (v 0) (v 1) j) + ((v 1 j) * (noT (ix (hd (v 0) (j + 1)))))) = py (v 0) (v 1) (j + 1) from rfl) ?_
    refine C0.st_w2 hF hX hS j (by omega) rfl dX0_follow_82 (fun H locs hX hS => ?_)
    refine lv_aload_n hx hb dX0_follow_83 rfl (lv_at hl 1 rfl) ?_
    refine C0.get hF hX 10 (by decide) rfl rfl kf_RX0_35 dX0_follow_84 ?_
    refine lv_iload_n hx hb dX0_follow_87 rfl (lv_at hl 3 rfl) ?_
    refine lv_aload_n hx hb dX0_follow_88 rfl (lv_at hl 1 rfl) ?_
    refine lv_iload_n hx hb dX0_follow_89 rfl (lv_at hl 3 rfl) ?_
    refine cVi (As := [.int (nI j)]) (rest := [.int (nI j), .ref (q 9)]) hF (mX0_noteAhead j (der_up (der_up (der_up hj.2.2 (Nat.le_refl j) 0 _) (Nat.le_refl j) 1 _) (Nat.le_refl j) 2 _) (by omega) (by omega)) C0.mv hX (C0.rc hX) jyX0_noteAhead kl_RX0_114 ⟨rfl, rfl⟩ ⟨Nat.le_of_ble_eq_true rfl, Nat.le_of_ble_eq_true rfl⟩ rfl hl.1 rfl (Nat.le_of_ble_eq_true rfl) ⟨Nat.zero_le _, Nat.zero_le _⟩ dX0_follow_90 (fun r hr9 => ?_)
    subst hr9
    refine lv_aload_n hx hb dX0_follow_93 rfl (lv_at hl 1 rfl) ?_
    refine C0.get hF hX 0 (by decide) rfl rfl kf_RX0_9 dX0_follow_94 ?_
    refine lv_iload_n hx hb dX0_follow_97 rfl (lv_at hl 3 rfl) ?_
    refine aldI hF hX.2.1 hX.1 1 0 rfl rfl j (by omega) (by decide) rfl dX0_follow_98 ?_
    refine lv_aload_n hx hb dX0_follow_99 rfl (lv_at hl 1 rfl) ?_
    refine C0.get hF hX 6 (by decide) rfl rfl kf_RX0_38 dX0_follow_100 ?_
    refine lv_imul hx hb dX0_follow_103 ?_
    refine cSi (As := [.int (nt (v 0) st j), .int ((v 0 j) * st)]) (rest := [.int (nI j), .ref (q 9)]) hF (mX0_noteBehind (nt (v 0) st j) ((v 0 j) * st)) Mv.const trivial jyX0_noteBehind kl_RX0_227 ⟨rfl, rfl⟩ ⟨Nat.le_of_ble_eq_true rfl, Nat.le_of_ble_eq_true rfl⟩ rfl hl.1 rfl (Nat.le_of_ble_eq_true rfl) ⟨Nat.zero_le _, Nat.zero_le _⟩ dX0_follow_104 (fun r hr9 => ?_)
    subst hr9
    refine topI (show (nb (nt (v 0) st j) ((v 0 j) * st)) = nt (v 0) st (j + 1) from rfl) ?_
    refine C0.st_w3 hF hX hS j (by omega) rfl dX0_follow_107 (fun H locs hX hS => ?_)
    refine lv_iinc (v := (nI (j + 1))) (lv' := [(2, .int (nI (j + 1))), (3, .int (hd (v 0) (j + 1))), (0, .ref (q 0)), (1, .int (nI i))]) hx hb dX0_follow_108 hl (k := 3) rfl (nI_1 _) (by decide) rfl (fun ls hl => ?_)
    refine lv_goto (tgt := 2) hx hb dX0_follow_111 (by decide) ?_
    exact ih (j + 1) (va_up (va_up (va_up (va_up w 0 (upd (w 0) j (hd (v 0) (j + 1)))) 1 (upd ((va_up w 0 (upd (w 0) j (hd (v 0) (j + 1)))) 1) j (px (v 0) (v 1) (j + 1)))) 2 (upd ((va_up (va_up w 0 (upd (w 0) j (hd (v 0) (j + 1)))) 1 (upd ((va_up w 0 (upd (w 0) j (hd (v 0) (j + 1)))) 1) j (px (v 0) (v 1) (j + 1)))) 2) j (py (v 0) (v 1) (j + 1)))) 3 (upd ((va_up (va_up (va_up w 0 (upd (w 0) j (hd (v 0) (j + 1)))) 1 (upd ((va_up w 0 (upd (w 0) j (hd (v 0) (j + 1)))) 1) j (px (v 0) (v 1) (j + 1)))) 2 (upd ((va_up (va_up w 0 (upd (w 0) j (hd (v 0) (j + 1)))) 1 (upd ((va_up w 0 (upd (w 0) j (hd (v 0) (j + 1)))) 1) j (px (v 0) (v 1) (j + 1)))) 2) j (py (v 0) (v 1) (j + 1)))) 3) j (nt (v 0) st (j + 1)))) ls H locs (by omega) ⟨⟨by omega, by omega, der_next hj.2.2⟩, hX, hS, by exact lv_sub hl [2, 3, 0] rfl⟩
set_option maxHeartbeats 4000000 in
set_option maxRecDepth 100000 in
theorem mX0_dropMarks (hN : N ≤ 16) : Met l yX0_dropMarks (wm yX0_dropMarks cX0_dropMarks 2 none) ({ frames := 0, cells := 0, slots := 0, locals := 0 } : Room) (va_Pc [.ref (q 0)] (fun U => C0 D cyI cyZ q (nI N) st v mk w U U.heap)) (va_Qv (fun (u : Nat → Bool) => ∀ k, k < N → u k = false) (fun u U => (fun (u : Nat → Bool) => (C0 D cyI cyZ q (nI N) st v u w : State → Heap → Prop)) u U U.heap) (own 10 q)) 0 0 (own 10 q) := by
  refine mt (by decide) (Nat.le_of_ble_eq_true rfl) ?_
  intro p ev s m below meth c ls hF hr hlocks hnm hX hl
  have hF : CallFix p m c cX0_dropMarks 2 s _ wA RX0 := hF
  obtain ⟨hx, hb, hml, hown, hts⟩ := id hF
  have hX : C0 D cyI cyZ q (nI N) st v mk w s s.heap := hX
  have hl : lv_has ls 2 [(0, .ref (q 0))] := hl
  have hS : va_S (own 10 q) s.heap s.heap [] := va_S.rf
  refine lv_iconst (v := 0) hx hb dX0_dropMarks_0 (by decide) ?_
  refine lv_istore_n (lv' := [(1, .int 0), (0, .ref (q 0))]) hx hb dX0_dropMarks_1 rfl hl (by decide) rfl (fun ls hl => ?_)
  refine lpH2 (σ := Nat) (τ := Nat → Bool) (fun j mk ls H locs => (j ≤ N ∧ ∀ k, k < j → mk k = false) ∧ C0 D cyI cyZ q (nI N) st v mk w s H ∧ va_S (own 10 q) s.heap H locs ∧ lv_has ls 2 [(0, .ref (q 0)), (1, .int (nI j))]) (fun j mk => N - j) (fun j mk ls H locs hI ih => ?_) (0) mk ⟨⟨by omega, fun k h => absurd h (Nat.not_lt_zero _)⟩, hX, hS, lv_sub hl [1, 0] rfl⟩
  obtain ⟨hj, hX, hS, hl⟩ := hI
  refine lv_iload_n hx hb dX0_dropMarks_2 rfl (lv_at hl 1 rfl) ?_
  refine lv_aload_n hx hb dX0_dropMarks_3 rfl (lv_at hl 0 rfl) ?_
  refine C0.get hF hX 5 (by decide) rfl rfl kf_RX0_59 dX0_dropMarks_4 ?_
  refine lv_icmp_ge (tgt := 23) hx hb dX0_dropMarks_7 (by decide) (fun c7 => ?_) (fun c7 => ?_)
  · have c7n : N ≤ j := (nI_leI (a := N) (b := j) (by omega) (by omega)).mp c7
    obtain rfl : j = N := by omega
    exact W.vret hx hb hr (fun t ht hW => ⟨⟨mk, rfl, hj.2, wEnd C0.mv hX ht hW⟩, hS.F ht⟩) hS.2.2 dX0_dropMarks_23
  · have c7n : ¬ N ≤ j := fun h9 => c7 ((nI_leI (a := N) (b := j) (by omega) (by omega)).mpr h9)
    refine lv_aload_n hx hb dX0_dropMarks_10 rfl (lv_at hl 0 rfl) ?_
    refine C0.get hF hX 3 (by decide) rfl rfl kf_RX0_19 dX0_dropMarks_11 ?_
    refine lv_iload_n hx hb dX0_dropMarks_14 rfl (lv_at hl 1 rfl) ?_
    refine lv_iconst (v := 0) hx hb dX0_dropMarks_15 (by decide) ?_
    refine C0.st_mk_false hF hX hS j (by omega) rfl rfl dX0_dropMarks_16 (fun H locs hX hS => ?_)
    refine lv_iinc (v := (nI (j + 1))) (lv' := [(1, .int (nI (j + 1))), (0, .ref (q 0))]) hx hb dX0_dropMarks_17 hl (k := 1) rfl (nI_1 _) (by decide) rfl (fun ls hl => ?_)
    refine lv_goto (tgt := 2) hx hb dX0_dropMarks_20 (by decide) ?_
    exact ih (j + 1) (va_up mk j false) ls H locs (by omega) ⟨⟨by omega, mk_f hj.2⟩, hX, hS, by exact lv_sub hl [1, 0] rfl⟩
set_option maxHeartbeats 4000000 in
set_option maxRecDepth 100000 in
theorem mX0_addLeg (hok : Ok N st v) (hde : Der N st v w) (e j : Nat) (ln : Int32) (he : e < 7) (hl1 : ¬ ln < 1) (hl9 : ln ≤ 9) (hj10 : j < 10) (hN16 : N < 16) : Met l yX0_addLeg (wm yX0_addLeg cX0_addLeg 5 (some .int)) ({ frames := 3, cells := 0, slots := 0, locals := 65 } : Room) (va_Pc [.ref (q 0), .int (nI e - 3), .int ln, .int (nI j)] (fun U => (fun U H => C0 D cyI cyZ q (nI N) st v mk w U H ∧ (ST t1 t2 (own 10 q)) U H : State → Heap → Prop) U U.heap)) (va_Qi (fun (r : Int32) (u : Nat → Nat → Int32) => r = nI N ∧ Der (N + 1) st (addV v N (nI e - 3) ln (nI j)) u) (fun u U => (fun (u : Nat → Nat → Int32) => (C0 D cyI cyZ q (nI (N + 1)) st (addV v N (nI e - 3) ln (nI j)) (va_up mk N false) u : State → Heap → Prop)) u U U.heap) (own 10 q)) 0 0 (own 10 q) := by
  refine mt (by decide) (Nat.le_of_ble_eq_true rfl) ?_
  intro p ev s m below meth c ls hF hr hlocks hnm hX hl
  have hF : CallFix p m c cX0_addLeg 5 s _ wA RX0 := hF
  obtain ⟨hx, hb, hml, hown, hts⟩ := id hF
  have hZ0 : (ST t1 t2 (own 10 q)) s s.heap := hX.2
  have hX : C0 D cyI cyZ q (nI N) st v mk w s s.heap := hX.1
  have hl : lv_has ls 5 [(0, .ref (q 0)), (1, .int (nI e - 3)), (2, .int ln), (3, .int (nI j))] := hl
  have hS : va_S (own 10 q) s.heap s.heap [] := va_S.rf
  have hN := hok.1
  refine lv_iload_n hx hb dX0_addLeg_0 rfl (lv_at hl 1 rfl) ?_
  refine cSv (As := [.int (nI e - 3)]) (rest := []) hF (mX0_checkTurn e he) Mv.const trivial jyX0_checkTurn kl_RX0_42 ⟨rfl, rfl⟩ ⟨Nat.le_of_ble_eq_true rfl, Nat.le_of_ble_eq_true rfl⟩ rfl hl.1 rfl (Nat.le_of_ble_eq_true rfl) ⟨Nat.zero_le _, Nat.zero_le _⟩ dX0_addLeg_1 ?_
  refine lv_iload_n hx hb dX0_addLeg_4 rfl (lv_at hl 2 rfl) ?_
  refine lv_iconst (v := 1) hx hb dX0_addLeg_5 (by decide) ?_
  refine lv_icmp_lt (tgt := 15) hx hb dX0_addLeg_6 (by decide) (fun c6 => ?_) (fun c6 => ?_)
  · exact absurd c6 hl1
  · refine lv_iload_n hx hb dX0_addLeg_9 rfl (lv_at hl 2 rfl) ?_
    refine lv_bipush (v := 9) hx hb dX0_addLeg_10 (by decide) ?_
    refine lv_icmp_le (tgt := 25) hx hb dX0_addLeg_12 (by decide) (fun c12 => ?_) (fun c12 => ?_)
    · refine lv_iload_n hx hb dX0_addLeg_25 rfl (lv_at hl 3 rfl) ?_
      refine cSi (As := [.int (nI j)]) (rest := []) hF (mX0_isLandmark (nI j)) Mv.const trivial jyX0_isLandmark kl_RX0_53 ⟨rfl, rfl⟩ ⟨Nat.le_of_ble_eq_true rfl, Nat.le_of_ble_eq_true rfl⟩ rfl hl.1 rfl (Nat.le_of_ble_eq_true rfl) ⟨Nat.zero_le _, Nat.zero_le _⟩ dX0_addLeg_26 (fun r hr9 => ?_)
      subst hr9
      refine lv_if_ne (tgt := 42) hx hb dX0_addLeg_29 (by decide) (fun c29 => ?_) (fun c29 => ?_)
      · have c29b := b2i_t c29
        refine lv_aload_n hx hb dX0_addLeg_42 rfl (lv_at hl 0 rfl) ?_
        refine C0.get hF hX 5 (by decide) rfl rfl kf_RX0_59 dX0_addLeg_43 ?_
        refine lv_bipush (v := 16) hx hb dX0_addLeg_46 (by decide) ?_
        refine lv_icmp_lt (tgt := 61) hx hb dX0_addLeg_48 (by decide) (fun c48 => ?_) (fun c48 => ?_)
        · have c48n : N < 16 := (nI_ltI (a := N) (b := 16) (by omega) (by omega)).mp c48
          refine lv_aload_n hx hb dX0_addLeg_61 rfl (lv_at hl 0 rfl) ?_
          refine C0.get hF hX 5 (by decide) rfl rfl kf_RX0_59 dX0_addLeg_62 ?_
          refine lv_istore (lv' := [(4, .int (nI N)), (0, .ref (q 0)), (1, .int (nI e - 3)), (2, .int ln), (3, .int (nI j))]) hx hb dX0_addLeg_65 hl (by decide) rfl (fun ls hl => ?_)
          refine lv_aload_n hx hb dX0_addLeg_67 rfl (lv_at hl 1 rfl) ?_
          refine C0.get hF hX 0 (by decide) rfl rfl kf_RX0_9 dX0_addLeg_68 ?_
          refine lv_iload hx hb dX0_addLeg_71 (lv_at hl 0 rfl) ?_
          refine lv_iload_n hx hb dX0_addLeg_73 rfl (lv_at hl 2 rfl) ?_
          refine C0.st_v0 hF hX hS N (by omega) rfl dX0_addLeg_74 (fun H locs hX hS => ?_)
          refine lv_aload_n hx hb dX0_addLeg_75 rfl (lv_at hl 1 rfl) ?_
          refine C0.get hF hX 1 (by decide) rfl rfl kf_RX0_13 dX0_addLeg_76 ?_
          refine lv_iload hx hb dX0_addLeg_79 (lv_at hl 0 rfl) ?_
          refine lv_iload_n hx hb dX0_addLeg_81 rfl (lv_at hl 3 rfl) ?_
          refine C0.st_v1 hF hX hS N (by omega) rfl dX0_addLeg_82 (fun H locs hX hS => ?_)
          refine lv_aload_n hx hb dX0_addLeg_83 rfl (lv_at hl 1 rfl) ?_
          refine C0.get hF hX 2 (by decide) rfl rfl kf_RX0_16 dX0_addLeg_84 ?_
          refine lv_iload hx hb dX0_addLeg_87 (lv_at hl 0 rfl) ?_
          refine lv_iload_n hx hb dX0_addLeg_89 rfl (lv_at hl 4 rfl) ?_
          refine C0.st_v2 hF hX hS N (by omega) rfl dX0_addLeg_90 (fun H locs hX hS => ?_)
          refine lv_aload_n hx hb dX0_addLeg_91 rfl (lv_at hl 1 rfl) ?_
          refine C0.get hF hX 3 (by decide) rfl rfl kf_RX0_19 dX0_addLeg_92 ?_
          refine lv_iload hx hb dX0_addLeg_95 (lv_at hl 0 rfl) ?_
          refine lv_iconst (v := 0) hx hb dX0_addLeg_97 (by decide) ?_
          refine C0.st_mk_false hF hX hS N (by omega) rfl rfl dX0_addLeg_98 (fun H locs hX hS => ?_)
          refine lv_aload_n hx hb dX0_addLeg_99 rfl (lv_at hl 1 rfl) ?_
          refine lv_iload hx hb dX0_addLeg_100 (lv_at hl 0 rfl) ?_
          refine lv_iconst (v := 1) hx hb dX0_addLeg_102 (by decide) ?_
          refine lv_iadd hx hb dX0_addLeg_103 ?_
          refine topI (show ((nI N) + 1) = nI (N + 1) from nI_1 N) ?_
          refine C0.put_n hF hX hS kf_RX0_59 dX0_addLeg_104 (fun H locs hX hS => ?_)
          refine lv_aload_n hx hb dX0_addLeg_107 rfl (lv_at hl 1 rfl) ?_
          refine lv_iload hx hb dX0_addLeg_108 (lv_at hl 0 rfl) ?_
          refine wVv (As := [.int (nI N)]) (rest := []) hF (mX0_follow N (addV_ok hok hN16 he hj10) (addV_der hde) (by omega)) (Mv.and C0.mv ST.mv) (fun _ => C0.mv) ⟨hX, ST.kept hZ0 hS.2.1⟩ (C0.rc hX) jyX0_follow kl_RX0_67 ⟨rfl, rfl⟩ ⟨Nat.le_of_ble_eq_true rfl, Nat.le_of_ble_eq_true rfl⟩ rfl hl.1 rfl (Nat.le_of_ble_eq_true rfl) ⟨Nat.zero_le _, Nat.zero_le _⟩ hS (fun _ _ h => h) (fun _ h => h) dX0_addLeg_110 (fun u H locs hp hX hz hk hS => ?_)
          obtain ⟨w1, hu9⟩ : ∃ z, z = u := ⟨_, rfl⟩
          rw [← hu9] at hX hp
          have hde1 := hp
          clear hu9
          refine lv_iload hx hb dX0_addLeg_113 (lv_at hl 0 rfl) ?_
          exact W.iret hx hb hr (fun t ht hW => ⟨⟨_, w1, rfl, ⟨rfl, hde1⟩, wEnd C0.mv hX ht hW⟩, hS.F ht⟩) hS.2.2 dX0_addLeg_115
        · have c48n : ¬ N < 16 := fun h9 => c48 ((nI_ltI (a := N) (b := 16) (by omega) (by omega)).mpr h9)
          exact absurd hN16 c48n
      · have c29b := b2i_f c29
        exact absurd (in10_nI hj10) (by rw [c29b]; decide)
    · exact absurd hl9 c12
set_option maxHeartbeats 4000000 in
set_option maxRecDepth 100000 in
theorem mX0_strikeLeg (M : Nat) (hM : M < 16) : Met l yX0_strikeLeg (wm yX0_strikeLeg cX0_strikeLeg 1 (some .int)) ({ frames := 0, cells := 0, slots := 0, locals := 0 } : Room) (va_Pc [.ref (q 0)] (fun U => C0 D cyI cyZ q (nI (M + 1)) st v mk w U U.heap)) (va_Qi (fun (r : Int32) (u : Unit) => r = v 2 M) (fun u U => (fun (u : Unit) => (C0 D cyI cyZ q (nI M) st v mk w : State → Heap → Prop)) u U U.heap) (own 10 q)) 0 0 (own 10 q) := by
  refine mt (by decide) (Nat.le_of_ble_eq_true rfl) ?_
  intro p ev s m below meth c ls hF hr hlocks hnm hX hl
  have hF : CallFix p m c cX0_strikeLeg 1 s _ wA RX0 := hF
  obtain ⟨hx, hb, hml, hown, hts⟩ := id hF
  have hX : C0 D cyI cyZ q (nI (M + 1)) st v mk w s s.heap := hX
  have hl : lv_has ls 1 [(0, .ref (q 0))] := hl
  have hS : va_S (own 10 q) s.heap s.heap [] := va_S.rf
  refine lv_aload_n hx hb dX0_strikeLeg_0 rfl (lv_at hl 0 rfl) ?_
  refine C0.get hF hX 5 (by decide) rfl rfl kf_RX0_59 dX0_strikeLeg_1 ?_
  refine lv_if_gt (tgt := 17) hx hb dX0_strikeLeg_4 (by decide) (fun c4 => ?_) (fun c4 => ?_)
  · have c4n : 0 < (M + 1) := (nI_ltI (a := 0) (b := (M + 1)) (by omega) (by omega)).mp c4
    refine lv_aload_n hx hb dX0_strikeLeg_17 rfl (lv_at hl 0 rfl) ?_
    refine lv_aload_n hx hb dX0_strikeLeg_18 rfl (lv_at hl 0 rfl) ?_
    refine C0.get hF hX 5 (by decide) rfl rfl kf_RX0_59 dX0_strikeLeg_19 ?_
    refine lv_iconst (v := 1) hx hb dX0_strikeLeg_22 (by decide) ?_
    refine lv_isub hx hb dX0_strikeLeg_23 ?_
    refine topI (show ((nI (M + 1)) - 1) = nI M from nI_pred M) ?_
    refine C0.put_n hF hX hS kf_RX0_59 dX0_strikeLeg_24 (fun H locs hX hS => ?_)
    refine lv_aload_n hx hb dX0_strikeLeg_27 rfl (lv_at hl 0 rfl) ?_
    refine C0.get hF hX 2 (by decide) rfl rfl kf_RX0_16 dX0_strikeLeg_28 ?_
    refine lv_aload_n hx hb dX0_strikeLeg_31 rfl (lv_at hl 0 rfl) ?_
    refine C0.get hF hX 5 (by decide) rfl rfl kf_RX0_59 dX0_strikeLeg_32 ?_
    refine aldI hF hX.2.1 hX.1 3 0 rfl rfl M (by omega) (by decide) rfl dX0_strikeLeg_35 ?_
    exact W.iret hx hb hr (fun t ht hW => ⟨⟨_, (), rfl, rfl, wEnd C0.mv hX ht hW⟩, hS.F ht⟩) hS.2.2 dX0_strikeLeg_36
  · have c4n : ¬ 0 < (M + 1) := fun h9 => c4 ((nI_ltI (a := 0) (b := (M + 1)) (by omega) (by omega)).mpr h9)
    exact absurd c4n (by omega)
set_option maxHeartbeats 4000000 in
set_option maxRecDepth 100000 in
theorem mX0_bend (hok : Ok N st v) (hde : Der N st v w) (i e : Nat) (hi : i < N) (he : e < 7) : Met l yX0_bend (wm yX0_bend cX0_bend 4 (some .int)) ({ frames := 3, cells := 0, slots := 0, locals := 65 } : Room) (va_Pc [.ref (q 0), .int (nI i), .int (nI e - 3)] (fun U => (fun U H => C0 D cyI cyZ q (nI N) st v mk w U H ∧ (ST t1 t2 (own 10 q)) U H : State → Heap → Prop) U U.heap)) (va_Qi (fun (r : Int32) (u : (Nat → Bool) × (Nat → Nat → Int32)) => r = v 0 i ∧ (∀ k, k < N → u.1 k = false) ∧ Der N st (va_up v 0 (upd (v 0) i (nI e - 3))) u.2) (fun u U => (fun (u : (Nat → Bool) × (Nat → Nat → Int32)) => (C0 D cyI cyZ q (nI N) st (va_up v 0 (upd (v 0) i (nI e - 3))) u.1 u.2 : State → Heap → Prop)) u U U.heap) (own 10 q)) 0 0 (own 10 q) := by
  refine mt (by decide) (Nat.le_of_ble_eq_true rfl) ?_
  intro p ev s m below meth c ls hF hr hlocks hnm hX hl
  have hF : CallFix p m c cX0_bend 4 s _ wA RX0 := hF
  obtain ⟨hx, hb, hml, hown, hts⟩ := id hF
  have hZ0 : (ST t1 t2 (own 10 q)) s s.heap := hX.2
  have hX : C0 D cyI cyZ q (nI N) st v mk w s s.heap := hX.1
  have hl : lv_has ls 4 [(0, .ref (q 0)), (1, .int (nI i)), (2, .int (nI e - 3))] := hl
  have hS : va_S (own 10 q) s.heap s.heap [] := va_S.rf
  have hN := hok.1
  refine lv_aload_n hx hb dX0_bend_0 rfl (lv_at hl 0 rfl) ?_
  refine lv_iload_n hx hb dX0_bend_1 rfl (lv_at hl 1 rfl) ?_
  refine cVv (As := [.int (nI i)]) (rest := []) hF (mX0_checkLeg i (by omega) (by omega)) C0.mv hX (C0.rc hX) jyX0_checkLeg kl_RX0_72 ⟨rfl, rfl⟩ ⟨Nat.le_of_ble_eq_true rfl, Nat.le_of_ble_eq_true rfl⟩ rfl hl.1 rfl (Nat.le_of_ble_eq_true rfl) ⟨Nat.zero_le _, Nat.zero_le _⟩ dX0_bend_2 ?_
  refine lv_iload_n hx hb dX0_bend_5 rfl (lv_at hl 2 rfl) ?_
  refine cSv (As := [.int (nI e - 3)]) (rest := []) hF (mX0_checkTurn e he) Mv.const trivial jyX0_checkTurn kl_RX0_42 ⟨rfl, rfl⟩ ⟨Nat.le_of_ble_eq_true rfl, Nat.le_of_ble_eq_true rfl⟩ rfl hl.1 rfl (Nat.le_of_ble_eq_true rfl) ⟨Nat.zero_le _, Nat.zero_le _⟩ dX0_bend_6 ?_
  refine lv_aload_n hx hb dX0_bend_9 rfl (lv_at hl 0 rfl) ?_
  refine C0.get hF hX 0 (by decide) rfl rfl kf_RX0_9 dX0_bend_10 ?_
  refine lv_iload_n hx hb dX0_bend_13 rfl (lv_at hl 1 rfl) ?_
  refine aldI hF hX.2.1 hX.1 1 0 rfl rfl i (by omega) (by decide) rfl dX0_bend_14 ?_
  refine lv_istore_n (lv' := [(3, .int (v 0 i)), (0, .ref (q 0)), (1, .int (nI i)), (2, .int (nI e - 3))]) hx hb dX0_bend_15 rfl hl (by decide) rfl (fun ls hl => ?_)
  refine lv_aload_n hx hb dX0_bend_16 rfl (lv_at hl 1 rfl) ?_
  refine C0.get hF hX 0 (by decide) rfl rfl kf_RX0_9 dX0_bend_17 ?_
  refine lv_iload_n hx hb dX0_bend_20 rfl (lv_at hl 2 rfl) ?_
  refine lv_iload_n hx hb dX0_bend_21 rfl (lv_at hl 3 rfl) ?_
  refine C0.st_v0 hF hX hS i (by omega) rfl dX0_bend_22 (fun H locs hX hS => ?_)
  refine lv_aload_n hx hb dX0_bend_23 rfl (lv_at hl 1 rfl) ?_
  refine lv_iload_n hx hb dX0_bend_24 rfl (lv_at hl 2 rfl) ?_
  refine wVv (As := [.int (nI i)]) (rest := []) hF (mX0_follow i (bend_ok hok he) (bend_der (der_le hde (by omega))) (by omega)) (Mv.and C0.mv ST.mv) (fun _ => C0.mv) ⟨hX, ST.kept hZ0 hS.2.1⟩ (C0.rc hX) jyX0_follow kl_RX0_67 ⟨rfl, rfl⟩ ⟨Nat.le_of_ble_eq_true rfl, Nat.le_of_ble_eq_true rfl⟩ rfl hl.1 rfl (Nat.le_of_ble_eq_true rfl) ⟨Nat.zero_le _, Nat.zero_le _⟩ hS (fun _ _ h => h) (fun _ h => h) dX0_bend_25 (fun u H locs hp hX hz hk hS => ?_)
  obtain ⟨w1, hu9⟩ : ∃ z, z = u := ⟨_, rfl⟩
  rw [← hu9] at hX hp
  have hde1 := hp
  clear hu9
  refine lv_aload_n hx hb dX0_bend_28 rfl (lv_at hl 1 rfl) ?_
  refine wVv (As := []) (rest := []) hF (mX0_dropMarks (by omega)) C0.mv (fun _ => C0.mv) hX (C0.rc hX) jyX0_dropMarks kl_RX0_75 ⟨rfl, rfl⟩ ⟨Nat.le_of_ble_eq_true rfl, Nat.le_of_ble_eq_true rfl⟩ rfl hl.1 rfl (Nat.le_of_ble_eq_true rfl) ⟨Nat.zero_le _, Nat.zero_le _⟩ hS (fun _ _ h => h) (fun _ h => h) dX0_bend_29 (fun u H locs hp hX hz hk hS => ?_)
  obtain ⟨mk1, hu9⟩ : ∃ z, z = u := ⟨_, rfl⟩
  rw [← hu9] at hX hp
  have hmk1 := hp
  clear hu9
  refine lv_iload_n hx hb dX0_bend_32 rfl (lv_at hl 0 rfl) ?_
  exact W.iret hx hb hr (fun t ht hW => ⟨⟨_, (mk1, w1), rfl, ⟨rfl, hmk1, hde1⟩, wEnd C0.mv hX ht hW⟩, hS.F ht⟩) hS.2.2 dX0_bend_33
set_option maxHeartbeats 4000000 in
set_option maxRecDepth 100000 in
theorem mX0_setWord (hN : N ≤ 16) (j x : Nat) (hj10 : j < 10) (hx10 : x < 10) : Met l yX0_setWord (wm yX0_setWord cX0_setWord 4 (some .int)) ({ frames := 2, cells := 0, slots := 0, locals := 40 } : Room) (va_Pc [.ref (q 0), .int (nI j), .int (nI x)] (fun U => C0 D cyI cyZ q (nI N) st v mk w U U.heap)) (va_Qi (fun (r : Int32) (u : Nat → Bool) => r = v 3 j ∧ (∀ k, k < N → u k = false)) (fun u U => (fun (u : Nat → Bool) => (C0 D cyI cyZ q (nI N) st (va_up v 3 (upd (v 3) j (nI x))) u w : State → Heap → Prop)) u U U.heap) (own 10 q)) 0 0 (own 10 q) := by
  refine mt (by decide) (Nat.le_of_ble_eq_true rfl) ?_
  intro p ev s m below meth c ls hF hr hlocks hnm hX hl
  have hF : CallFix p m c cX0_setWord 4 s _ wA RX0 := hF
  obtain ⟨hx, hb, hml, hown, hts⟩ := id hF
  have hX : C0 D cyI cyZ q (nI N) st v mk w s s.heap := hX
  have hl : lv_has ls 4 [(0, .ref (q 0)), (1, .int (nI j)), (2, .int (nI x))] := hl
  have hS : va_S (own 10 q) s.heap s.heap [] := va_S.rf
  refine lv_iload_n hx hb dX0_setWord_0 rfl (lv_at hl 1 rfl) ?_
  refine cSv (As := [.int (nI j)]) (rest := []) hF (mX0_checkLandmark j (by omega)) Mv.const trivial jyX0_checkLandmark kl_RX0_78 ⟨rfl, rfl⟩ ⟨Nat.le_of_ble_eq_true rfl, Nat.le_of_ble_eq_true rfl⟩ rfl hl.1 rfl (Nat.le_of_ble_eq_true rfl) ⟨Nat.zero_le _, Nat.zero_le _⟩ dX0_setWord_1 ?_
  refine lv_iload_n hx hb dX0_setWord_4 rfl (lv_at hl 2 rfl) ?_
  refine cSi (As := [.int (nI x)]) (rest := []) hF (mX0_isWord (nI x)) Mv.const trivial jyX0_isWord kl_RX0_81 ⟨rfl, rfl⟩ ⟨Nat.le_of_ble_eq_true rfl, Nat.le_of_ble_eq_true rfl⟩ rfl hl.1 rfl (Nat.le_of_ble_eq_true rfl) ⟨Nat.zero_le _, Nat.zero_le _⟩ dX0_setWord_5 (fun r hr9 => ?_)
  subst hr9
  refine lv_if_ne (tgt := 21) hx hb dX0_setWord_8 (by decide) (fun c8 => ?_) (fun c8 => ?_)
  · have c8b := b2i_t c8
    refine lv_aload_n hx hb dX0_setWord_21 rfl (lv_at hl 0 rfl) ?_
    refine C0.get hF hX 4 (by decide) rfl rfl kf_RX0_23 dX0_setWord_22 ?_
    refine lv_iload_n hx hb dX0_setWord_25 rfl (lv_at hl 1 rfl) ?_
    refine aldI hF hX.2.1 hX.1 5 0 rfl rfl j (by omega) (by decide) rfl dX0_setWord_26 ?_
    refine lv_istore_n (lv' := [(3, .int (v 3 j)), (0, .ref (q 0)), (1, .int (nI j)), (2, .int (nI x))]) hx hb dX0_setWord_27 rfl hl (by decide) rfl (fun ls hl => ?_)
    refine lv_aload_n hx hb dX0_setWord_28 rfl (lv_at hl 1 rfl) ?_
    refine C0.get hF hX 4 (by decide) rfl rfl kf_RX0_23 dX0_setWord_29 ?_
    refine lv_iload_n hx hb dX0_setWord_32 rfl (lv_at hl 2 rfl) ?_
    refine lv_iload_n hx hb dX0_setWord_33 rfl (lv_at hl 3 rfl) ?_
    refine C0.st_v3 hF hX hS j (by omega) rfl dX0_setWord_34 (fun H locs hX hS => ?_)
    refine lv_aload_n hx hb dX0_setWord_35 rfl (lv_at hl 1 rfl) ?_
    refine wVv (As := []) (rest := []) hF (mX0_dropMarks (by omega)) C0.mv (fun _ => C0.mv) hX (C0.rc hX) jyX0_dropMarks kl_RX0_75 ⟨rfl, rfl⟩ ⟨Nat.le_of_ble_eq_true rfl, Nat.le_of_ble_eq_true rfl⟩ rfl hl.1 rfl (Nat.le_of_ble_eq_true rfl) ⟨Nat.zero_le _, Nat.zero_le _⟩ hS (fun _ _ h => h) (fun _ h => h) dX0_setWord_36 (fun u H locs hp hX hz hk hS => ?_)
    obtain ⟨mk1, hu9⟩ : ∃ z, z = u := ⟨_, rfl⟩
    rw [← hu9] at hX hp
    have hmk1 := hp
    clear hu9
    refine lv_iload_n hx hb dX0_setWord_39 rfl (lv_at hl 0 rfl) ?_
    exact W.iret hx hb hr (fun t ht hW => ⟨⟨_, mk1, rfl, ⟨rfl, hmk1⟩, wEnd C0.mv hX ht hW⟩, hS.F ht⟩) hS.2.2 dX0_setWord_40
  · have c8b := b2i_f c8
    exact absurd (in10_nI hx10) (by rw [c8b]; decide)
set_option maxHeartbeats 4000000 in
set_option maxRecDepth 100000 in
theorem mX0_setStep (hok : Ok N st v) (x : Nat) (hx4 : x < 4) : Met l yX0_setStep (wm yX0_setStep cX0_setStep 3 (some .int)) ({ frames := 3, cells := 0, slots := 0, locals := 65 } : Room) (va_Pc [.ref (q 0), .int (nI (x + 1))] (fun U => (fun U H => C0 D cyI cyZ q (nI N) st v mk w U H ∧ (ST t1 t2 (own 10 q)) U H : State → Heap → Prop) U U.heap)) (va_Qi (fun (r : Int32) (u : (Nat → Bool) × (Nat → Nat → Int32)) => r = st ∧ (∀ k, k < N → u.1 k = false) ∧ Der N (nI (x + 1)) v u.2) (fun u U => (fun (u : (Nat → Bool) × (Nat → Nat → Int32)) => (C0 D cyI cyZ q (nI N) (nI (x + 1)) v u.1 u.2 : State → Heap → Prop)) u U U.heap) (own 10 q)) 0 0 (own 10 q) := by
  refine mt (by decide) (Nat.le_of_ble_eq_true rfl) ?_
  intro p ev s m below meth c ls hF hr hlocks hnm hX hl
  have hF : CallFix p m c cX0_setStep 3 s _ wA RX0 := hF
  obtain ⟨hx, hb, hml, hown, hts⟩ := id hF
  have hZ0 : (ST t1 t2 (own 10 q)) s s.heap := hX.2
  have hX : C0 D cyI cyZ q (nI N) st v mk w s s.heap := hX.1
  have hl : lv_has ls 3 [(0, .ref (q 0)), (1, .int (nI (x + 1)))] := hl
  have hS : va_S (own 10 q) s.heap s.heap [] := va_S.rf
  have hN := hok.1
  refine lv_iload_n hx hb dX0_setStep_0 rfl (lv_at hl 1 rfl) ?_
  refine lv_iconst (v := 1) hx hb dX0_setStep_1 (by decide) ?_
  refine lv_icmp_lt (tgt := 10) hx hb dX0_setStep_2 (by decide) (fun c2 => ?_) (fun c2 => ?_)
  · have c2n : (x + 1) < 1 := (nI_ltI (a := (x + 1)) (b := 1) (by omega) (by omega)).mp c2
    exact absurd c2n (by omega)
  · have c2n : ¬ (x + 1) < 1 := fun h9 => c2 ((nI_ltI (a := (x + 1)) (b := 1) (by omega) (by omega)).mpr h9)
    refine lv_iload_n hx hb dX0_setStep_5 rfl (lv_at hl 1 rfl) ?_
    refine lv_iconst (v := 4) hx hb dX0_setStep_6 (by decide) ?_
    refine lv_icmp_le (tgt := 20) hx hb dX0_setStep_7 (by decide) (fun c7 => ?_) (fun c7 => ?_)
    · have c7n : (x + 1) ≤ 4 := (nI_leI (a := (x + 1)) (b := 4) (by omega) (by omega)).mp c7
      refine lv_aload_n hx hb dX0_setStep_20 rfl (lv_at hl 0 rfl) ?_
      refine C0.get hF hX 6 (by decide) rfl rfl kf_RX0_38 dX0_setStep_21 ?_
      refine lv_istore_n (lv' := [(2, .int st), (0, .ref (q 0)), (1, .int (nI (x + 1)))]) hx hb dX0_setStep_24 rfl hl (by decide) rfl (fun ls hl => ?_)
      refine lv_aload_n hx hb dX0_setStep_25 rfl (lv_at hl 1 rfl) ?_
      refine lv_iload_n hx hb dX0_setStep_26 rfl (lv_at hl 2 rfl) ?_
      refine C0.put_st hF hX hS kf_RX0_38 dX0_setStep_27 (fun H locs hX hS => ?_)
      refine lv_aload_n hx hb dX0_setStep_30 rfl (lv_at hl 1 rfl) ?_
      refine lv_iconst (v := (nI 0)) hx hb dX0_setStep_31 (by decide) ?_
      refine wVv (As := [.int (nI 0)]) (rest := []) hF (mX0_follow 0 (show Ok N (nI (x + 1)) v from ⟨hok.1, ⟨x, hx4, rfl⟩, hok.2.2⟩) der_0 (by omega)) (Mv.and C0.mv ST.mv) (fun _ => C0.mv) ⟨hX, ST.kept hZ0 hS.2.1⟩ (C0.rc hX) jyX0_follow kl_RX0_67 ⟨rfl, rfl⟩ ⟨Nat.le_of_ble_eq_true rfl, Nat.le_of_ble_eq_true rfl⟩ rfl hl.1 rfl (Nat.le_of_ble_eq_true rfl) ⟨Nat.zero_le _, Nat.zero_le _⟩ hS (fun _ _ h => h) (fun _ h => h) dX0_setStep_32 (fun u H locs hp hX hz hk hS => ?_)
      obtain ⟨w1, hu9⟩ : ∃ z, z = u := ⟨_, rfl⟩
      rw [← hu9] at hX hp
      have hde1 := hp
      clear hu9
      refine lv_aload_n hx hb dX0_setStep_35 rfl (lv_at hl 1 rfl) ?_
      refine wVv (As := []) (rest := []) hF (mX0_dropMarks (by omega)) C0.mv (fun _ => C0.mv) hX (C0.rc hX) jyX0_dropMarks kl_RX0_75 ⟨rfl, rfl⟩ ⟨Nat.le_of_ble_eq_true rfl, Nat.le_of_ble_eq_true rfl⟩ rfl hl.1 rfl (Nat.le_of_ble_eq_true rfl) ⟨Nat.zero_le _, Nat.zero_le _⟩ hS (fun _ _ h => h) (fun _ h => h) dX0_setStep_36 (fun u H locs hp hX hz hk hS => ?_)
      obtain ⟨mk1, hu9⟩ : ∃ z, z = u := ⟨_, rfl⟩
      rw [← hu9] at hX hp
      have hmk1 := hp
      clear hu9
      refine lv_iload_n hx hb dX0_setStep_39 rfl (lv_at hl 0 rfl) ?_
      exact W.iret hx hb hr (fun t ht hW => ⟨⟨_, (mk1, w1), rfl, ⟨rfl, hmk1, hde1⟩, wEnd C0.mv hX ht hW⟩, hS.F ht⟩) hS.2.2 dX0_setStep_40
    · have c7n : ¬ (x + 1) ≤ 4 := fun h9 => c7 ((nI_leI (a := (x + 1)) (b := 4) (by omega) (by omega)).mpr h9)
      exact absurd c7n (by omega)
set_option maxHeartbeats 4000000 in
set_option maxRecDepth 100000 in
theorem mX0_mend (hok : Ok N st v) (hde : Der N st v w) (i : Nat) (hi : i < N) (ha : amb v st mk i = true) : Met l yX0_mend (wm yX0_mend cX0_mend 2 (some .int)) ({ frames := 5, cells := 0, slots := 0, locals := 110 } : Room) (va_Pc [.ref (q 0), .int (nI i)] (fun U => C0 D cyI cyZ q (nI N) st v mk w U U.heap)) (va_Qi (fun (r : Int32) (u : Unit) => r = rrn v st i) (fun u U => (fun (u : Unit) => (C0 D cyI cyZ q (nI N) st v (va_up mk i true) w : State → Heap → Prop)) u U U.heap) (own 10 q)) 0 0 (own 10 q) := by
  refine mt (by decide) (Nat.le_of_ble_eq_true rfl) ?_
  intro p ev s m below meth c ls hF hr hlocks hnm hX hl
  have hF : CallFix p m c cX0_mend 2 s _ wA RX0 := hF
  obtain ⟨hx, hb, hml, hown, hts⟩ := id hF
  have hX : C0 D cyI cyZ q (nI N) st v mk w s s.heap := hX
  have hl : lv_has ls 2 [(0, .ref (q 0)), (1, .int (nI i))] := hl
  have hS : va_S (own 10 q) s.heap s.heap [] := va_S.rf
  have hN := hok.1
  refine lv_aload_n hx hb dX0_mend_0 rfl (lv_at hl 0 rfl) ?_
  refine lv_iload_n hx hb dX0_mend_1 rfl (lv_at hl 1 rfl) ?_
  refine cVv (As := [.int (nI i)]) (rest := []) hF (mX0_checkLeg i (by omega) (by omega)) C0.mv hX (C0.rc hX) jyX0_checkLeg kl_RX0_72 ⟨rfl, rfl⟩ ⟨Nat.le_of_ble_eq_true rfl, Nat.le_of_ble_eq_true rfl⟩ rfl hl.1 rfl (Nat.le_of_ble_eq_true rfl) ⟨Nat.zero_le _, Nat.zero_le _⟩ dX0_mend_2 ?_
  refine lv_aload_n hx hb dX0_mend_5 rfl (lv_at hl 0 rfl) ?_
  refine lv_iload_n hx hb dX0_mend_6 rfl (lv_at hl 1 rfl) ?_
  refine cVi (As := [.int (nI i)]) (rest := []) hF (mX0_isAmbiguous hok hde i (by omega)) C0.mv hX (C0.rc hX) jyX0_isAmbiguous kl_RX0_139 ⟨rfl, rfl⟩ ⟨Nat.le_of_ble_eq_true rfl, Nat.le_of_ble_eq_true rfl⟩ rfl hl.1 rfl (Nat.le_of_ble_eq_true rfl) ⟨Nat.zero_le _, Nat.zero_le _⟩ dX0_mend_7 (fun r hr9 => ?_)
  subst hr9
  refine lv_if_ne (tgt := 23) hx hb dX0_mend_10 (by decide) (fun c10 => ?_) (fun c10 => ?_)
  · have c10b := b2i_t c10
    refine lv_aload_n hx hb dX0_mend_23 rfl (lv_at hl 0 rfl) ?_
    refine C0.get hF hX 3 (by decide) rfl rfl kf_RX0_19 dX0_mend_24 ?_
    refine lv_iload_n hx hb dX0_mend_27 rfl (lv_at hl 1 rfl) ?_
    refine lv_iconst (v := 1) hx hb dX0_mend_28 (by decide) ?_
    refine C0.st_mk_true hF hX hS i (by omega) rfl rfl dX0_mend_29 (fun H locs hX hS => ?_)
    refine lv_aload_n hx hb dX0_mend_30 rfl (lv_at hl 0 rfl) ?_
    refine lv_iload_n hx hb dX0_mend_31 rfl (lv_at hl 1 rfl) ?_
    refine cVi (As := [.int (nI i)]) (rest := []) hF (mX0_rightReading hok hde i (by omega)) C0.mv hX (C0.rc hX) jyX0_rightReading kl_RX0_144 ⟨rfl, rfl⟩ ⟨Nat.le_of_ble_eq_true rfl, Nat.le_of_ble_eq_true rfl⟩ rfl hl.1 rfl (Nat.le_of_ble_eq_true rfl) ⟨Nat.zero_le _, Nat.zero_le _⟩ dX0_mend_32 (fun r hr9 => ?_)
    subst hr9
    exact W.iret hx hb hr (fun t ht hW => ⟨⟨_, (), rfl, rfl, wEnd C0.mv hX ht hW⟩, hS.F ht⟩) hS.2.2 dX0_mend_35
  · have c10b := b2i_f c10
    exact absurd ha (by rw [c10b]; decide)
end P13
end
section
section P14
variable {l : Launch} {D : va_G} {cyI cyZ : ClassId} {q : Nat → Nat} {N K : Nat} {n st th md : Int32} {v w : Nat → Nat → Int32} {mk : Nat → Bool}
set_option maxHeartbeats 4000000 in
set_option maxRecDepth 100000 in
theorem mX0_mendTo (hok : Ok N st v) (hde : Der N st v w) (w1 : Int32) (hw1 : ¬ w1 < 1) (hw2 : w1 ≤ 1000000) : Met l yX0_mendTo (wm yX0_mendTo cX0_mendTo 4 (some .int)) ({ frames := 6, cells := 0, slots := 0, locals := 133 } : Room) (va_Pc [.ref (q 0), .int w1] (fun U => C0 D cyI cyZ q (nI N) st v mk w U U.heap)) (va_Qi (fun (r : Int32) (u : Nat → Bool) => r = nI (mdF v st N (Int32.toInt64 w1) N 0 mk).1 ∧ u = (mdF v st N (Int32.toInt64 w1) N 0 mk).2) (fun u U => (fun (u : Nat → Bool) => (C0 D cyI cyZ q (nI N) st v u w : State → Heap → Prop)) u U U.heap) (own 10 q)) 0 0 (own 10 q) := by
  refine mt (by decide) (Nat.le_of_ble_eq_true rfl) ?_
  intro p ev s m below meth c ls hF hr hlocks hnm hX hl
  have hF : CallFix p m c cX0_mendTo 4 s _ wA RX0 := hF
  obtain ⟨hx, hb, hml, hown, hts⟩ := id hF
  have hX : C0 D cyI cyZ q (nI N) st v mk w s s.heap := hX
  have hl : lv_has ls 4 [(0, .ref (q 0)), (1, .int w1)] := hl
  have hS : va_S (own 10 q) s.heap s.heap [] := va_S.rf
  have hN := hok.1
  refine lv_iload_n hx hb dX0_mendTo_0 rfl (lv_at hl 1 rfl) ?_
  refine lv_iconst (v := 1) hx hb dX0_mendTo_1 (by decide) ?_
  refine lv_icmp_lt (tgt := 11) hx hb dX0_mendTo_2 (by decide) (fun c2 => ?_) (fun c2 => ?_)
  · exact absurd c2 hw1
  · refine lv_iload_n hx hb dX0_mendTo_5 rfl (lv_at hl 1 rfl) ?_
    refine lv_ldc hx hb hown (hts _ kk_RX0_147) dX0_mendTo_6 ?_
    refine lv_icmp_le (tgt := 21) hx hb dX0_mendTo_8 (by decide) (fun c8 => ?_) (fun c8 => ?_)
    · refine lv_iconst (v := 0) hx hb dX0_mendTo_21 (by decide) ?_
      refine lv_istore_n (lv' := [(2, .int 0), (0, .ref (q 0)), (1, .int w1)]) hx hb dX0_mendTo_22 rfl hl (by decide) rfl (fun ls hl => ?_)
      refine lpH2 (σ := Nat) (τ := Nat → Bool) (fun j m2 ls H locs => (j ≤ N ∧ mdF v st N (Int32.toInt64 w1) (N - j) j m2 = (mdF v st N (Int32.toInt64 w1) N 0 mk)) ∧ C0 D cyI cyZ q (nI N) st v m2 w s H ∧ va_S (own 10 q) s.heap H locs ∧ lv_has ls 4 [(0, .ref (q 0)), (1, .int w1), (2, .int (nI j))]) (fun j m2 => N - j) (fun j m2 ls H locs hI ih => ?_) (0) mk ⟨⟨Nat.zero_le _, rfl⟩, hX, hS, lv_sub hl [1, 2, 0] rfl⟩
      obtain ⟨hj, hX, hS, hl⟩ := hI
      refine lv_iload_n hx hb dX0_mendTo_23 rfl (lv_at hl 2 rfl) ?_
      refine lv_aload_n hx hb dX0_mendTo_24 rfl (lv_at hl 0 rfl) ?_
      refine C0.get hF hX 5 (by decide) rfl rfl kf_RX0_59 dX0_mendTo_25 ?_
      refine lv_icmp_ge (tgt := 65) hx hb dX0_mendTo_28 (by decide) (fun c28 => ?_) (fun c28 => ?_)
      · have c28n : N ≤ j := (nI_leI (a := N) (b := j) (by omega) (by omega)).mp c28
        have hE := (mdF_0 c28n).symm.trans hj.2
        refine lv_iload_n hx hb dX0_mendTo_65 rfl (lv_at hl 2 rfl) ?_
        exact W.iret hx hb hr (fun t ht hW => ⟨⟨_, m2, rfl, ⟨by rw [← hE], by rw [← hE]⟩, wEnd C0.mv hX ht hW⟩, hS.F ht⟩) hS.2.2 dX0_mendTo_66
      · have c28n : ¬ N ≤ j := fun h9 => c28 ((nI_leI (a := N) (b := j) (by omega) (by omega)).mpr h9)
        refine lv_aload_n hx hb dX0_mendTo_31 rfl (lv_at hl 0 rfl) ?_
        refine cVl (As := []) (rest := []) hF (mX0_ways hok hde) C0.mv hX (C0.rc hX) jyX0_ways kl_RX0_150 ⟨rfl, rfl⟩ ⟨Nat.le_of_ble_eq_true rfl, Nat.le_of_ble_eq_true rfl⟩ rfl hl.1 rfl (Nat.le_of_ble_eq_true rfl) ⟨Nat.zero_le _, Nat.zero_le _⟩ dX0_mendTo_32 (fun r hr9 => ?_)
        subst hr9
        refine lv_iload_n hx hb dX0_mendTo_35 rfl (lv_at hl 1 rfl) ?_
        refine lv_i2l hx hb dX0_mendTo_36 rfl ?_
        refine W.lcmp hx hb dX0_mendTo_37 ?_
        refine lv_if_le (tgt := 65) hx hb dX0_mendTo_38 (by decide) (fun c38 => ?_) (fun c38 => ?_)
        · have hE := (mdF_stop (fun h => absurd ((lg_cmp_le _ _).mp c38) (Int64.not_le.mpr h))).symm.trans hj.2
          refine lv_iload_n hx hb dX0_mendTo_65 rfl (lv_at hl 2 rfl) ?_
          exact W.iret hx hb hr (fun t ht hW => ⟨⟨_, m2, rfl, ⟨by rw [← hE], by rw [← hE]⟩, wEnd C0.mv hX ht hW⟩, hS.F ht⟩) hS.2.2 dX0_mendTo_66
        · refine lv_aload_n hx hb dX0_mendTo_41 rfl (lv_at hl 0 rfl) ?_
          refine cVi (As := []) (rest := []) hF (mX0_mostAmbiguous hok hde) C0.mv hX (C0.rc hX) jyX0_mostAmbiguous kl_RX0_154 ⟨rfl, rfl⟩ ⟨Nat.le_of_ble_eq_true rfl, Nat.le_of_ble_eq_true rfl⟩ rfl hl.1 rfl (Nat.le_of_ble_eq_true rfl) ⟨Nat.zero_le _, Nat.zero_le _⟩ dX0_mendTo_42 (fun r hr9 => ?_)
          subst hr9
          refine lv_istore_n (lv' := [(3, .int (optI (mst v st m2 N))), (0, .ref (q 0)), (1, .int w1), (2, .int (nI j))]) hx hb dX0_mendTo_45 rfl hl (by decide) rfl (fun ls hl => ?_)
          refine lv_iload_n hx hb dX0_mendTo_46 rfl (lv_at hl 0 rfl) ?_
          refine lv_if_ge (tgt := 52) hx hb dX0_mendTo_47 (by decide) (fun c47 => ?_) (fun c47 => ?_)
          · obtain ⟨b, hmb, hbN⟩ := optI_some c47
            refine lv_aload_n hx hb dX0_mendTo_52 rfl (lv_at hl 1 rfl) ?_
            refine C0.get hF hX 3 (by decide) rfl rfl kf_RX0_19 dX0_mendTo_53 ?_
            refine lv_iload_n hx hb dX0_mendTo_56 rfl (lv_at hl 0 rfl) ?_
            refine lv_iconst (v := 1) hx hb dX0_mendTo_57 (by decide) ?_
            refine C0.st_mk_true hF hX hS b (by omega) (by rw [hmb]; rfl) rfl dX0_mendTo_58 (fun H locs hX hS => ?_)
            refine lv_iinc (v := (nI (j + 1))) (lv' := [(2, .int (nI (j + 1))), (3, .int (optI (mst v st m2 N))), (0, .ref (q 0)), (1, .int w1)]) hx hb dX0_mendTo_59 hl (k := 3) rfl (nI_1 _) (by decide) rfl (fun ls hl => ?_)
            refine lv_goto (tgt := 23) hx hb dX0_mendTo_62 (by decide) ?_
            exact ih (j + 1) (va_up m2 b true) ls H locs (by omega) ⟨⟨by omega, (mdF_go (f := N - j) (by omega) ((lg_cmp_gt _ _).mp (Int32.not_le.mp c38)) hmb).symm.trans hj.2⟩, hX, hS, by exact lv_sub hl [2, 3, 0] rfl⟩
          · have hE := (mdF_none (optI_none hN c47)).symm.trans hj.2
            refine lv_iload_n hx hb dX0_mendTo_50 rfl (lv_at hl 3 rfl) ?_
            exact W.iret hx hb hr (fun t ht hW => ⟨⟨_, m2, rfl, ⟨by rw [← hE], by rw [← hE]⟩, wEnd C0.mv hX ht hW⟩, hS.F ht⟩) hS.2.2 dX0_mendTo_51
    · exact absurd hw2 c8
set_option maxHeartbeats 4000000 in
set_option maxRecDepth 100000 in
theorem mX0_digestOfLeg (hok : Ok N st v) (hde : Der N st v w) (d : Int64) (i : Nat) (hi : i < N) : Met l yX0_digestOfLeg (wm yX0_digestOfLeg cX0_digestOfLeg 6 (some .long)) ({ frames := 4, cells := 0, slots := 0, locals := 90 } : Room) (va_Pc [.ref (q 0), .long d, .int (nI i)] (fun U => C0 D cyI cyZ q (nI N) st v mk w U U.heap)) (vp_Sl (fun r => r = dgLeg v st mk d i)) 0 0 (fun _ => False) := by
  refine mt (by decide) (Nat.le_of_ble_eq_true rfl) ?_
  intro p ev s m below meth c ls hF hr hlocks hnm hX hl
  have hF : CallFix p m c cX0_digestOfLeg 6 s _ wA RX0 := hF
  obtain ⟨hx, hb, hml, hown, hts⟩ := id hF
  have hX : C0 D cyI cyZ q (nI N) st v mk w s s.heap := hX
  have hl : lv_has ls 6 [(0, .ref (q 0)), (1, .long d), (3, .int (nI i))] := hl
  have hN := hok.1
  refine lv_lload_n hx hb dX0_digestOfLeg_0 rfl (lv_at hl 1 rfl) ?_
  refine lv_lstore (lv' := [(4, .long d), (0, .ref (q 0)), (1, .long d), (3, .int (nI i))]) hx hb dX0_digestOfLeg_1 hl (by decide) rfl (fun ls hl => ?_)
  refine lv_lload hx hb dX0_digestOfLeg_3 (lv_at hl 0 rfl) ?_
  refine lv_aload_n hx hb dX0_digestOfLeg_5 rfl (lv_at hl 1 rfl) ?_
  refine lv_iload_n hx hb dX0_digestOfLeg_6 rfl (lv_at hl 3 rfl) ?_
  refine cVi (As := [.int (nI i)]) (rest := [.long d]) hF (mX0_turnOf hok hde i (by omega)) C0.mv hX (C0.rc hX) jyX0_turnOf kl_RX0_239 ⟨rfl, rfl⟩ ⟨Nat.le_of_ble_eq_true rfl, Nat.le_of_ble_eq_true rfl⟩ rfl hl.1 rfl (Nat.le_of_ble_eq_true rfl) ⟨Nat.zero_le _, Nat.zero_le _⟩ dX0_digestOfLeg_7 (fun r hr9 => ?_)
  subst hr9
  refine lv_i2l hx hb dX0_digestOfLeg_10 rfl ?_
  refine cSl (As := [.long d, .long (Int32.toInt64 (v 0 i))]) (rest := []) hF (mX0_digested d (Int32.toInt64 (v 0 i))) Mv.const trivial jyX0_digested kl_RX0_171 ⟨rfl, rfl⟩ ⟨Nat.le_of_ble_eq_true rfl, Nat.le_of_ble_eq_true rfl⟩ rfl hl.1 rfl (Nat.le_of_ble_eq_true rfl) ⟨Nat.zero_le _, Nat.zero_le _⟩ dX0_digestOfLeg_11 (fun r hr9 => ?_)
  subst hr9
  refine lv_lstore (lv' := [(4, .long (dg d (Int32.toInt64 (v 0 i)))), (0, .ref (q 0)), (1, .long d), (3, .int (nI i))]) hx hb dX0_digestOfLeg_14 hl (by decide) rfl (fun ls hl => ?_)
  refine lv_lload hx hb dX0_digestOfLeg_16 (lv_at hl 0 rfl) ?_
  refine lv_aload_n hx hb dX0_digestOfLeg_18 rfl (lv_at hl 1 rfl) ?_
  refine lv_iload_n hx hb dX0_digestOfLeg_19 rfl (lv_at hl 3 rfl) ?_
  refine cVi (As := [.int (nI i)]) (rest := [.long (dg d (Int32.toInt64 (v 0 i)))]) hF (mX0_headingOf hok hde i (by omega)) C0.mv hX (C0.rc hX) jyX0_headingOf kl_RX0_242 ⟨rfl, rfl⟩ ⟨Nat.le_of_ble_eq_true rfl, Nat.le_of_ble_eq_true rfl⟩ rfl hl.1 rfl (Nat.le_of_ble_eq_true rfl) ⟨Nat.zero_le _, Nat.zero_le _⟩ dX0_digestOfLeg_20 (fun r hr9 => ?_)
  subst hr9
  refine lv_i2l hx hb dX0_digestOfLeg_23 rfl ?_
  refine cSl (As := [.long (dg d (Int32.toInt64 (v 0 i))), .long (Int32.toInt64 (hd (v 0) (i + 1)))]) (rest := []) hF (mX0_digested (dg d (Int32.toInt64 (v 0 i))) (Int32.toInt64 (hd (v 0) (i + 1)))) Mv.const trivial jyX0_digested kl_RX0_171 ⟨rfl, rfl⟩ ⟨Nat.le_of_ble_eq_true rfl, Nat.le_of_ble_eq_true rfl⟩ rfl hl.1 rfl (Nat.le_of_ble_eq_true rfl) ⟨Nat.zero_le _, Nat.zero_le _⟩ dX0_digestOfLeg_24 (fun r hr9 => ?_)
  subst hr9
  refine lv_lstore (lv' := [(4, .long (dg (dg d (Int32.toInt64 (v 0 i))) (Int32.toInt64 (hd (v 0) (i + 1))))), (0, .ref (q 0)), (1, .long d), (3, .int (nI i))]) hx hb dX0_digestOfLeg_27 hl (by decide) rfl (fun ls hl => ?_)
  refine lv_lload hx hb dX0_digestOfLeg_29 (lv_at hl 0 rfl) ?_
  refine lv_aload_n hx hb dX0_digestOfLeg_31 rfl (lv_at hl 1 rfl) ?_
  refine lv_iload_n hx hb dX0_digestOfLeg_32 rfl (lv_at hl 3 rfl) ?_
  refine cVi (As := [.int (nI i)]) (rest := [.long (dg (dg d (Int32.toInt64 (v 0 i))) (Int32.toInt64 (hd (v 0) (i + 1))))]) hF (mX0_landmarkOf hok hde i (by omega)) C0.mv hX (C0.rc hX) jyX0_landmarkOf kl_RX0_245 ⟨rfl, rfl⟩ ⟨Nat.le_of_ble_eq_true rfl, Nat.le_of_ble_eq_true rfl⟩ rfl hl.1 rfl (Nat.le_of_ble_eq_true rfl) ⟨Nat.zero_le _, Nat.zero_le _⟩ dX0_digestOfLeg_33 (fun r hr9 => ?_)
  subst hr9
  refine lv_i2l hx hb dX0_digestOfLeg_36 rfl ?_
  refine cSl (As := [.long (dg (dg d (Int32.toInt64 (v 0 i))) (Int32.toInt64 (hd (v 0) (i + 1)))), .long (Int32.toInt64 (v 2 i))]) (rest := []) hF (mX0_digested (dg (dg d (Int32.toInt64 (v 0 i))) (Int32.toInt64 (hd (v 0) (i + 1)))) (Int32.toInt64 (v 2 i))) Mv.const trivial jyX0_digested kl_RX0_171 ⟨rfl, rfl⟩ ⟨Nat.le_of_ble_eq_true rfl, Nat.le_of_ble_eq_true rfl⟩ rfl hl.1 rfl (Nat.le_of_ble_eq_true rfl) ⟨Nat.zero_le _, Nat.zero_le _⟩ dX0_digestOfLeg_37 (fun r hr9 => ?_)
  subst hr9
  refine lv_lstore (lv' := [(4, .long (dg (dg (dg d (Int32.toInt64 (v 0 i))) (Int32.toInt64 (hd (v 0) (i + 1)))) (Int32.toInt64 (v 2 i)))), (0, .ref (q 0)), (1, .long d), (3, .int (nI i))]) hx hb dX0_digestOfLeg_40 hl (by decide) rfl (fun ls hl => ?_)
  refine lv_lload hx hb dX0_digestOfLeg_42 (lv_at hl 0 rfl) ?_
  refine lv_aload_n hx hb dX0_digestOfLeg_44 rfl (lv_at hl 1 rfl) ?_
  refine lv_iload_n hx hb dX0_digestOfLeg_45 rfl (lv_at hl 3 rfl) ?_
  refine cVi (As := [.int (nI i)]) (rest := [.long (dg (dg (dg d (Int32.toInt64 (v 0 i))) (Int32.toInt64 (hd (v 0) (i + 1)))) (Int32.toInt64 (v 2 i)))]) hF (mX0_noteOf hok hde i (by omega)) C0.mv hX (C0.rc hX) jyX0_noteOf kl_RX0_248 ⟨rfl, rfl⟩ ⟨Nat.le_of_ble_eq_true rfl, Nat.le_of_ble_eq_true rfl⟩ rfl hl.1 rfl (Nat.le_of_ble_eq_true rfl) ⟨Nat.zero_le _, Nat.zero_le _⟩ dX0_digestOfLeg_46 (fun r hr9 => ?_)
  subst hr9
  refine lv_i2l hx hb dX0_digestOfLeg_49 rfl ?_
  refine cSl (As := [.long (dg (dg (dg d (Int32.toInt64 (v 0 i))) (Int32.toInt64 (hd (v 0) (i + 1)))) (Int32.toInt64 (v 2 i))), .long (Int32.toInt64 (nt (v 0) st (i + 1)))]) (rest := []) hF (mX0_digested (dg (dg (dg d (Int32.toInt64 (v 0 i))) (Int32.toInt64 (hd (v 0) (i + 1)))) (Int32.toInt64 (v 2 i))) (Int32.toInt64 (nt (v 0) st (i + 1)))) Mv.const trivial jyX0_digested kl_RX0_171 ⟨rfl, rfl⟩ ⟨Nat.le_of_ble_eq_true rfl, Nat.le_of_ble_eq_true rfl⟩ rfl hl.1 rfl (Nat.le_of_ble_eq_true rfl) ⟨Nat.zero_le _, Nat.zero_le _⟩ dX0_digestOfLeg_50 (fun r hr9 => ?_)
  subst hr9
  refine lv_lstore (lv' := [(4, .long (dg (dg (dg (dg d (Int32.toInt64 (v 0 i))) (Int32.toInt64 (hd (v 0) (i + 1)))) (Int32.toInt64 (v 2 i))) (Int32.toInt64 (nt (v 0) st (i + 1))))), (0, .ref (q 0)), (1, .long d), (3, .int (nI i))]) hx hb dX0_digestOfLeg_53 hl (by decide) rfl (fun ls hl => ?_)
  refine lv_lload hx hb dX0_digestOfLeg_55 (lv_at hl 0 rfl) ?_
  refine lv_aload_n hx hb dX0_digestOfLeg_57 rfl (lv_at hl 1 rfl) ?_
  refine lv_iload_n hx hb dX0_digestOfLeg_58 rfl (lv_at hl 3 rfl) ?_
  refine cVi (As := [.int (nI i)]) (rest := [.long (dg (dg (dg (dg d (Int32.toInt64 (v 0 i))) (Int32.toInt64 (hd (v 0) (i + 1)))) (Int32.toInt64 (v 2 i))) (Int32.toInt64 (nt (v 0) st (i + 1))))]) hF (mX0_wordIn hok hde i (by omega)) C0.mv hX (C0.rc hX) jyX0_wordIn kl_RX0_251 ⟨rfl, rfl⟩ ⟨Nat.le_of_ble_eq_true rfl, Nat.le_of_ble_eq_true rfl⟩ rfl hl.1 rfl (Nat.le_of_ble_eq_true rfl) ⟨Nat.zero_le _, Nat.zero_le _⟩ dX0_digestOfLeg_59 (fun r hr9 => ?_)
  subst hr9
  refine lv_i2l hx hb dX0_digestOfLeg_62 rfl ?_
  refine cSl (As := [.long (dg (dg (dg (dg d (Int32.toInt64 (v 0 i))) (Int32.toInt64 (hd (v 0) (i + 1)))) (Int32.toInt64 (v 2 i))) (Int32.toInt64 (nt (v 0) st (i + 1)))), .long (Int32.toInt64 (wd v i))]) (rest := []) hF (mX0_digested (dg (dg (dg (dg d (Int32.toInt64 (v 0 i))) (Int32.toInt64 (hd (v 0) (i + 1)))) (Int32.toInt64 (v 2 i))) (Int32.toInt64 (nt (v 0) st (i + 1)))) (Int32.toInt64 (wd v i))) Mv.const trivial jyX0_digested kl_RX0_171 ⟨rfl, rfl⟩ ⟨Nat.le_of_ble_eq_true rfl, Nat.le_of_ble_eq_true rfl⟩ rfl hl.1 rfl (Nat.le_of_ble_eq_true rfl) ⟨Nat.zero_le _, Nat.zero_le _⟩ dX0_digestOfLeg_63 (fun r hr9 => ?_)
  subst hr9
  refine lv_lstore (lv' := [(4, .long (dg (dg (dg (dg (dg d (Int32.toInt64 (v 0 i))) (Int32.toInt64 (hd (v 0) (i + 1)))) (Int32.toInt64 (v 2 i))) (Int32.toInt64 (nt (v 0) st (i + 1)))) (Int32.toInt64 (wd v i)))), (0, .ref (q 0)), (1, .long d), (3, .int (nI i))]) hx hb dX0_digestOfLeg_66 hl (by decide) rfl (fun ls hl => ?_)
  refine lv_lload hx hb dX0_digestOfLeg_68 (lv_at hl 0 rfl) ?_
  refine lv_aload_n hx hb dX0_digestOfLeg_70 rfl (lv_at hl 1 rfl) ?_
  refine lv_iload_n hx hb dX0_digestOfLeg_71 rfl (lv_at hl 3 rfl) ?_
  refine cVi (As := [.int (nI i)]) (rest := [.long (dg (dg (dg (dg (dg d (Int32.toInt64 (v 0 i))) (Int32.toInt64 (hd (v 0) (i + 1)))) (Int32.toInt64 (v 2 i))) (Int32.toInt64 (nt (v 0) st (i + 1)))) (Int32.toInt64 (wd v i)))]) hF (mX0_readings hok hde i (by omega)) C0.mv hX (C0.rc hX) jyX0_readings kl_RX0_136 ⟨rfl, rfl⟩ ⟨Nat.le_of_ble_eq_true rfl, Nat.le_of_ble_eq_true rfl⟩ rfl hl.1 rfl (Nat.le_of_ble_eq_true rfl) ⟨Nat.zero_le _, Nat.zero_le _⟩ dX0_digestOfLeg_72 (fun r hr9 => ?_)
  subst hr9
  refine lv_i2l hx hb dX0_digestOfLeg_75 rfl ?_
  refine cSl (As := [.long (dg (dg (dg (dg (dg d (Int32.toInt64 (v 0 i))) (Int32.toInt64 (hd (v 0) (i + 1)))) (Int32.toInt64 (v 2 i))) (Int32.toInt64 (nt (v 0) st (i + 1)))) (Int32.toInt64 (wd v i))), .long (Int32.toInt64 (rdn v st i))]) (rest := []) hF (mX0_digested (dg (dg (dg (dg (dg d (Int32.toInt64 (v 0 i))) (Int32.toInt64 (hd (v 0) (i + 1)))) (Int32.toInt64 (v 2 i))) (Int32.toInt64 (nt (v 0) st (i + 1)))) (Int32.toInt64 (wd v i))) (Int32.toInt64 (rdn v st i))) Mv.const trivial jyX0_digested kl_RX0_171 ⟨rfl, rfl⟩ ⟨Nat.le_of_ble_eq_true rfl, Nat.le_of_ble_eq_true rfl⟩ rfl hl.1 rfl (Nat.le_of_ble_eq_true rfl) ⟨Nat.zero_le _, Nat.zero_le _⟩ dX0_digestOfLeg_76 (fun r hr9 => ?_)
  subst hr9
  refine lv_lstore (lv' := [(4, .long (dg (dg (dg (dg (dg (dg d (Int32.toInt64 (v 0 i))) (Int32.toInt64 (hd (v 0) (i + 1)))) (Int32.toInt64 (v 2 i))) (Int32.toInt64 (nt (v 0) st (i + 1)))) (Int32.toInt64 (wd v i))) (Int32.toInt64 (rdn v st i)))), (0, .ref (q 0)), (1, .long d), (3, .int (nI i))]) hx hb dX0_digestOfLeg_79 hl (by decide) rfl (fun ls hl => ?_)
  refine lv_lload hx hb dX0_digestOfLeg_81 (lv_at hl 0 rfl) ?_
  refine lv_aload_n hx hb dX0_digestOfLeg_83 rfl (lv_at hl 1 rfl) ?_
  refine lv_iload_n hx hb dX0_digestOfLeg_84 rfl (lv_at hl 3 rfl) ?_
  refine cVi (As := [.int (nI i)]) (rest := [.long (dg (dg (dg (dg (dg (dg d (Int32.toInt64 (v 0 i))) (Int32.toInt64 (hd (v 0) (i + 1)))) (Int32.toInt64 (v 2 i))) (Int32.toInt64 (nt (v 0) st (i + 1)))) (Int32.toInt64 (wd v i))) (Int32.toInt64 (rdn v st i)))]) hF (mX0_rightReading hok hde i (by omega)) C0.mv hX (C0.rc hX) jyX0_rightReading kl_RX0_144 ⟨rfl, rfl⟩ ⟨Nat.le_of_ble_eq_true rfl, Nat.le_of_ble_eq_true rfl⟩ rfl hl.1 rfl (Nat.le_of_ble_eq_true rfl) ⟨Nat.zero_le _, Nat.zero_le _⟩ dX0_digestOfLeg_85 (fun r hr9 => ?_)
  subst hr9
  refine lv_i2l hx hb dX0_digestOfLeg_88 rfl ?_
  refine cSl (As := [.long (dg (dg (dg (dg (dg (dg d (Int32.toInt64 (v 0 i))) (Int32.toInt64 (hd (v 0) (i + 1)))) (Int32.toInt64 (v 2 i))) (Int32.toInt64 (nt (v 0) st (i + 1)))) (Int32.toInt64 (wd v i))) (Int32.toInt64 (rdn v st i))), .long (Int32.toInt64 (rrn v st i))]) (rest := []) hF (mX0_digested (dg (dg (dg (dg (dg (dg d (Int32.toInt64 (v 0 i))) (Int32.toInt64 (hd (v 0) (i + 1)))) (Int32.toInt64 (v 2 i))) (Int32.toInt64 (nt (v 0) st (i + 1)))) (Int32.toInt64 (wd v i))) (Int32.toInt64 (rdn v st i))) (Int32.toInt64 (rrn v st i))) Mv.const trivial jyX0_digested kl_RX0_171 ⟨rfl, rfl⟩ ⟨Nat.le_of_ble_eq_true rfl, Nat.le_of_ble_eq_true rfl⟩ rfl hl.1 rfl (Nat.le_of_ble_eq_true rfl) ⟨Nat.zero_le _, Nat.zero_le _⟩ dX0_digestOfLeg_89 (fun r hr9 => ?_)
  subst hr9
  refine lv_lstore (lv' := [(4, .long (dg (dg (dg (dg (dg (dg (dg d (Int32.toInt64 (v 0 i))) (Int32.toInt64 (hd (v 0) (i + 1)))) (Int32.toInt64 (v 2 i))) (Int32.toInt64 (nt (v 0) st (i + 1)))) (Int32.toInt64 (wd v i))) (Int32.toInt64 (rdn v st i))) (Int32.toInt64 (rrn v st i)))), (0, .ref (q 0)), (1, .long d), (3, .int (nI i))]) hx hb dX0_digestOfLeg_92 hl (by decide) rfl (fun ls hl => ?_)
  refine lv_lload hx hb dX0_digestOfLeg_94 (lv_at hl 0 rfl) ?_
  refine lv_aload_n hx hb dX0_digestOfLeg_96 rfl (lv_at hl 1 rfl) ?_
  refine lv_iload_n hx hb dX0_digestOfLeg_97 rfl (lv_at hl 3 rfl) ?_
  refine cVi (As := [.int (nI i)]) (rest := [.long (dg (dg (dg (dg (dg (dg (dg d (Int32.toInt64 (v 0 i))) (Int32.toInt64 (hd (v 0) (i + 1)))) (Int32.toInt64 (v 2 i))) (Int32.toInt64 (nt (v 0) st (i + 1)))) (Int32.toInt64 (wd v i))) (Int32.toInt64 (rdn v st i))) (Int32.toInt64 (rrn v st i)))]) hF (mX0_isMended hok hde i (by omega)) C0.mv hX (C0.rc hX) jyX0_isMended kl_RX0_254 ⟨rfl, rfl⟩ ⟨Nat.le_of_ble_eq_true rfl, Nat.le_of_ble_eq_true rfl⟩ rfl hl.1 rfl (Nat.le_of_ble_eq_true rfl) ⟨Nat.zero_le _, Nat.zero_le _⟩ dX0_digestOfLeg_98 (fun r hr9 => ?_)
  subst hr9
  refine lv_if_eq (tgt := 108) hx hb dX0_digestOfLeg_101 (by decide) (fun c101 => ?_) (fun c101 => ?_)
  · have c101b := b2i_f c101
    refine lv_lconst (v := 0) hx hb dX0_digestOfLeg_108 (by decide) ?_
    refine cSl (As := [.long (dg (dg (dg (dg (dg (dg (dg d (Int32.toInt64 (v 0 i))) (Int32.toInt64 (hd (v 0) (i + 1)))) (Int32.toInt64 (v 2 i))) (Int32.toInt64 (nt (v 0) st (i + 1)))) (Int32.toInt64 (wd v i))) (Int32.toInt64 (rdn v st i))) (Int32.toInt64 (rrn v st i))), .long 0]) (rest := []) hF (mX0_digested (dg (dg (dg (dg (dg (dg (dg d (Int32.toInt64 (v 0 i))) (Int32.toInt64 (hd (v 0) (i + 1)))) (Int32.toInt64 (v 2 i))) (Int32.toInt64 (nt (v 0) st (i + 1)))) (Int32.toInt64 (wd v i))) (Int32.toInt64 (rdn v st i))) (Int32.toInt64 (rrn v st i))) 0) Mv.const trivial jyX0_digested kl_RX0_171 ⟨rfl, rfl⟩ ⟨Nat.le_of_ble_eq_true rfl, Nat.le_of_ble_eq_true rfl⟩ rfl hl.1 rfl (Nat.le_of_ble_eq_true rfl) ⟨Nat.zero_le _, Nat.zero_le _⟩ dX0_digestOfLeg_109 (fun r hr9 => ?_)
    subst hr9
    refine lv_lstore (lv' := [(4, .long (dg (dg (dg (dg (dg (dg (dg (dg d (Int32.toInt64 (v 0 i))) (Int32.toInt64 (hd (v 0) (i + 1)))) (Int32.toInt64 (v 2 i))) (Int32.toInt64 (nt (v 0) st (i + 1)))) (Int32.toInt64 (wd v i))) (Int32.toInt64 (rdn v st i))) (Int32.toInt64 (rrn v st i))) 0)), (0, .ref (q 0)), (1, .long d), (3, .int (nI i))]) hx hb dX0_digestOfLeg_112 hl (by decide) rfl (fun ls hl => ?_)
    refine lv_lload hx hb dX0_digestOfLeg_114 (lv_at hl 0 rfl) ?_
    exact W.lret hx hb hr (fun t ht hW => ⟨_, rfl, (by unfold dgLeg; rw [c101b]; rfl), ht⟩) (fun q hq => absurd hq List.not_mem_nil) dX0_digestOfLeg_116
  · have c101b := b2i_t c101
    refine lv_lconst (v := 1) hx hb dX0_digestOfLeg_104 (by decide) ?_
    refine lv_goto (tgt := 109) hx hb dX0_digestOfLeg_105 (by decide) ?_
    refine cSl (As := [.long (dg (dg (dg (dg (dg (dg (dg d (Int32.toInt64 (v 0 i))) (Int32.toInt64 (hd (v 0) (i + 1)))) (Int32.toInt64 (v 2 i))) (Int32.toInt64 (nt (v 0) st (i + 1)))) (Int32.toInt64 (wd v i))) (Int32.toInt64 (rdn v st i))) (Int32.toInt64 (rrn v st i))), .long 1]) (rest := []) hF (mX0_digested (dg (dg (dg (dg (dg (dg (dg d (Int32.toInt64 (v 0 i))) (Int32.toInt64 (hd (v 0) (i + 1)))) (Int32.toInt64 (v 2 i))) (Int32.toInt64 (nt (v 0) st (i + 1)))) (Int32.toInt64 (wd v i))) (Int32.toInt64 (rdn v st i))) (Int32.toInt64 (rrn v st i))) 1) Mv.const trivial jyX0_digested kl_RX0_171 ⟨rfl, rfl⟩ ⟨Nat.le_of_ble_eq_true rfl, Nat.le_of_ble_eq_true rfl⟩ rfl hl.1 rfl (Nat.le_of_ble_eq_true rfl) ⟨Nat.zero_le _, Nat.zero_le _⟩ dX0_digestOfLeg_109 (fun r hr9 => ?_)
    subst hr9
    refine lv_lstore (lv' := [(4, .long (dg (dg (dg (dg (dg (dg (dg (dg d (Int32.toInt64 (v 0 i))) (Int32.toInt64 (hd (v 0) (i + 1)))) (Int32.toInt64 (v 2 i))) (Int32.toInt64 (nt (v 0) st (i + 1)))) (Int32.toInt64 (wd v i))) (Int32.toInt64 (rdn v st i))) (Int32.toInt64 (rrn v st i))) 1)), (0, .ref (q 0)), (1, .long d), (3, .int (nI i))]) hx hb dX0_digestOfLeg_112 hl (by decide) rfl (fun ls hl => ?_)
    refine lv_lload hx hb dX0_digestOfLeg_114 (lv_at hl 0 rfl) ?_
    exact W.lret hx hb hr (fun t ht hW => ⟨_, rfl, (by unfold dgLeg; rw [c101b]; rfl), ht⟩) (fun q hq => absurd hq List.not_mem_nil) dX0_digestOfLeg_116
set_option maxHeartbeats 4000000 in
set_option maxRecDepth 100000 in
theorem mX0_digest (hok : Ok N st v) (hde : Der N st v w) : Met l yX0_digest (wm yX0_digest cX0_digest 4 (some .long)) ({ frames := 6, cells := 0, slots := 0, locals := 133 } : Room) (va_Pc [.ref (q 0)] (fun U => C0 D cyI cyZ q (nI N) st v mk w U U.heap)) (vp_Sl (fun r => r = dgst v st mk N)) 0 0 (fun _ => False) := by
  refine mt (by decide) (Nat.le_of_ble_eq_true rfl) ?_
  intro p ev s m below meth c ls hF hr hlocks hnm hX hl
  have hF : CallFix p m c cX0_digest 4 s _ wA RX0 := hF
  obtain ⟨hx, hb, hml, hown, hts⟩ := id hF
  have hX : C0 D cyI cyZ q (nI N) st v mk w s s.heap := hX
  have hl : lv_has ls 4 [(0, .ref (q 0))] := hl
  have hN := hok.1
  refine lv_ldc2 hx hb hown (hts _ kk_RX0_166) dX0_digest_0 ?_
  refine lv_lstore_n (lv' := [(1, .long 1051), (0, .ref (q 0))]) hx hb dX0_digest_3 rfl hl (by decide) rfl (fun ls hl => ?_)
  refine lv_lload_n hx hb dX0_digest_4 rfl (lv_at hl 0 rfl) ?_
  refine lv_aload_n hx hb dX0_digest_5 rfl (lv_at hl 1 rfl) ?_
  refine cVi (As := []) (rest := [.long 1051]) hF (mX0_legs ) C0.mv hX (C0.rc hX) jyX0_legs kl_RX0_168 ⟨rfl, rfl⟩ ⟨Nat.le_of_ble_eq_true rfl, Nat.le_of_ble_eq_true rfl⟩ rfl hl.1 rfl (Nat.le_of_ble_eq_true rfl) ⟨Nat.zero_le _, Nat.zero_le _⟩ dX0_digest_6 (fun r hr9 => ?_)
  subst hr9
  refine lv_i2l hx hb dX0_digest_9 rfl ?_
  refine cSl (As := [.long 1051, .long (Int32.toInt64 (nI N))]) (rest := []) hF (mX0_digested 1051 (Int32.toInt64 (nI N))) Mv.const trivial jyX0_digested kl_RX0_171 ⟨rfl, rfl⟩ ⟨Nat.le_of_ble_eq_true rfl, Nat.le_of_ble_eq_true rfl⟩ rfl hl.1 rfl (Nat.le_of_ble_eq_true rfl) ⟨Nat.zero_le _, Nat.zero_le _⟩ dX0_digest_10 (fun r hr9 => ?_)
  subst hr9
  refine lv_lstore_n (lv' := [(1, .long (dg 1051 (Int32.toInt64 (nI N)))), (0, .ref (q 0))]) hx hb dX0_digest_13 rfl hl (by decide) rfl (fun ls hl => ?_)
  refine lv_lload_n hx hb dX0_digest_14 rfl (lv_at hl 0 rfl) ?_
  refine lv_aload_n hx hb dX0_digest_15 rfl (lv_at hl 1 rfl) ?_
  refine cVi (As := []) (rest := [.long (dg 1051 (Int32.toInt64 (nI N)))]) hF (mX0_step ) C0.mv hX (C0.rc hX) jyX0_step kl_RX0_174 ⟨rfl, rfl⟩ ⟨Nat.le_of_ble_eq_true rfl, Nat.le_of_ble_eq_true rfl⟩ rfl hl.1 rfl (Nat.le_of_ble_eq_true rfl) ⟨Nat.zero_le _, Nat.zero_le _⟩ dX0_digest_16 (fun r hr9 => ?_)
  rw [hr9]
  refine lv_i2l hx hb dX0_digest_19 rfl ?_
  refine cSl (As := [.long (dg 1051 (Int32.toInt64 (nI N))), .long (Int32.toInt64 st)]) (rest := []) hF (mX0_digested (dg 1051 (Int32.toInt64 (nI N))) (Int32.toInt64 st)) Mv.const trivial jyX0_digested kl_RX0_171 ⟨rfl, rfl⟩ ⟨Nat.le_of_ble_eq_true rfl, Nat.le_of_ble_eq_true rfl⟩ rfl hl.1 rfl (Nat.le_of_ble_eq_true rfl) ⟨Nat.zero_le _, Nat.zero_le _⟩ dX0_digest_20 (fun r hr9 => ?_)
  subst hr9
  refine lv_lstore_n (lv' := [(1, .long (dg (dg 1051 (Int32.toInt64 (nI N))) (Int32.toInt64 st))), (0, .ref (q 0))]) hx hb dX0_digest_23 rfl hl (by decide) rfl (fun ls hl => ?_)
  refine lv_lload_n hx hb dX0_digest_24 rfl (lv_at hl 0 rfl) ?_
  refine lv_aload_n hx hb dX0_digest_25 rfl (lv_at hl 1 rfl) ?_
  refine cVi (As := []) (rest := [.long (dg (dg 1051 (Int32.toInt64 (nI N))) (Int32.toInt64 st))]) hF (mX0_endX hok hde) C0.mv hX (C0.rc hX) jyX0_endX kl_RX0_95 ⟨rfl, rfl⟩ ⟨Nat.le_of_ble_eq_true rfl, Nat.le_of_ble_eq_true rfl⟩ rfl hl.1 rfl (Nat.le_of_ble_eq_true rfl) ⟨Nat.zero_le _, Nat.zero_le _⟩ dX0_digest_26 (fun r hr9 => ?_)
  subst hr9
  refine lv_i2l hx hb dX0_digest_29 rfl ?_
  refine cSl (As := [.long (dg (dg 1051 (Int32.toInt64 (nI N))) (Int32.toInt64 st)), .long (Int32.toInt64 (px (v 0) (v 1) N))]) (rest := []) hF (mX0_digested (dg (dg 1051 (Int32.toInt64 (nI N))) (Int32.toInt64 st)) (Int32.toInt64 (px (v 0) (v 1) N))) Mv.const trivial jyX0_digested kl_RX0_171 ⟨rfl, rfl⟩ ⟨Nat.le_of_ble_eq_true rfl, Nat.le_of_ble_eq_true rfl⟩ rfl hl.1 rfl (Nat.le_of_ble_eq_true rfl) ⟨Nat.zero_le _, Nat.zero_le _⟩ dX0_digest_30 (fun r hr9 => ?_)
  subst hr9
  refine lv_lstore_n (lv' := [(1, .long (dg (dg (dg 1051 (Int32.toInt64 (nI N))) (Int32.toInt64 st)) (Int32.toInt64 (px (v 0) (v 1) N)))), (0, .ref (q 0))]) hx hb dX0_digest_33 rfl hl (by decide) rfl (fun ls hl => ?_)
  refine lv_lload_n hx hb dX0_digest_34 rfl (lv_at hl 0 rfl) ?_
  refine lv_aload_n hx hb dX0_digest_35 rfl (lv_at hl 1 rfl) ?_
  refine cVi (As := []) (rest := [.long (dg (dg (dg 1051 (Int32.toInt64 (nI N))) (Int32.toInt64 st)) (Int32.toInt64 (px (v 0) (v 1) N)))]) hF (mX0_endY hok hde) C0.mv hX (C0.rc hX) jyX0_endY kl_RX0_104 ⟨rfl, rfl⟩ ⟨Nat.le_of_ble_eq_true rfl, Nat.le_of_ble_eq_true rfl⟩ rfl hl.1 rfl (Nat.le_of_ble_eq_true rfl) ⟨Nat.zero_le _, Nat.zero_le _⟩ dX0_digest_36 (fun r hr9 => ?_)
  subst hr9
  refine lv_i2l hx hb dX0_digest_39 rfl ?_
  refine cSl (As := [.long (dg (dg (dg 1051 (Int32.toInt64 (nI N))) (Int32.toInt64 st)) (Int32.toInt64 (px (v 0) (v 1) N))), .long (Int32.toInt64 (py (v 0) (v 1) N))]) (rest := []) hF (mX0_digested (dg (dg (dg 1051 (Int32.toInt64 (nI N))) (Int32.toInt64 st)) (Int32.toInt64 (px (v 0) (v 1) N))) (Int32.toInt64 (py (v 0) (v 1) N))) Mv.const trivial jyX0_digested kl_RX0_171 ⟨rfl, rfl⟩ ⟨Nat.le_of_ble_eq_true rfl, Nat.le_of_ble_eq_true rfl⟩ rfl hl.1 rfl (Nat.le_of_ble_eq_true rfl) ⟨Nat.zero_le _, Nat.zero_le _⟩ dX0_digest_40 (fun r hr9 => ?_)
  subst hr9
  refine lv_lstore_n (lv' := [(1, .long (dg (dg (dg (dg 1051 (Int32.toInt64 (nI N))) (Int32.toInt64 st)) (Int32.toInt64 (px (v 0) (v 1) N))) (Int32.toInt64 (py (v 0) (v 1) N)))), (0, .ref (q 0))]) hx hb dX0_digest_43 rfl hl (by decide) rfl (fun ls hl => ?_)
  refine lv_lload_n hx hb dX0_digest_44 rfl (lv_at hl 0 rfl) ?_
  refine lv_aload_n hx hb dX0_digest_45 rfl (lv_at hl 1 rfl) ?_
  refine cVi (As := []) (rest := [.long (dg (dg (dg (dg 1051 (Int32.toInt64 (nI N))) (Int32.toInt64 st)) (Int32.toInt64 (px (v 0) (v 1) N))) (Int32.toInt64 (py (v 0) (v 1) N)))]) hF (mX0_stepsHome hok hde) C0.mv hX (C0.rc hX) jyX0_stepsHome kl_RX0_177 ⟨rfl, rfl⟩ ⟨Nat.le_of_ble_eq_true rfl, Nat.le_of_ble_eq_true rfl⟩ rfl hl.1 rfl (Nat.le_of_ble_eq_true rfl) ⟨Nat.zero_le _, Nat.zero_le _⟩ dX0_digest_46 (fun r hr9 => ?_)
  subst hr9
  refine lv_i2l hx hb dX0_digest_49 rfl ?_
  refine cSl (As := [.long (dg (dg (dg (dg 1051 (Int32.toInt64 (nI N))) (Int32.toInt64 st)) (Int32.toInt64 (px (v 0) (v 1) N))) (Int32.toInt64 (py (v 0) (v 1) N))), .long (Int32.toInt64 (mx (ab (px (v 0) (v 1) N)) (ab (py (v 0) (v 1) N))))]) (rest := []) hF (mX0_digested (dg (dg (dg (dg 1051 (Int32.toInt64 (nI N))) (Int32.toInt64 st)) (Int32.toInt64 (px (v 0) (v 1) N))) (Int32.toInt64 (py (v 0) (v 1) N))) (Int32.toInt64 (mx (ab (px (v 0) (v 1) N)) (ab (py (v 0) (v 1) N))))) Mv.const trivial jyX0_digested kl_RX0_171 ⟨rfl, rfl⟩ ⟨Nat.le_of_ble_eq_true rfl, Nat.le_of_ble_eq_true rfl⟩ rfl hl.1 rfl (Nat.le_of_ble_eq_true rfl) ⟨Nat.zero_le _, Nat.zero_le _⟩ dX0_digest_50 (fun r hr9 => ?_)
  subst hr9
  refine lv_lstore_n (lv' := [(1, .long (dg (dg (dg (dg (dg 1051 (Int32.toInt64 (nI N))) (Int32.toInt64 st)) (Int32.toInt64 (px (v 0) (v 1) N))) (Int32.toInt64 (py (v 0) (v 1) N))) (Int32.toInt64 (mx (ab (px (v 0) (v 1) N)) (ab (py (v 0) (v 1) N)))))), (0, .ref (q 0))]) hx hb dX0_digest_53 rfl hl (by decide) rfl (fun ls hl => ?_)
  refine lv_lload_n hx hb dX0_digest_54 rfl (lv_at hl 0 rfl) ?_
  refine lv_aload_n hx hb dX0_digest_55 rfl (lv_at hl 1 rfl) ?_
  refine cVi (As := []) (rest := [.long (dg (dg (dg (dg (dg 1051 (Int32.toInt64 (nI N))) (Int32.toInt64 st)) (Int32.toInt64 (px (v 0) (v 1) N))) (Int32.toInt64 (py (v 0) (v 1) N))) (Int32.toInt64 (mx (ab (px (v 0) (v 1) N)) (ab (py (v 0) (v 1) N)))))]) hF (mX0_returns hok hde) C0.mv hX (C0.rc hX) jyX0_returns kl_RX0_180 ⟨rfl, rfl⟩ ⟨Nat.le_of_ble_eq_true rfl, Nat.le_of_ble_eq_true rfl⟩ rfl hl.1 rfl (Nat.le_of_ble_eq_true rfl) ⟨Nat.zero_le _, Nat.zero_le _⟩ dX0_digest_56 (fun r hr9 => ?_)
  subst hr9
  refine lv_i2l hx hb dX0_digest_59 rfl ?_
  refine cSl (As := [.long (dg (dg (dg (dg (dg 1051 (Int32.toInt64 (nI N))) (Int32.toInt64 st)) (Int32.toInt64 (px (v 0) (v 1) N))) (Int32.toInt64 (py (v 0) (v 1) N))) (Int32.toInt64 (mx (ab (px (v 0) (v 1) N)) (ab (py (v 0) (v 1) N))))), .long (Int32.toInt64 (rtn v N))]) (rest := []) hF (mX0_digested (dg (dg (dg (dg (dg 1051 (Int32.toInt64 (nI N))) (Int32.toInt64 st)) (Int32.toInt64 (px (v 0) (v 1) N))) (Int32.toInt64 (py (v 0) (v 1) N))) (Int32.toInt64 (mx (ab (px (v 0) (v 1) N)) (ab (py (v 0) (v 1) N))))) (Int32.toInt64 (rtn v N))) Mv.const trivial jyX0_digested kl_RX0_171 ⟨rfl, rfl⟩ ⟨Nat.le_of_ble_eq_true rfl, Nat.le_of_ble_eq_true rfl⟩ rfl hl.1 rfl (Nat.le_of_ble_eq_true rfl) ⟨Nat.zero_le _, Nat.zero_le _⟩ dX0_digest_60 (fun r hr9 => ?_)
  subst hr9
  refine lv_lstore_n (lv' := [(1, .long (dg (dg (dg (dg (dg (dg 1051 (Int32.toInt64 (nI N))) (Int32.toInt64 st)) (Int32.toInt64 (px (v 0) (v 1) N))) (Int32.toInt64 (py (v 0) (v 1) N))) (Int32.toInt64 (mx (ab (px (v 0) (v 1) N)) (ab (py (v 0) (v 1) N))))) (Int32.toInt64 (rtn v N)))), (0, .ref (q 0))]) hx hb dX0_digest_63 rfl hl (by decide) rfl (fun ls hl => ?_)
  refine lv_lload_n hx hb dX0_digest_64 rfl (lv_at hl 0 rfl) ?_
  refine lv_aload_n hx hb dX0_digest_65 rfl (lv_at hl 1 rfl) ?_
  refine cVi (As := []) (rest := [.long (dg (dg (dg (dg (dg (dg 1051 (Int32.toInt64 (nI N))) (Int32.toInt64 st)) (Int32.toInt64 (px (v 0) (v 1) N))) (Int32.toInt64 (py (v 0) (v 1) N))) (Int32.toInt64 (mx (ab (px (v 0) (v 1) N)) (ab (py (v 0) (v 1) N))))) (Int32.toInt64 (rtn v N)))]) hF (mX0_beats hok hde) C0.mv hX (C0.rc hX) jyX0_beats kl_RX0_183 ⟨rfl, rfl⟩ ⟨Nat.le_of_ble_eq_true rfl, Nat.le_of_ble_eq_true rfl⟩ rfl hl.1 rfl (Nat.le_of_ble_eq_true rfl) ⟨Nat.zero_le _, Nat.zero_le _⟩ dX0_digest_66 (fun r hr9 => ?_)
  subst hr9
  refine lv_i2l hx hb dX0_digest_69 rfl ?_
  refine cSl (As := [.long (dg (dg (dg (dg (dg (dg 1051 (Int32.toInt64 (nI N))) (Int32.toInt64 st)) (Int32.toInt64 (px (v 0) (v 1) N))) (Int32.toInt64 (py (v 0) (v 1) N))) (Int32.toInt64 (mx (ab (px (v 0) (v 1) N)) (ab (py (v 0) (v 1) N))))) (Int32.toInt64 (rtn v N))), .long (Int32.toInt64 (sumI (v 1) N))]) (rest := []) hF (mX0_digested (dg (dg (dg (dg (dg (dg 1051 (Int32.toInt64 (nI N))) (Int32.toInt64 st)) (Int32.toInt64 (px (v 0) (v 1) N))) (Int32.toInt64 (py (v 0) (v 1) N))) (Int32.toInt64 (mx (ab (px (v 0) (v 1) N)) (ab (py (v 0) (v 1) N))))) (Int32.toInt64 (rtn v N))) (Int32.toInt64 (sumI (v 1) N))) Mv.const trivial jyX0_digested kl_RX0_171 ⟨rfl, rfl⟩ ⟨Nat.le_of_ble_eq_true rfl, Nat.le_of_ble_eq_true rfl⟩ rfl hl.1 rfl (Nat.le_of_ble_eq_true rfl) ⟨Nat.zero_le _, Nat.zero_le _⟩ dX0_digest_70 (fun r hr9 => ?_)
  subst hr9
  refine lv_lstore_n (lv' := [(1, .long (dg (dg (dg (dg (dg (dg (dg 1051 (Int32.toInt64 (nI N))) (Int32.toInt64 st)) (Int32.toInt64 (px (v 0) (v 1) N))) (Int32.toInt64 (py (v 0) (v 1) N))) (Int32.toInt64 (mx (ab (px (v 0) (v 1) N)) (ab (py (v 0) (v 1) N))))) (Int32.toInt64 (rtn v N))) (Int32.toInt64 (sumI (v 1) N)))), (0, .ref (q 0))]) hx hb dX0_digest_73 rfl hl (by decide) rfl (fun ls hl => ?_)
  refine lv_lload_n hx hb dX0_digest_74 rfl (lv_at hl 0 rfl) ?_
  refine lv_aload_n hx hb dX0_digest_75 rfl (lv_at hl 1 rfl) ?_
  refine cVi (As := []) (rest := [.long (dg (dg (dg (dg (dg (dg (dg 1051 (Int32.toInt64 (nI N))) (Int32.toInt64 st)) (Int32.toInt64 (px (v 0) (v 1) N))) (Int32.toInt64 (py (v 0) (v 1) N))) (Int32.toInt64 (mx (ab (px (v 0) (v 1) N)) (ab (py (v 0) (v 1) N))))) (Int32.toInt64 (rtn v N))) (Int32.toInt64 (sumI (v 1) N)))]) hF (mX0_folded hok hde) C0.mv hX (C0.rc hX) jyX0_folded kl_RX0_186 ⟨rfl, rfl⟩ ⟨Nat.le_of_ble_eq_true rfl, Nat.le_of_ble_eq_true rfl⟩ rfl hl.1 rfl (Nat.le_of_ble_eq_true rfl) ⟨Nat.zero_le _, Nat.zero_le _⟩ dX0_digest_76 (fun r hr9 => ?_)
  subst hr9
  refine lv_i2l hx hb dX0_digest_79 rfl ?_
  refine cSl (As := [.long (dg (dg (dg (dg (dg (dg (dg 1051 (Int32.toInt64 (nI N))) (Int32.toInt64 st)) (Int32.toInt64 (px (v 0) (v 1) N))) (Int32.toInt64 (py (v 0) (v 1) N))) (Int32.toInt64 (mx (ab (px (v 0) (v 1) N)) (ab (py (v 0) (v 1) N))))) (Int32.toInt64 (rtn v N))) (Int32.toInt64 (sumI (v 1) N))), .long (Int32.toInt64 (ctB (fold1 v st) N))]) (rest := []) hF (mX0_digested (dg (dg (dg (dg (dg (dg (dg 1051 (Int32.toInt64 (nI N))) (Int32.toInt64 st)) (Int32.toInt64 (px (v 0) (v 1) N))) (Int32.toInt64 (py (v 0) (v 1) N))) (Int32.toInt64 (mx (ab (px (v 0) (v 1) N)) (ab (py (v 0) (v 1) N))))) (Int32.toInt64 (rtn v N))) (Int32.toInt64 (sumI (v 1) N))) (Int32.toInt64 (ctB (fold1 v st) N))) Mv.const trivial jyX0_digested kl_RX0_171 ⟨rfl, rfl⟩ ⟨Nat.le_of_ble_eq_true rfl, Nat.le_of_ble_eq_true rfl⟩ rfl hl.1 rfl (Nat.le_of_ble_eq_true rfl) ⟨Nat.zero_le _, Nat.zero_le _⟩ dX0_digest_80 (fun r hr9 => ?_)
  subst hr9
  refine lv_lstore_n (lv' := [(1, .long (dg (dg (dg (dg (dg (dg (dg (dg 1051 (Int32.toInt64 (nI N))) (Int32.toInt64 st)) (Int32.toInt64 (px (v 0) (v 1) N))) (Int32.toInt64 (py (v 0) (v 1) N))) (Int32.toInt64 (mx (ab (px (v 0) (v 1) N)) (ab (py (v 0) (v 1) N))))) (Int32.toInt64 (rtn v N))) (Int32.toInt64 (sumI (v 1) N))) (Int32.toInt64 (ctB (fold1 v st) N)))), (0, .ref (q 0))]) hx hb dX0_digest_83 rfl hl (by decide) rfl (fun ls hl => ?_)
  refine lv_lload_n hx hb dX0_digest_84 rfl (lv_at hl 0 rfl) ?_
  refine lv_aload_n hx hb dX0_digest_85 rfl (lv_at hl 1 rfl) ?_
  refine cVi (As := []) (rest := [.long (dg (dg (dg (dg (dg (dg (dg (dg 1051 (Int32.toInt64 (nI N))) (Int32.toInt64 st)) (Int32.toInt64 (px (v 0) (v 1) N))) (Int32.toInt64 (py (v 0) (v 1) N))) (Int32.toInt64 (mx (ab (px (v 0) (v 1) N)) (ab (py (v 0) (v 1) N))))) (Int32.toInt64 (rtn v N))) (Int32.toInt64 (sumI (v 1) N))) (Int32.toInt64 (ctB (fold1 v st) N)))]) hF (mX0_range hok hde) C0.mv hX (C0.rc hX) jyX0_range kl_RX0_189 ⟨rfl, rfl⟩ ⟨Nat.le_of_ble_eq_true rfl, Nat.le_of_ble_eq_true rfl⟩ rfl hl.1 rfl (Nat.le_of_ble_eq_true rfl) ⟨Nat.zero_le _, Nat.zero_le _⟩ dX0_digest_86 (fun r hr9 => ?_)
  subst hr9
  refine lv_i2l hx hb dX0_digest_89 rfl ?_
  refine cSl (As := [.long (dg (dg (dg (dg (dg (dg (dg (dg 1051 (Int32.toInt64 (nI N))) (Int32.toInt64 st)) (Int32.toInt64 (px (v 0) (v 1) N))) (Int32.toInt64 (py (v 0) (v 1) N))) (Int32.toInt64 (mx (ab (px (v 0) (v 1) N)) (ab (py (v 0) (v 1) N))))) (Int32.toInt64 (rtn v N))) (Int32.toInt64 (sumI (v 1) N))) (Int32.toInt64 (ctB (fold1 v st) N))), .long (Int32.toInt64 (rng v st N))]) (rest := []) hF (mX0_digested (dg (dg (dg (dg (dg (dg (dg (dg 1051 (Int32.toInt64 (nI N))) (Int32.toInt64 st)) (Int32.toInt64 (px (v 0) (v 1) N))) (Int32.toInt64 (py (v 0) (v 1) N))) (Int32.toInt64 (mx (ab (px (v 0) (v 1) N)) (ab (py (v 0) (v 1) N))))) (Int32.toInt64 (rtn v N))) (Int32.toInt64 (sumI (v 1) N))) (Int32.toInt64 (ctB (fold1 v st) N))) (Int32.toInt64 (rng v st N))) Mv.const trivial jyX0_digested kl_RX0_171 ⟨rfl, rfl⟩ ⟨Nat.le_of_ble_eq_true rfl, Nat.le_of_ble_eq_true rfl⟩ rfl hl.1 rfl (Nat.le_of_ble_eq_true rfl) ⟨Nat.zero_le _, Nat.zero_le _⟩ dX0_digest_90 (fun r hr9 => ?_)
  subst hr9
  refine lv_lstore_n (lv' := [(1, .long (dg (dg (dg (dg (dg (dg (dg (dg (dg 1051 (Int32.toInt64 (nI N))) (Int32.toInt64 st)) (Int32.toInt64 (px (v 0) (v 1) N))) (Int32.toInt64 (py (v 0) (v 1) N))) (Int32.toInt64 (mx (ab (px (v 0) (v 1) N)) (ab (py (v 0) (v 1) N))))) (Int32.toInt64 (rtn v N))) (Int32.toInt64 (sumI (v 1) N))) (Int32.toInt64 (ctB (fold1 v st) N))) (Int32.toInt64 (rng v st N)))), (0, .ref (q 0))]) hx hb dX0_digest_93 rfl hl (by decide) rfl (fun ls hl => ?_)
  refine lv_lload_n hx hb dX0_digest_94 rfl (lv_at hl 0 rfl) ?_
  refine lv_aload_n hx hb dX0_digest_95 rfl (lv_at hl 1 rfl) ?_
  refine cVi (As := []) (rest := [.long (dg (dg (dg (dg (dg (dg (dg (dg (dg 1051 (Int32.toInt64 (nI N))) (Int32.toInt64 st)) (Int32.toInt64 (px (v 0) (v 1) N))) (Int32.toInt64 (py (v 0) (v 1) N))) (Int32.toInt64 (mx (ab (px (v 0) (v 1) N)) (ab (py (v 0) (v 1) N))))) (Int32.toInt64 (rtn v N))) (Int32.toInt64 (sumI (v 1) N))) (Int32.toInt64 (ctB (fold1 v st) N))) (Int32.toInt64 (rng v st N)))]) hF (mX0_ambiguous hok hde) C0.mv hX (C0.rc hX) jyX0_ambiguous kl_RX0_192 ⟨rfl, rfl⟩ ⟨Nat.le_of_ble_eq_true rfl, Nat.le_of_ble_eq_true rfl⟩ rfl hl.1 rfl (Nat.le_of_ble_eq_true rfl) ⟨Nat.zero_le _, Nat.zero_le _⟩ dX0_digest_96 (fun r hr9 => ?_)
  subst hr9
  refine lv_i2l hx hb dX0_digest_99 rfl ?_
  refine cSl (As := [.long (dg (dg (dg (dg (dg (dg (dg (dg (dg 1051 (Int32.toInt64 (nI N))) (Int32.toInt64 st)) (Int32.toInt64 (px (v 0) (v 1) N))) (Int32.toInt64 (py (v 0) (v 1) N))) (Int32.toInt64 (mx (ab (px (v 0) (v 1) N)) (ab (py (v 0) (v 1) N))))) (Int32.toInt64 (rtn v N))) (Int32.toInt64 (sumI (v 1) N))) (Int32.toInt64 (ctB (fold1 v st) N))) (Int32.toInt64 (rng v st N))), .long (Int32.toInt64 (ctB (amb v st mk) N))]) (rest := []) hF (mX0_digested (dg (dg (dg (dg (dg (dg (dg (dg (dg 1051 (Int32.toInt64 (nI N))) (Int32.toInt64 st)) (Int32.toInt64 (px (v 0) (v 1) N))) (Int32.toInt64 (py (v 0) (v 1) N))) (Int32.toInt64 (mx (ab (px (v 0) (v 1) N)) (ab (py (v 0) (v 1) N))))) (Int32.toInt64 (rtn v N))) (Int32.toInt64 (sumI (v 1) N))) (Int32.toInt64 (ctB (fold1 v st) N))) (Int32.toInt64 (rng v st N))) (Int32.toInt64 (ctB (amb v st mk) N))) Mv.const trivial jyX0_digested kl_RX0_171 ⟨rfl, rfl⟩ ⟨Nat.le_of_ble_eq_true rfl, Nat.le_of_ble_eq_true rfl⟩ rfl hl.1 rfl (Nat.le_of_ble_eq_true rfl) ⟨Nat.zero_le _, Nat.zero_le _⟩ dX0_digest_100 (fun r hr9 => ?_)
  subst hr9
  refine lv_lstore_n (lv' := [(1, .long (dg (dg (dg (dg (dg (dg (dg (dg (dg (dg 1051 (Int32.toInt64 (nI N))) (Int32.toInt64 st)) (Int32.toInt64 (px (v 0) (v 1) N))) (Int32.toInt64 (py (v 0) (v 1) N))) (Int32.toInt64 (mx (ab (px (v 0) (v 1) N)) (ab (py (v 0) (v 1) N))))) (Int32.toInt64 (rtn v N))) (Int32.toInt64 (sumI (v 1) N))) (Int32.toInt64 (ctB (fold1 v st) N))) (Int32.toInt64 (rng v st N))) (Int32.toInt64 (ctB (amb v st mk) N)))), (0, .ref (q 0))]) hx hb dX0_digest_103 rfl hl (by decide) rfl (fun ls hl => ?_)
  refine lv_lload_n hx hb dX0_digest_104 rfl (lv_at hl 0 rfl) ?_
  refine lv_aload_n hx hb dX0_digest_105 rfl (lv_at hl 1 rfl) ?_
  refine cVl (As := []) (rest := [.long (dg (dg (dg (dg (dg (dg (dg (dg (dg (dg 1051 (Int32.toInt64 (nI N))) (Int32.toInt64 st)) (Int32.toInt64 (px (v 0) (v 1) N))) (Int32.toInt64 (py (v 0) (v 1) N))) (Int32.toInt64 (mx (ab (px (v 0) (v 1) N)) (ab (py (v 0) (v 1) N))))) (Int32.toInt64 (rtn v N))) (Int32.toInt64 (sumI (v 1) N))) (Int32.toInt64 (ctB (fold1 v st) N))) (Int32.toInt64 (rng v st N))) (Int32.toInt64 (ctB (amb v st mk) N)))]) hF (mX0_ways hok hde) C0.mv hX (C0.rc hX) jyX0_ways kl_RX0_150 ⟨rfl, rfl⟩ ⟨Nat.le_of_ble_eq_true rfl, Nat.le_of_ble_eq_true rfl⟩ rfl hl.1 rfl (Nat.le_of_ble_eq_true rfl) ⟨Nat.zero_le _, Nat.zero_le _⟩ dX0_digest_106 (fun r hr9 => ?_)
  subst hr9
  refine cSl (As := [.long (dg (dg (dg (dg (dg (dg (dg (dg (dg (dg 1051 (Int32.toInt64 (nI N))) (Int32.toInt64 st)) (Int32.toInt64 (px (v 0) (v 1) N))) (Int32.toInt64 (py (v 0) (v 1) N))) (Int32.toInt64 (mx (ab (px (v 0) (v 1) N)) (ab (py (v 0) (v 1) N))))) (Int32.toInt64 (rtn v N))) (Int32.toInt64 (sumI (v 1) N))) (Int32.toInt64 (ctB (fold1 v st) N))) (Int32.toInt64 (rng v st N))) (Int32.toInt64 (ctB (amb v st mk) N))), .long (wys v st mk N)]) (rest := []) hF (mX0_digested (dg (dg (dg (dg (dg (dg (dg (dg (dg (dg 1051 (Int32.toInt64 (nI N))) (Int32.toInt64 st)) (Int32.toInt64 (px (v 0) (v 1) N))) (Int32.toInt64 (py (v 0) (v 1) N))) (Int32.toInt64 (mx (ab (px (v 0) (v 1) N)) (ab (py (v 0) (v 1) N))))) (Int32.toInt64 (rtn v N))) (Int32.toInt64 (sumI (v 1) N))) (Int32.toInt64 (ctB (fold1 v st) N))) (Int32.toInt64 (rng v st N))) (Int32.toInt64 (ctB (amb v st mk) N))) (wys v st mk N)) Mv.const trivial jyX0_digested kl_RX0_171 ⟨rfl, rfl⟩ ⟨Nat.le_of_ble_eq_true rfl, Nat.le_of_ble_eq_true rfl⟩ rfl hl.1 rfl (Nat.le_of_ble_eq_true rfl) ⟨Nat.zero_le _, Nat.zero_le _⟩ dX0_digest_109 (fun r hr9 => ?_)
  subst hr9
  refine lv_lstore_n (lv' := [(1, .long (dg (dg (dg (dg (dg (dg (dg (dg (dg (dg (dg 1051 (Int32.toInt64 (nI N))) (Int32.toInt64 st)) (Int32.toInt64 (px (v 0) (v 1) N))) (Int32.toInt64 (py (v 0) (v 1) N))) (Int32.toInt64 (mx (ab (px (v 0) (v 1) N)) (ab (py (v 0) (v 1) N))))) (Int32.toInt64 (rtn v N))) (Int32.toInt64 (sumI (v 1) N))) (Int32.toInt64 (ctB (fold1 v st) N))) (Int32.toInt64 (rng v st N))) (Int32.toInt64 (ctB (amb v st mk) N))) (wys v st mk N))), (0, .ref (q 0))]) hx hb dX0_digest_112 rfl hl (by decide) rfl (fun ls hl => ?_)
  refine lv_lload_n hx hb dX0_digest_113 rfl (lv_at hl 0 rfl) ?_
  refine lv_aload_n hx hb dX0_digest_114 rfl (lv_at hl 1 rfl) ?_
  refine cVi (As := []) (rest := [.long (dg (dg (dg (dg (dg (dg (dg (dg (dg (dg (dg 1051 (Int32.toInt64 (nI N))) (Int32.toInt64 st)) (Int32.toInt64 (px (v 0) (v 1) N))) (Int32.toInt64 (py (v 0) (v 1) N))) (Int32.toInt64 (mx (ab (px (v 0) (v 1) N)) (ab (py (v 0) (v 1) N))))) (Int32.toInt64 (rtn v N))) (Int32.toInt64 (sumI (v 1) N))) (Int32.toInt64 (ctB (fold1 v st) N))) (Int32.toInt64 (rng v st N))) (Int32.toInt64 (ctB (amb v st mk) N))) (wys v st mk N))]) hF (mX0_bestStep hok) C0.mv hX (C0.rc hX) jyX0_bestStep kl_RX0_195 ⟨rfl, rfl⟩ ⟨Nat.le_of_ble_eq_true rfl, Nat.le_of_ble_eq_true rfl⟩ rfl hl.1 rfl (Nat.le_of_ble_eq_true rfl) ⟨Nat.zero_le _, Nat.zero_le _⟩ dX0_digest_115 (fun r hr9 => ?_)
  subst hr9
  refine lv_i2l hx hb dX0_digest_118 rfl ?_
  refine cSl (As := [.long (dg (dg (dg (dg (dg (dg (dg (dg (dg (dg (dg 1051 (Int32.toInt64 (nI N))) (Int32.toInt64 st)) (Int32.toInt64 (px (v 0) (v 1) N))) (Int32.toInt64 (py (v 0) (v 1) N))) (Int32.toInt64 (mx (ab (px (v 0) (v 1) N)) (ab (py (v 0) (v 1) N))))) (Int32.toInt64 (rtn v N))) (Int32.toInt64 (sumI (v 1) N))) (Int32.toInt64 (ctB (fold1 v st) N))) (Int32.toInt64 (rng v st N))) (Int32.toInt64 (ctB (amb v st mk) N))) (wys v st mk N)), .long (Int32.toInt64 (nI (bst v N)))]) (rest := []) hF (mX0_digested (dg (dg (dg (dg (dg (dg (dg (dg (dg (dg (dg 1051 (Int32.toInt64 (nI N))) (Int32.toInt64 st)) (Int32.toInt64 (px (v 0) (v 1) N))) (Int32.toInt64 (py (v 0) (v 1) N))) (Int32.toInt64 (mx (ab (px (v 0) (v 1) N)) (ab (py (v 0) (v 1) N))))) (Int32.toInt64 (rtn v N))) (Int32.toInt64 (sumI (v 1) N))) (Int32.toInt64 (ctB (fold1 v st) N))) (Int32.toInt64 (rng v st N))) (Int32.toInt64 (ctB (amb v st mk) N))) (wys v st mk N)) (Int32.toInt64 (nI (bst v N)))) Mv.const trivial jyX0_digested kl_RX0_171 ⟨rfl, rfl⟩ ⟨Nat.le_of_ble_eq_true rfl, Nat.le_of_ble_eq_true rfl⟩ rfl hl.1 rfl (Nat.le_of_ble_eq_true rfl) ⟨Nat.zero_le _, Nat.zero_le _⟩ dX0_digest_119 (fun r hr9 => ?_)
  subst hr9
  refine lv_lstore_n (lv' := [(1, .long (dg (dg (dg (dg (dg (dg (dg (dg (dg (dg (dg (dg 1051 (Int32.toInt64 (nI N))) (Int32.toInt64 st)) (Int32.toInt64 (px (v 0) (v 1) N))) (Int32.toInt64 (py (v 0) (v 1) N))) (Int32.toInt64 (mx (ab (px (v 0) (v 1) N)) (ab (py (v 0) (v 1) N))))) (Int32.toInt64 (rtn v N))) (Int32.toInt64 (sumI (v 1) N))) (Int32.toInt64 (ctB (fold1 v st) N))) (Int32.toInt64 (rng v st N))) (Int32.toInt64 (ctB (amb v st mk) N))) (wys v st mk N)) (Int32.toInt64 (nI (bst v N))))), (0, .ref (q 0))]) hx hb dX0_digest_122 rfl hl (by decide) rfl (fun ls hl => ?_)
  refine lv_iconst (v := 0) hx hb dX0_digest_123 (by decide) ?_
  refine lv_istore_n (lv' := [(3, .int 0), (1, .long (dg (dg (dg (dg (dg (dg (dg (dg (dg (dg (dg (dg 1051 (Int32.toInt64 (nI N))) (Int32.toInt64 st)) (Int32.toInt64 (px (v 0) (v 1) N))) (Int32.toInt64 (py (v 0) (v 1) N))) (Int32.toInt64 (mx (ab (px (v 0) (v 1) N)) (ab (py (v 0) (v 1) N))))) (Int32.toInt64 (rtn v N))) (Int32.toInt64 (sumI (v 1) N))) (Int32.toInt64 (ctB (fold1 v st) N))) (Int32.toInt64 (rng v st N))) (Int32.toInt64 (ctB (amb v st mk) N))) (wys v st mk N)) (Int32.toInt64 (nI (bst v N))))), (0, .ref (q 0))]) hx hb dX0_digest_124 rfl hl (by decide) rfl (fun ls hl => ?_)
  refine lpW (σ := Nat) (fun j ls => (j ≤ N) ∧ lv_has ls 4 [(0, .ref (q 0)), (1, .long (dgLegs v st mk (dgHead v st mk N) j)), (3, .int (nI j))]) (fun j => N - j) (fun j ls hI ih => ?_) (0) ⟨by omega, lv_sub hl [2, 1, 0] rfl⟩
  obtain ⟨hj, hl⟩ := hI
  refine lv_iload_n hx hb dX0_digest_125 rfl (lv_at hl 2 rfl) ?_
  refine lv_aload_n hx hb dX0_digest_126 rfl (lv_at hl 0 rfl) ?_
  refine C0.get hF hX 5 (by decide) rfl rfl kf_RX0_59 dX0_digest_127 ?_
  refine lv_icmp_ge (tgt := 146) hx hb dX0_digest_130 (by decide) (fun c130 => ?_) (fun c130 => ?_)
  · have c130n : N ≤ j := (nI_leI (a := N) (b := j) (by omega) (by omega)).mp c130
    have hjN : j = N := by omega
    rw [hjN] at hl
    refine lv_iconst (v := 0) hx hb dX0_digest_146 (by decide) ?_
    refine lv_istore_n (lv' := [(3, .int 0), (0, .ref (q 0)), (1, .long (dgLegs v st mk (dgHead v st mk N) N))]) hx hb dX0_digest_147 rfl hl (by decide) rfl (fun ls hl => ?_)
    refine lpW (σ := Nat) (fun k ls => (k ≤ 10) ∧ lv_has ls 4 [(0, .ref (q 0)), (1, .long (dgWords v st N (dgLegs v st mk (dgHead v st mk N) N) k)), (3, .int (nI k))]) (fun k => 10 - k) (fun k ls hI ih => ?_) (0) ⟨by omega, lv_sub hl [1, 2, 0] rfl⟩
    obtain ⟨hj, hl⟩ := hI
    refine lv_iload_n hx hb dX0_digest_148 rfl (lv_at hl 2 rfl) ?_
    refine lv_bipush (v := 10) hx hb dX0_digest_149 (by decide) ?_
    refine lv_icmp_ge (tgt := 182) hx hb dX0_digest_151 (by decide) (fun c151 => ?_) (fun c151 => ?_)
    · have c151n : 10 ≤ k := (nI_leI (a := 10) (b := k) (by omega) (by omega)).mp c151
      obtain rfl : k = 10 := by omega
      refine lv_lload_n hx hb dX0_digest_182 rfl (lv_at hl 1 rfl) ?_
      exact W.lret hx hb hr (fun t ht hW => ⟨_, rfl, rfl, ht⟩) (fun q hq => absurd hq List.not_mem_nil) dX0_digest_183
    · have c151n : ¬ 10 ≤ k := fun h9 => c151 ((nI_leI (a := 10) (b := k) (by omega) (by omega)).mpr h9)
      refine lv_lload_n hx hb dX0_digest_154 rfl (lv_at hl 1 rfl) ?_
      refine lv_aload_n hx hb dX0_digest_155 rfl (lv_at hl 0 rfl) ?_
      refine lv_iload_n hx hb dX0_digest_156 rfl (lv_at hl 2 rfl) ?_
      refine cVi (As := [.int (nI k)]) (rest := [.long (dgWords v st N (dgLegs v st mk (dgHead v st mk N) N) k)]) hF (mX0_wordOf k (by omega)) C0.mv hX (C0.rc hX) jyX0_wordOf kl_RX0_202 ⟨rfl, rfl⟩ ⟨Nat.le_of_ble_eq_true rfl, Nat.le_of_ble_eq_true rfl⟩ rfl hl.1 rfl (Nat.le_of_ble_eq_true rfl) ⟨Nat.zero_le _, Nat.zero_le _⟩ dX0_digest_157 (fun r hr9 => ?_)
      subst hr9
      refine lv_i2l hx hb dX0_digest_160 rfl ?_
      refine cSl (As := [.long (dgWords v st N (dgLegs v st mk (dgHead v st mk N) N) k), .long (Int32.toInt64 (v 3 k))]) (rest := []) hF (mX0_digested (dgWords v st N (dgLegs v st mk (dgHead v st mk N) N) k) (Int32.toInt64 (v 3 k))) Mv.const trivial jyX0_digested kl_RX0_171 ⟨rfl, rfl⟩ ⟨Nat.le_of_ble_eq_true rfl, Nat.le_of_ble_eq_true rfl⟩ rfl hl.1 rfl (Nat.le_of_ble_eq_true rfl) ⟨Nat.zero_le _, Nat.zero_le _⟩ dX0_digest_161 (fun r hr9 => ?_)
      subst hr9
      refine lv_lstore_n (lv' := [(1, .long (dg (dgWords v st N (dgLegs v st mk (dgHead v st mk N) N) k) (Int32.toInt64 (v 3 k)))), (0, .ref (q 0)), (3, .int (nI k))]) hx hb dX0_digest_164 rfl hl (by decide) rfl (fun ls hl => ?_)
      refine lv_lload_n hx hb dX0_digest_165 rfl (lv_at hl 0 rfl) ?_
      refine lv_aload_n hx hb dX0_digest_166 rfl (lv_at hl 1 rfl) ?_
      refine lv_iload_n hx hb dX0_digest_167 rfl (lv_at hl 2 rfl) ?_
      refine cVi (As := [.int (nI k)]) (rest := [.long (dg (dgWords v st N (dgLegs v st mk (dgHead v st mk N) N) k) (Int32.toInt64 (v 3 k)))]) hF (mX0_bestWord hok k (by omega)) C0.mv hX (C0.rc hX) jyX0_bestWord kl_RX0_205 ⟨rfl, rfl⟩ ⟨Nat.le_of_ble_eq_true rfl, Nat.le_of_ble_eq_true rfl⟩ rfl hl.1 rfl (Nat.le_of_ble_eq_true rfl) ⟨Nat.zero_le _, Nat.zero_le _⟩ dX0_digest_168 (fun r hr9 => ?_)
      subst hr9
      refine lv_i2l hx hb dX0_digest_171 rfl ?_
      refine cSl (As := [.long (dg (dgWords v st N (dgLegs v st mk (dgHead v st mk N) N) k) (Int32.toInt64 (v 3 k))), .long (Int32.toInt64 (nI (bwd v st N k)))]) (rest := []) hF (mX0_digested (dg (dgWords v st N (dgLegs v st mk (dgHead v st mk N) N) k) (Int32.toInt64 (v 3 k))) (Int32.toInt64 (nI (bwd v st N k)))) Mv.const trivial jyX0_digested kl_RX0_171 ⟨rfl, rfl⟩ ⟨Nat.le_of_ble_eq_true rfl, Nat.le_of_ble_eq_true rfl⟩ rfl hl.1 rfl (Nat.le_of_ble_eq_true rfl) ⟨Nat.zero_le _, Nat.zero_le _⟩ dX0_digest_172 (fun r hr9 => ?_)
      subst hr9
      refine lv_lstore_n (lv' := [(1, .long (dg (dg (dgWords v st N (dgLegs v st mk (dgHead v st mk N) N) k) (Int32.toInt64 (v 3 k))) (Int32.toInt64 (nI (bwd v st N k))))), (0, .ref (q 0)), (3, .int (nI k))]) hx hb dX0_digest_175 rfl hl (by decide) rfl (fun ls hl => ?_)
      refine lv_iinc (v := (nI (k + 1))) (lv' := [(3, .int (nI (k + 1))), (1, .long (dg (dg (dgWords v st N (dgLegs v st mk (dgHead v st mk N) N) k) (Int32.toInt64 (v 3 k))) (Int32.toInt64 (nI (bwd v st N k))))), (0, .ref (q 0))]) hx hb dX0_digest_176 hl (k := 2) rfl (nI_1 _) (by decide) rfl (fun ls hl => ?_)
      refine lv_goto (tgt := 148) hx hb dX0_digest_179 (by decide) ?_
      exact ih (k + 1) ls (by omega) ⟨by omega, by exact lv_sub hl [2, 1, 0] rfl⟩
  · have c130n : ¬ N ≤ j := fun h9 => c130 ((nI_leI (a := N) (b := j) (by omega) (by omega)).mpr h9)
    refine lv_aload_n hx hb dX0_digest_133 rfl (lv_at hl 0 rfl) ?_
    refine lv_lload_n hx hb dX0_digest_134 rfl (lv_at hl 1 rfl) ?_
    refine lv_iload_n hx hb dX0_digest_135 rfl (lv_at hl 2 rfl) ?_
    refine cVl (As := [.long (dgLegs v st mk (dgHead v st mk N) j), .int (nI j)]) (rest := []) hF (mX0_digestOfLeg hok hde (dgLegs v st mk (dgHead v st mk N) j) j (by omega)) C0.mv hX (C0.rc hX) jyX0_digestOfLeg kl_RX0_198 ⟨rfl, rfl⟩ ⟨Nat.le_of_ble_eq_true rfl, Nat.le_of_ble_eq_true rfl⟩ rfl hl.1 rfl (Nat.le_of_ble_eq_true rfl) ⟨Nat.zero_le _, Nat.zero_le _⟩ dX0_digest_136 (fun r hr9 => ?_)
    subst hr9
    refine lv_lstore_n (lv' := [(1, .long (dgLeg v st mk (dgLegs v st mk (dgHead v st mk N) j) j)), (0, .ref (q 0)), (3, .int (nI j))]) hx hb dX0_digest_139 rfl hl (by decide) rfl (fun ls hl => ?_)
    refine lv_iinc (v := (nI (j + 1))) (lv' := [(3, .int (nI (j + 1))), (1, .long (dgLeg v st mk (dgLegs v st mk (dgHead v st mk N) j) j)), (0, .ref (q 0))]) hx hb dX0_digest_140 hl (k := 2) rfl (nI_1 _) (by decide) rfl (fun ls hl => ?_)
    refine lv_goto (tgt := 125) hx hb dX0_digest_143 (by decide) ?_
    exact ih (j + 1) ls (by omega) ⟨by omega, by exact lv_sub hl [2, 1, 0] rfl⟩
end P14
end
section
/-! THE LAW'S SONG BY HAND: rows over single cells; its picture -/
def AOI (U : State) : Prop := (Cond.arrayOver (.array .int)).before #[] U = true
theorem AOI.moved {u U : State} (hvm : u.vm.Alike U.vm) (h : AOI u) : AOI U := by
  obtain ⟨comp, c, k, h1, h2, h3, h4, h5⟩ := arrayOverA_spec h
  obtain ⟨k', hk', he⟩ := hvm.2.2 _ _ h3
  have hi : (U.vm.classes.findIdx? fun (x : Class) => match x.kind with | .array component _ => component == comp | _ => false) = some c := by
    rw [hvm.findIdx?_eq _ (fun _ => rfl)]; exact h2
  have hkind : k'.kind = .array comp (.array .int) := by rw [he]; exact h4
  have f1 : U.vm.findClass (FieldType.array .int).toString = some comp := by rw [hvm.findClass]; exact h1
  have f2 : U.vm.findClass ("[" ++ (FieldType.array .int).toString) = some c := by rw [hvm.findClass]; exact h5
  unfold AOI Cond.before Cond.holds
  simp only [Cond.value]
  rw [f1, Option.bind_some]
  refine (congrArg (fun o : Option Nat => (o.bind (fun c => (U.vm.classes[c]?).map fun (k : Class) => match k.kind with | .array _ ty => decide (ty = FieldType.array .int) && decide (U.vm.findClass ("[" ++ (FieldType.array .int).toString) = some c) | _ => false) == some true)) hi).trans ?_
  simp [hk', hkind, f2]
theorem AOI.use {A : Array Value} {U : State} (h : AOI U) : (Cond.arrayOver (.array .int)).before A U = true := h
/-- what is known of the two classes of arrays -/
def KS (D : va_G) (cyI cyA : ClassId) (U : State) : Prop := va_K D vwCl [(cyI, .int), (cyA, .array .int)] U ∧ AOI U
theorem KS.moved {D : va_G} {cyI cyA : ClassId} {u U : State} (hvm : u.vm.Alike U.vm) (h : KS D cyI cyA u) : KS D cyI cyA U := ⟨va_K.moved hvm h.1, AOI.moved hvm h.2⟩
theorem KS.two {D : va_G} {cyI cyA : ClassId} {U : State} (h : KS D cyI cyA U) : U.vm.findClass (FieldType.array .int).toString = some cyI ∧ U.vm.findClass ("[" ++ (FieldType.array .int).toString) = some cyA ∧ ∃ kA kI : Class, U.vm.classes[cyA]? = some kA ∧ kA.kind = .array cyI (.array .int) ∧ U.vm.classes[cyI]? = some kI := by
  have e1 : U.vm.findClass ("[" ++ FieldType.int.toString) = some cyI := (h.1.2 0 _ rfl).2
  have e2 : U.vm.findClass ("[" ++ (FieldType.array .int).toString) = some cyA := (h.1.2 1 _ rfl).2
  have e3 : U.vm.findClass (FieldType.array .int).toString = some cyI := e1
  obtain ⟨comp, c, k, h1, h2, h3, h4, h5⟩ := arrayOverA_spec h.2
  cases Option.some.inj (h1.symm.trans e3)
  cases Option.some.inj (h5.symm.trans e2)
  obtain ⟨kI, hkI, -⟩ := Vm.findClass_spec h1
  exact ⟨e3, e2, k, kI, h3, h4, hkI⟩
theorem asgRefl0 (vm : Vm) (c : ClassId) (n : Nat) : vm.assignableAux (n + 1) c c = true := by rw [Vm.assignableAux]; simp
theorem asgRefl (vm : Vm) (c : ClassId) : vm.assignable c c = true := asgRefl0 vm c 255
abbrev IA (cyI : ClassId) (a n : Nat) (f : Nat → Int32) (H : Heap) : Prop := H[a]? = some (vp_cell cyI (n, .inl f))
abbrev QA (cyA : ClassId) (a n : Nat) (f : Nat → Option Nat) (H : Heap) : Prop := H[a]? = some (vp_cell cyA (n, .inr (.inr (.inr (.inr f)))))
abbrev OB (D : va_G) (sm : Nat) (fs : List Value) (H : Heap) : Prop := va_at D vwCl (sm, .inr (1, fs)) H
theorem sP1 {D : va_G} {cl : List vw_C} {q : Nat × va_E} {H : Heap} (h : va_at D cl q H) : va_P D cl [q] H := by
  intro k r hr
  cases k with
  | zero => cases hr; exact h
  | succ k => simp at hr
theorem IA.lt {cyI : ClassId} {a n : Nat} {f : Nat → Int32} {H : Heap} (h : IA cyI a n f H) : a < H.size := (Array.getElem?_eq_some_iff.mp h).1
theorem QA.lt {cyA : ClassId} {a n : Nat} {f : Nat → Option Nat} {H : Heap} (h : QA cyA a n f H) : a < H.size := (Array.getElem?_eq_some_iff.mp h).1
theorem OB.lt {D : va_G} {a : Nat} {fs : List Value} {H : Heap} (h : OB D a fs H) : a < H.size := va_at.lt h
theorem IA.k {cyI : ClassId} {a n : Nat} {f : Nat → Int32} {H H1 : Heap} (h : IA cyI a n f H) (e : H1[a]? = H[a]?) : IA cyI a n f H1 := e.trans h
theorem QA.k {cyA : ClassId} {a n : Nat} {f : Nat → Option Nat} {H H1 : Heap} (h : QA cyA a n f H) (e : H1[a]? = H[a]?) : QA cyA a n f H1 := e.trans h
theorem OB.k {D : va_G} {a : Nat} {fs : List Value} {H H1 : Heap} (h : OB D a fs H) (e : H1[a]? = H[a]?) : OB D a fs H1 := va_at.kept h e
theorem ia_congr {cyI : ClassId} {n : Nat} {f g : Nat → Int32} (h : ∀ k, k < n → f k = g k) : vp_cell cyI (n, .inl f) = vp_cell cyI (n, .inl g) := by
  rw [vp_cell_i, vp_cell_i]
  unfold arrV
  congr 1
  apply Array.ext
  · simp
  · intro i h1 h2
    simp only [Array.size_ofFn] at h1
    simp [h i h1]
theorem qa_congr {cyI : ClassId} {n : Nat} {f g : Nat → Option Nat} (h : ∀ k, k < n → f k = g k) : vp_cell cyI (n, .inr (.inr (.inr (.inr f)))) = vp_cell cyI (n, .inr (.inr (.inr (.inr g)))) := by
  rw [vp_cell_q, vp_cell_q]
  unfold arrV
  congr 1
  apply Array.ext
  · simp
  · intro i h1 h2
    simp only [Array.size_ofFn] at h1
    simp [h i h1]
theorem IA.c {cyI : ClassId} {a n : Nat} {f g : Nat → Int32} {H : Heap} (h : IA cyI a n f H) (e : ∀ k, k < n → f k = g k) : IA cyI a n g H := by rw [IA, ← ia_congr e]; exact h
theorem QA.c {cyA : ClassId} {a n : Nat} {f g : Nat → Option Nat} {H : Heap} (h : QA cyA a n f H) (e : ∀ k, k < n → f k = g k) : QA cyA a n g H := by rw [QA, ← qa_congr e]; exact h
section R15
variable {p : Program} {l : Launch} {e : Env} {R : Room} {s : State} {m : MethodId} {args : Array Value} {below : List Frame} {meth : Method} {c : Code} {H : Heap} {locs : List Loc} {cells slots : Nat} {Q : State → Prop}
variable {cc : ByteArray} {nL pc idx a : Nat} {ls : Array Slot} {own0 : String} {rest st0 : List Value} {D : va_G} {A : Nat → Prop} {H0 : Heap} {cyI cyA : ClassId}
theorem ldI (hF : CallFix p m c cc nL s args wA own0) (hK : KS D cyI cyA s) {n : Nat} {f : Nat → Int32} (h : IA cyI a n f H) (j : Nat) (hj : j < n) (hn : n < 2 ^ 31) {x : Int32} (hx : x = nI j) (hdg : decode cc pc = .ok (.iaload, 1))
    (kk : W p l e R s m args below meth c H locs cells slots Q (F0 m (pc + 1) ls (.int (f j) :: rest))) : W p l e R s m args below meth c H locs cells slots Q (F0 m pc ls (.int x :: .ref a :: rest)) :=
  aldI (D := D) (ws := [(a, .inl (cyI, n, .inl f))]) (tys := [(cyI, .int), (cyA, .array .int)]) hF hK.1 (sP1 h) 0 0 rfl rfl j hj hn hx hdg kk
theorem stI (hF : CallFix p m c cc nL s args wA own0) (hK : KS D cyI cyA s) {n : Nat} {f : Nat → Int32} (h : IA cyI a n f H) (hS : va_S A H0 H locs) (hA : A a) (j : Nat) (hj : j < n) (hn : n < 2 ^ 31) {i x : Int32} (hi : i = nI j) (hdg : decode cc pc = .ok (.iastore, 1))
    (kk : ∀ (H1 : Heap) (locs1 : List Loc), IA cyI a n (upd f j x) H1 → H1.size = H.size → (∀ q : Nat, q ≠ a → H1[q]? = H[q]?) → va_S A H0 H1 locs1 → W p l e R s m args below meth c H1 locs1 cells slots Q (F0 m (pc + 1) ls rest)) : W p l e R s m args below meth c H locs cells slots Q (F0 m pc ls (.int x :: .int i :: .ref a :: rest)) := by
  subst hi
  refine W.iast hF.1 hF.2.1 h ((hK.1.2 0 _ rfl).1 n (fun j => .int (f j))) (fun q => by cases q) (by show ¬ (nI j < 0 ∨ (arrV _ _ _).slots.size ≤ _); rw [arrV_size]; exact vp_in_nI hj hn) rfl rfl hdg fun H1 e z oq => ?_
  refine kk H1 _ ?_ z oq (hS.put z oq hA)
  show H1[a]? = some (vp_cell _ _)
  rw [e, nI_clamp (Nat.lt_trans hj hn)]
  rw [vp_cell_i, vp_cell_i, arrV_store]
  congr 2
  funext q
  by_cases hq : q = j
  · subst hq
    simp [updV, upd]
  · simp [updV, upd, hq]
theorem lenI (hF : CallFix p m c cc nL s args wA own0) (hK : KS D cyI cyA s) {n : Nat} {f : Nat → Int32} (h : IA cyI a n f H) (hdg : decode cc pc = .ok (.arraylength, 1))
    (kk : W p l e R s m args below meth c H locs cells slots Q (F0 m (pc + 1) ls (.int (nI n) :: rest))) : W p l e R s m args below meth c H locs cells slots Q (F0 m pc ls (.ref a :: rest)) :=
  va_alen (D := D) (cl := vwCl) (ws := [(a, .inl (cyI, n, .inl f))]) (tys := [(cyI, .int), (cyA, .array .int)]) hF.1 hF.2.1 hK.1 (sP1 h) 0 0 rfl rfl rfl hdg kk
theorem lenQ (hF : CallFix p m c cc nL s args wA own0) (hK : KS D cyI cyA s) {n : Nat} {f : Nat → Option Nat} (h : QA cyA a n f H) (hdg : decode cc pc = .ok (.arraylength, 1))
    (kk : W p l e R s m args below meth c H locs cells slots Q (F0 m (pc + 1) ls (.int (nI n) :: rest))) : W p l e R s m args below meth c H locs cells slots Q (F0 m pc ls (.ref a :: rest)) :=
  va_alen (D := D) (cl := vwCl) (ws := [(a, .inl (cyA, n, .inr (.inr (.inr (.inr f)))))]) (tys := [(cyI, .int), (cyA, .array .int)]) hF.1 hF.2.1 hK.1 (sP1 h) 0 1 rfl rfl rfl hdg kk
theorem ldQ (hF : CallFix p m c cc nL s args wA own0) (hK : KS D cyI cyA s) {n : Nat} {f : Nat → Option Nat} (h : QA cyA a n f H) (j : Nat) (hj : j < n) (hn : n < 2 ^ 31) {x : Int32} (hx : x = nI j) {v : Nat} (hv : f j = some v) (hdg : decode cc pc = .ok (.aaload, 1))
    (kk : W p l e R s m args below meth c H locs cells slots Q (F0 m (pc + 1) ls (.ref v :: rest))) : W p l e R s m args below meth c H locs cells slots Q (F0 m pc ls (.int x :: .ref a :: rest)) := by
  subst hx
  refine W.aald (v := .ref v) (ty := .array .int) hF.1 hF.2.1 h ((hK.1.2 1 _ rfl).1 n (fun j => va_rf (f j))) rfl (fun q => by cases q) (by show ¬ (nI j < 0 ∨ (arrV _ _ _).slots.size ≤ _); rw [arrV_size]; exact vp_in_nI hj hn) ?_ rfl rfl hdg kk
  show (arrV _ _ _).slots[_]? = _
  rw [nI_clamp (Nat.lt_trans hj hn), arrV_read _ _ hj, hv]
  rfl
theorem stQ (hF : CallFix p m c cc nL s args wA own0) (hK : KS D cyI cyA s) {n v k : Nat} {f : Nat → Option Nat} {g : Nat → Int32} (h : QA cyA a n f H) (hv : IA cyI v k g H) (hS : va_S A H0 H locs) (hA : A a) (j : Nat) (hj : j < n) (hn : n < 2 ^ 31) {i : Int32} (hi : i = nI j) (hdg : decode cc pc = .ok (.aastore, 1))
    (kk : ∀ (H1 : Heap) (locs1 : List Loc), QA cyA a n (va_up f j (some v)) H1 → H1.size = H.size → (∀ q : Nat, q ≠ a → H1[q]? = H[q]?) → va_S A H0 H1 locs1 → W p l e R s m args below meth c H1 locs1 cells slots Q (F0 m (pc + 1) ls rest)) : W p l e R s m args below meth c H locs cells slots Q (F0 m pc ls (.ref v :: .int i :: .ref a :: rest)) := by
  subst hi
  obtain ⟨-, -, kA, kI, h1, h2, h3⟩ := hK.two
  refine W.aast hF.1 hF.2.1 h (fun q h => by cases h) (fun h => by cases h) h1 h2 rfl h3 ⟨nI_pos (Nat.lt_trans hj hn), by show _ < (arrV _ _ _).slots.size; rw [arrV_size, nI_clamp (Nat.lt_trans hj hn)]; exact hj⟩ hv (fun q h => by cases h) h3 (asgRefl _ _) rfl rfl hdg fun H1 e z oq => ?_
  refine kk H1 _ ?_ z oq (hS.put z oq hA)
  show H1[a]? = some (vp_cell _ _)
  rw [e, nI_clamp (Nat.lt_trans hj hn)]
  rw [vp_cell_q, vp_cell_q, arrV_store]
  congr 2
  funext q
  by_cases hq : q = j
  · subst hq
    simp [updV, va_up, va_rf]
  · simp [updV, va_up, hq]
theorem vaS_push {H1 : Heap} (hS : va_S A H0 H locs) (z : H1.size = H.size + 1) (o : ∀ q : Nat, q < H.size → H1[q]? = H[q]?) : va_S A H0 H1 locs :=
  ⟨Nat.le_trans hS.1 (by omega), fun x h1 h2 => (o x (Nat.lt_of_lt_of_le h1 hS.1)).trans (hS.2.1 x h1 h2), hS.2.2⟩
theorem newIr (hF : CallFix p m c cc nL s args wA own0) (hK : KS D cyI cyA s) (hS : va_S A H0 H locs) (n : Nat) (hn : n ≤ 100) {i : Int32} (hi : i = nI n) (hc : cells + 1 ≤ R.cells) (hs : slots + n ≤ R.slots) (hdg : decode cc pc = .ok (.newarray .int, 2))
    (kk : ∀ (q : Nat) (H1 : Heap), q = H.size → IA cyI q n (fun _ => 0) H1 → H1.size = H.size + 1 → (∀ x : Nat, x < H.size → H1[x]? = H[x]?) → va_S A H0 H1 locs → W p l e R s m args below meth c H1 locs (cells + 1) (slots + n) Q (F0 m (pc + 2) ls (.ref q :: rest))) : W p l e R s m args below meth c H locs cells slots Q (F0 m pc ls (.int i :: rest)) := by
  subst hi
  refine va_newaK (atype := .int) hF.1 hF.2.1 (hF.2.2.2.2 _ ka_int) rfl hdg rfl (nI_pos (by omega)) (nI_clamp (n := n) (by omega)) ?_ hc hs rfl fun H1 cA e1 z1 o1 hAr hNm => ?_
  · show n * 4 ≤ 536870912
    omega
  · have e0 : s.vm.findClass ("[" ++ FieldType.int.toString) = some cyI := (hK.1.2 0 _ rfl).2
    have e2 : s.vm.findClass ("[" ++ FieldType.int.toString) = some cA := hNm
    cases Option.some.inj (e0.symm.trans e2)
    exact kk H.size H1 rfl e1 z1 o1 (vaS_push hS z1 o1)
theorem newQr (hF : CallFix p m c cc nL s args wA own0) (hK : KS D cyI cyA s) (hS : va_S A H0 H locs) (n : Nat) (hn : n ≤ 100) {i : Int32} (hi : i = nI n) (hlk : Cond.classLink own0 idx "[I" ∈ wA) (hc : cells + 1 ≤ R.cells) (hs : slots + n ≤ R.slots) (hdg : decode cc pc = .ok (.anewarray idx, 3))
    (kk : ∀ (q : Nat) (H1 : Heap), q = H.size → QA cyA q n (fun _ => none) H1 → H1.size = H.size + 1 → (∀ x : Nat, x < H.size → H1[x]? = H[x]?) → va_S A H0 H1 locs → W p l e R s m args below meth c H1 locs (cells + 1) (slots + n) Q (F0 m (pc + 3) ls (.ref q :: rest))) : W p l e R s m args below meth c H locs cells slots Q (F0 m pc ls (.int i :: rest)) := by
  subst hi
  have hcl := nI_clamp (n := n) (by omega)
  obtain ⟨-, e2, -⟩ := hK.two
  refine W.anewA (t := .int) hF.1 hF.2.1 hF.2.2.2.1 (hF.2.2.2.2 _ hlk) hK.2.use rfl hdg rfl (nI_pos (by omega)) (by rw [hcl]; omega) hc (by rw [hcl]; exact hs) fun cA kA comp f1 f2 f3 f4 => ?_
  cases Option.some.inj (e2.symm.trans f1)
  rw [hcl]
  generalize hH1 : H.push ({ cls := cyA, slots := Array.replicate n .null, vm := .none } : Cell) = H1
  have z1 : H1.size = H.size + 1 := by rw [← hH1, Array.size_push]
  have e1 : H1[H.size]? = some (arrV cyA n (fun _ => .null)) := by rw [← hH1, Array.getElem?_push_size, ← arrV_new]
  have o1 : ∀ q : Nat, q < H.size → H1[q]? = H[q]? := fun q hq => by rw [← hH1, Array.getElem?_push, if_neg (Nat.ne_of_lt hq)]
  exact kk H.size H1 rfl e1 z1 o1 (vaS_push hS z1 o1)
/-- a field of the song by hand is read -/
theorem getS (hF : CallFix p m c cc nL s args wA own0) (hK : KS D cyI cyA s) {fs : List Value} (h : OB D a fs H) (j : Nat) (hj : j < 3) {val : Value} (hv : fs[j]? = some val) {nm ds : String} (hn : TX1 j = ("MapSongsLaw$Sim", nm, ds, (TX1 j).2.2.2)) (hl : Cond.fieldLink own0 idx "MapSongsLaw$Sim" nm ds ∈ wA) (hdg : decode cc pc = .ok (.getfield idx, 3))
    (kk : W p l e R s m args below meth c H locs cells slots Q (F0 m (pc + 3) ls (val :: rest))) : W p l e R s m args below meth c H locs cells slots Q (F0 m pc ls (.ref a :: rest)) := by
  have h1 : (TX1 j).1 = "MapSongsLaw$Sim" := by rw [hn]
  have h2 : (TX1 j).2.1 = nm := by rw [hn]
  have h3 : (TX1 j).2.2.1 = ds := by rw [hn]
  exact va_get (D := D) (ci := 1) (C := RX1) (T := TX1) (N := 3) (ref := "MapSongsLaw$Sim") hF.1 hF.2.1 hF.2.2.2.2 wx1 hF.2.2.2.1 hK.1 (sP1 h) 0 rfl rfl j hj (by rw [h2, h3]; exact hF.2.2.2.2 _ hl) (by rw [h1]; exact fun _ h9 => h9) hv hdg kk
theorem putS (hF : CallFix p m c cc nL s args wA own0) (hK : KS D cyI cyA s) {fs : List Value} (h : OB D a fs H) (hS : va_S A H0 H locs) (hA : A a) (j : Nat) (hj : j < 3) {v : Value} {nm ds : String} (hn : TX1 j = ("MapSongsLaw$Sim", nm, ds, false)) {ty : FieldType} (hd : parseFieldDescriptor (TX1 j).2.2.1 = some ty) (hnv : narrow ty v = v) (hfit : fits ty v = true) (hlen : j < fs.length) (hl : Cond.fieldLink own0 idx "MapSongsLaw$Sim" nm ds ∈ wA) (hdg : decode cc pc = .ok (.putfield idx, 3))
    (kk : ∀ (H1 : Heap) (locs1 : List Loc), OB D a (fs.set j v) H1 → H1.size = H.size → (∀ q : Nat, q ≠ a → H1[q]? = H[q]?) → va_S A H0 H1 locs1 → W p l e R s m args below meth c H1 locs1 cells slots Q (F0 m (pc + 3) ls rest)) : W p l e R s m args below meth c H locs cells slots Q (F0 m pc ls (v :: .ref a :: rest)) := by
  have h1 : (TX1 j).1 = "MapSongsLaw$Sim" := by rw [hn]
  have h2 : (TX1 j).2.1 = nm := by rw [hn]
  have h3 : (TX1 j).2.2.1 = ds := by rw [hn]
  have hfin : (TX1 j).2.2.2 = false := by rw [hn]
  have hap := va_apart (own := own0) hF.2.2.2.2 wx1 tyX1 tyX1_ok nmX1 hK.1 (ci := 1) rfl
  obtain ⟨r, q0, cell, q1, q2, q3, q4⟩ := h
  have hr : r = (RX1, TX1, 3) := Option.some.inj (q0.symm.trans rfl)
  subst hr
  obtain ⟨hS1, hfc, kC, hkC, hkind⟩ := hK.1.1 1 _ rfl
  obtain ⟨cf, kf, fi, f, hi, hsl⟩ := hS1 j hj
  have hlay := hF.2.2.2.2 _ (wx1 _ (u_in_lay hj))
  unfold u_lay at hlay
  rw [if_neg (by rw [hfin]; decide)] at hlay
  have hst := (u_facts hfc hkC (u_lays hF.2.2.2.2 wx1 hj) hi).1
  have h6 := u_store hfc hkC hkind hlay hi hd hnv hfit
  have hi2 : s.fieldFound? "MapSongsLaw$Sim" nm ds = some (cf, kf, fi, f) := by rw [← h1, ← h2, ← h3]; exact hi
  refine W.putK hF.1 hF.2.1 (f := f) ⟨hF.2.2.2.1, hF.2.2.2.2 _ hl, ⟨_, _, _, hi2⟩, hst⟩ (by rw [q2]; exact h6) q1 q3 (by rw [hsl]; exact k2_hasslot (q4 j hj)) rfl rfl hdg fun H' e1 e2 e3 => ?_
  rw [hsl] at e1 ⊢
  exact kk H' _ ⟨_, rfl, t_OB.to (V := updV (vp_V fs) j v) ⟨_, e1, q2, q3, t_set q4 hap hj v⟩ (fun i _ => vp_updV_set hlen v i)⟩ e2 e3 (hS.put e2 e3 hA)
theorem newS (hF : CallFix p m c cc nL s args wA own0) (hK : KS D cyI cyA s) (hS : va_S A H0 H locs) (hlk : Cond.classLink own0 idx RX1 ∈ wA) (hc : cells + 1 ≤ R.cells) (hs : slots + 3 ≤ R.slots) (hdg : decode cc pc = .ok (.new idx, 3))
    (kk : ∀ (q : Nat) (H1 : Heap), q = H.size → OB D q [.null, .null, .int 0] H1 → H1.size = H.size + 1 → (∀ x : Nat, x < H.size → H1[x]? = H[x]?) → va_S A H0 H1 locs → W p l e R s m args below meth c H1 locs (cells + 1) (slots + 3) Q (F0 m (pc + 3) ls (.ref q :: rest))) : W p l e R s m args below meth c H locs cells slots Q (F0 m pc ls rest) := by
  have hKn := hK.1.1 1 _ rfl
  refine W.newcK hF.1 hF.2.1 hF.2.2.2.1 (hF.2.2.2.2 _ hlk) (hF.2.2.2.2 _ kb_RX1) (hF.2.2.2.2 _ kn_RX1) rfl hdg hc hs hKn.2.1 rfl fun H1 kC hkC e1 z1 o1 => ?_
  refine kk H.size H1 rfl ⟨_, rfl, (u_born tyX1 hF.2.2.2.2 wx1 hKn hkC e1 tyX1_ok).to (fun j hj => ?_)⟩ z1 o1 (vaS_push hS z1 o1)
  match j, hj with
  | 0, _ => rfl
  | 1, _ => rfl
  | 2, _ => rfl
theorem lpC {σ τ : Type} {head : Nat} (I : σ → τ → Array Slot → Heap → List Loc → Prop) (μ : σ → τ → Nat) (cf sf : σ → Nat)
    (step : ∀ (x : σ) (y : τ) (ls : Array Slot) (H : Heap) (locs : List Loc), I x y ls H locs → (∀ (x' : σ) (y' : τ) (ls' : Array Slot) (H' : Heap) (locs' : List Loc), μ x' y' < μ x y → I x' y' ls' H' locs' → W p l e R s m args below meth c H' locs' (cf x') (sf x') Q (F0 m head ls' st0)) → W p l e R s m args below meth c H locs (cf x) (sf x) Q (F0 m head ls st0))
    (x : σ) (y : τ) (h : I x y ls H locs) : W p l e R s m args below meth c H locs (cf x) (sf x) Q (F0 m head ls st0) := by
  have K : ∀ (n : Nat) (x : σ) (y : τ) (ls : Array Slot) (H : Heap) (locs : List Loc), μ x y < n → I x y ls H locs → W p l e R s m args below meth c H locs (cf x) (sf x) Q (F0 m head ls st0) := by
    intro n
    induction n with
    | zero => intro x y ls H locs h; exact absurd h (Nat.not_lt_zero _)
    | succ n ih => intro x y ls H locs hn hI; exact step x y ls H locs hI (fun x' y' ls' H' locs' h1 h2 => ih x' y' ls' H' locs' (by omega) h2)
  exact K (μ x y + 1) x y ls H locs (Nat.lt_succ_self _) h
/-- a walk in two pieces -/
theorem cutW {σ : Type} {pc pc2 cells2 slots2 : Nat} {st2 : List Value} {ls : Array Slot} (I : σ → Array Slot → Heap → List Loc → Prop)
    (J : ∀ (x : σ) (ls : Array Slot) (H : Heap) (locs : List Loc), I x ls H locs → W p l e R s m args below meth c H locs cells2 slots2 Q (F0 m pc2 ls st2))
    (K : (∀ (x : σ) (ls : Array Slot) (H : Heap) (locs : List Loc), I x ls H locs → W p l e R s m args below meth c H locs cells2 slots2 Q (F0 m pc2 ls st2)) → W p l e R s m args below meth c H locs cells slots Q (F0 m pc ls st0)) : W p l e R s m args below meth c H locs cells slots Q (F0 m pc ls st0) := K J
end R15
/-! the song by hand: object, words, rows -/
def Ap (sm wd lg : Nat) (a : Nat → Nat) (n : Nat) : Prop := (sm ≠ wd ∧ sm ≠ lg ∧ wd ≠ lg) ∧ (∀ k : Nat, k < n → a k ≠ sm ∧ a k ≠ wd ∧ a k ≠ lg) ∧ ∀ k : Nat, k < n → ∀ j : Nat, j < n → a k = a j → k = j
def sown (sm wd lg : Nat) (a : Nat → Nat) (n : Nat) : Nat → Prop := fun q => q = sm ∨ q = wd ∨ q = lg ∨ ∃ k : Nat, k < n ∧ q = a k
def rowA (a : Nat → Nat) (n : Nat) : Nat → Prop := fun q => ∃ k : Nat, k < n ∧ q = a k
def S0 (D : va_G) (cyI cyA : ClassId) (sm wd lg : Nat) (a : Nat → Nat) (n : Nat) (st : Int32) (wv : Nat → Int32) (r : Nat → Nat → Int32) : State → Heap → Prop := fun U H =>
  (OB D sm [.ref lg, .ref wd, .int st] H ∧ IA cyI wd 10 wv H ∧ QA cyA lg n (fun k => some (a k)) H ∧ ∀ k : Nat, k < n → IA cyI (a k) 6 (r k) H) ∧ KS D cyI cyA U ∧ Ap sm wd lg a n ∧ n ≤ 16
section S0R
variable {p : Program} {l : Launch} {e : Env} {R : Room} {s : State} {m : MethodId} {args : Array Value} {below : List Frame} {meth : Method} {c : Code} {H : Heap} {locs : List Loc} {cells slots : Nat} {Q : State → Prop}
variable {cc : ByteArray} {nL pc idx : Nat} {ls : Array Slot} {own0 : String} {rest st0 : List Value} {D : va_G} {A : Nat → Prop} {H0 H1 : Heap} {cyI cyA : ClassId}
variable {sm wd lg n : Nat} {a : Nat → Nat} {st : Int32} {wv : Nat → Int32} {r : Nat → Nat → Int32} {U : State}
theorem S0.mv : Mv (S0 D cyI cyA sm wd lg a n st wv r) := fun _ _ _ al h => ⟨h.1, h.2.1.moved al, h.2.2⟩
theorem S0.n16 (h : S0 D cyI cyA sm wd lg a n st wv r U H) : n ≤ 16 := h.2.2.2
theorem S0.lt (h : S0 D cyI cyA sm wd lg a n st wv r U H) {q : Nat} (hq : sown sm wd lg a n q) : q < H.size := by
  rcases hq with e | e | e | ⟨k, hk, e⟩ <;> subst e
  · exact h.1.1.lt
  · exact h.1.2.1.lt
  · exact h.1.2.2.1.lt
  · exact (h.1.2.2.2 k hk).lt
theorem S0.kept (h : S0 D cyI cyA sm wd lg a n st wv r U H) (hk : ∀ q : Nat, sown sm wd lg a n q → H1[q]? = H[q]?) : S0 D cyI cyA sm wd lg a n st wv r U H1 :=
  ⟨⟨h.1.1.k (hk _ (Or.inl rfl)), h.1.2.1.k (hk _ (Or.inr (Or.inl rfl))), h.1.2.2.1.k (hk _ (Or.inr (Or.inr (Or.inl rfl)))), fun k h9 => (h.1.2.2.2 k h9).k (hk _ (Or.inr (Or.inr (Or.inr ⟨k, h9, rfl⟩))))⟩, h.2⟩
theorem S0.cg (h : S0 D cyI cyA sm wd lg a n st wv r U H) {wv2 : Nat → Int32} {r2 : Nat → Nat → Int32} (hw : ∀ k, k < 10 → wv k = wv2 k) (hr : ∀ k, k < n → ∀ i, i < 6 → r k i = r2 k i) : S0 D cyI cyA sm wd lg a n st wv2 r2 U H :=
  ⟨⟨h.1.1, h.1.2.1.c hw, h.1.2.2.1, fun k h9 => (h.1.2.2.2 k h9).c (hr k h9)⟩, h.2⟩
/-- what held at the start holds behind new cells -/
theorem S0.up (h : S0 D cyI cyA sm wd lg a n st wv r s s.heap) (hS : va_S (fun q => s.heap.size ≤ q) s.heap H locs) : S0 D cyI cyA sm wd lg a n st wv r s H :=
  h.kept (fun q hq => hS.2.1 q (h.lt hq) (Nat.not_le.mpr (h.lt hq)))
theorem S0.upK (h : S0 D cyI cyA sm wd lg a n st wv r s H) (hk : ∀ q : Nat, q < H.size → H1[q]? = H[q]?) : S0 D cyI cyA sm wd lg a n st wv r s H1 :=
  h.kept (fun q hq => hk q (h.lt hq))
theorem S0.rc (h : S0 D cyI cyA sm wd lg a n st wv r s H) : Rc RX1 sm s H := va_recv (ci := 1) (q0 := 0) h.2.1.1 (sP1 h.1.1) rfl rfl
theorem S0.gL (hF : CallFix p m c cc nL s args wA own0) (h : S0 D cyI cyA sm wd lg a n st wv r s H) (hl : Cond.fieldLink own0 idx "MapSongsLaw$Sim" "legs" "[[I" ∈ wA) (hdg : decode cc pc = .ok (.getfield idx, 3))
    (kk : W p l e R s m args below meth c H locs cells slots Q (F0 m (pc + 3) ls (.ref lg :: rest))) : W p l e R s m args below meth c H locs cells slots Q (F0 m pc ls (.ref sm :: rest)) := getS hF h.2.1 h.1.1 0 (by decide) rfl rfl hl hdg kk
theorem S0.gW (hF : CallFix p m c cc nL s args wA own0) (h : S0 D cyI cyA sm wd lg a n st wv r s H) (hl : Cond.fieldLink own0 idx "MapSongsLaw$Sim" "word" "[I" ∈ wA) (hdg : decode cc pc = .ok (.getfield idx, 3))
    (kk : W p l e R s m args below meth c H locs cells slots Q (F0 m (pc + 3) ls (.ref wd :: rest))) : W p l e R s m args below meth c H locs cells slots Q (F0 m pc ls (.ref sm :: rest)) := getS hF h.2.1 h.1.1 1 (by decide) rfl rfl hl hdg kk
theorem S0.gS (hF : CallFix p m c cc nL s args wA own0) (h : S0 D cyI cyA sm wd lg a n st wv r s H) (hl : Cond.fieldLink own0 idx "MapSongsLaw$Sim" "step" "I" ∈ wA) (hdg : decode cc pc = .ok (.getfield idx, 3))
    (kk : W p l e R s m args below meth c H locs cells slots Q (F0 m (pc + 3) ls (.int st :: rest))) : W p l e R s m args below meth c H locs cells slots Q (F0 m pc ls (.ref sm :: rest)) := getS hF h.2.1 h.1.1 2 (by decide) rfl rfl hl hdg kk
theorem S0.len (hF : CallFix p m c cc nL s args wA own0) (h : S0 D cyI cyA sm wd lg a n st wv r s H) (hdg : decode cc pc = .ok (.arraylength, 1))
    (kk : W p l e R s m args below meth c H locs cells slots Q (F0 m (pc + 1) ls (.int (nI n) :: rest))) : W p l e R s m args below meth c H locs cells slots Q (F0 m pc ls (.ref lg :: rest)) := lenQ hF h.2.1 h.1.2.2.1 hdg kk
theorem S0.ldA (hF : CallFix p m c cc nL s args wA own0) (h : S0 D cyI cyA sm wd lg a n st wv r s H) (k : Nat) (hk : k < n) {x : Int32} (hx : x = nI k) (hdg : decode cc pc = .ok (.aaload, 1))
    (kk : W p l e R s m args below meth c H locs cells slots Q (F0 m (pc + 1) ls (.ref (a k) :: rest))) : W p l e R s m args below meth c H locs cells slots Q (F0 m pc ls (.int x :: .ref lg :: rest)) := ldQ hF h.2.1 h.1.2.2.1 k hk (Nat.lt_of_le_of_lt h.n16 (by decide)) hx rfl hdg kk
theorem S0.ldR (hF : CallFix p m c cc nL s args wA own0) (h : S0 D cyI cyA sm wd lg a n st wv r s H) (k : Nat) (hk : k < n) (i : Nat) (hi : i < 6) {x : Int32} (hx : x = nI i) (hdg : decode cc pc = .ok (.iaload, 1))
    (kk : W p l e R s m args below meth c H locs cells slots Q (F0 m (pc + 1) ls (.int (r k i) :: rest))) : W p l e R s m args below meth c H locs cells slots Q (F0 m pc ls (.int x :: .ref (a k) :: rest)) := ldI hF h.2.1 (h.1.2.2.2 k hk) i hi (by decide) hx hdg kk
theorem S0.ldW (hF : CallFix p m c cc nL s args wA own0) (h : S0 D cyI cyA sm wd lg a n st wv r s H) (i : Nat) (hi : i < 10) {x : Int32} (hx : x = nI i) (hdg : decode cc pc = .ok (.iaload, 1))
    (kk : W p l e R s m args below meth c H locs cells slots Q (F0 m (pc + 1) ls (.int (wv i) :: rest))) : W p l e R s m args below meth c H locs cells slots Q (F0 m pc ls (.int x :: .ref wd :: rest)) := ldI hF h.2.1 h.1.2.1 i hi (by decide) hx hdg kk
theorem S0.stR (hF : CallFix p m c cc nL s args wA own0) (h : S0 D cyI cyA sm wd lg a n st wv r s H) (hS : va_S A H0 H locs) (k : Nat) (hk : k < n) (hA : A (a k)) (i : Nat) (hi : i < 6) {x y : Int32} (hx : x = nI i) (hdg : decode cc pc = .ok (.iastore, 1))
    (kk : ∀ (H1 : Heap) (locs1 : List Loc), S0 D cyI cyA sm wd lg a n st wv (va_up r k (upd (r k) i y)) s H1 → H1.size = H.size → (∀ q : Nat, q ≠ a k → H1[q]? = H[q]?) → va_S A H0 H1 locs1 → W p l e R s m args below meth c H1 locs1 cells slots Q (F0 m (pc + 1) ls rest)) : W p l e R s m args below meth c H locs cells slots Q (F0 m pc ls (.int y :: .int x :: .ref (a k) :: rest)) := by
  refine stI hF h.2.1 (h.1.2.2.2 k hk) hS hA i hi (by decide) hx hdg (fun H1 locs1 hI z oq hS1 => kk H1 locs1 ?_ z oq hS1)
  obtain ⟨hn1, hn2, hn3⟩ := h.2.2.1.2.1 k hk
  refine ⟨⟨h.1.1.k (oq _ (Ne.symm hn1)), h.1.2.1.k (oq _ (Ne.symm hn2)), h.1.2.2.1.k (oq _ (Ne.symm hn3)), fun j hj => ?_⟩, h.2⟩
  by_cases hjk : j = k
  · subst hjk
    simp only [va_up, if_pos]
    exact hI
  · simp only [va_up, if_neg hjk]
    exact (h.1.2.2.2 j hj).k (oq _ (fun q => hjk (h.2.2.1.2.2 j hj k hk q)))
theorem S0.stW (hF : CallFix p m c cc nL s args wA own0) (h : S0 D cyI cyA sm wd lg a n st wv r s H) (hS : va_S A H0 H locs) (hA : A wd) (i : Nat) (hi : i < 10) {x y : Int32} (hx : x = nI i) (hdg : decode cc pc = .ok (.iastore, 1))
    (kk : ∀ (H1 : Heap) (locs1 : List Loc), S0 D cyI cyA sm wd lg a n st (upd wv i y) r s H1 → H1.size = H.size → (∀ q : Nat, q ≠ wd → H1[q]? = H[q]?) → va_S A H0 H1 locs1 → W p l e R s m args below meth c H1 locs1 cells slots Q (F0 m (pc + 1) ls rest)) : W p l e R s m args below meth c H locs cells slots Q (F0 m pc ls (.int y :: .int x :: .ref wd :: rest)) := by
  refine stI hF h.2.1 h.1.2.1 hS hA i hi (by decide) hx hdg (fun H1 locs1 hI z oq hS1 => kk H1 locs1 ?_ z oq hS1)
  exact ⟨⟨h.1.1.k (oq _ h.2.2.1.1.1), hI, h.1.2.2.1.k (oq _ (Ne.symm h.2.2.1.1.2.2)), fun j hj => (h.1.2.2.2 j hj).k (oq _ (h.2.2.1.2.1 j hj).2.1)⟩, h.2⟩
theorem S0.stS (hF : CallFix p m c cc nL s args wA own0) (h : S0 D cyI cyA sm wd lg a n st wv r s H) (hS : va_S A H0 H locs) (hA : A sm) {y : Int32} (hl : Cond.fieldLink own0 idx "MapSongsLaw$Sim" "step" "I" ∈ wA) (hdg : decode cc pc = .ok (.putfield idx, 3))
    (kk : ∀ (H1 : Heap) (locs1 : List Loc), S0 D cyI cyA sm wd lg a n y wv r s H1 → H1.size = H.size → (∀ q : Nat, q ≠ sm → H1[q]? = H[q]?) → va_S A H0 H1 locs1 → W p l e R s m args below meth c H1 locs1 cells slots Q (F0 m (pc + 3) ls rest)) : W p l e R s m args below meth c H locs cells slots Q (F0 m pc ls (.int y :: .ref sm :: rest)) := by
  refine putS hF h.2.1 h.1.1 hS hA 2 (by decide) rfl (ty := .int) (by decide +kernel) rfl rfl (by show _ < 3; decide) hl hdg (fun H1 locs1 hO z oq hS1 => kk H1 locs1 ?_ z oq hS1)
  exact ⟨⟨hO, h.1.2.1.k (oq _ (Ne.symm h.2.2.1.1.1)), h.1.2.2.1.k (oq _ (Ne.symm h.2.2.1.1.2.1)), fun j hj => (h.1.2.2.2 j hj).k (oq _ (h.2.2.1.2.1 j hj).1)⟩, h.2⟩
/-- another outer array -/
theorem S0.stL (hF : CallFix p m c cc nL s args wA own0) (h : S0 D cyI cyA sm wd lg a n st wv r s H) (hS : va_S A H0 H locs) (hA : A sm) {lg2 n2 : Nat} {a2 : Nat → Nat} {r2 : Nat → Nat → Int32} (hQ : QA cyA lg2 n2 (fun k => some (a2 k)) H) (hR : ∀ k : Nat, k < n2 → IA cyI (a2 k) 6 (r2 k) H) (hAp : Ap sm wd lg2 a2 n2) (hn2 : n2 ≤ 16) (hl : Cond.fieldLink own0 idx "MapSongsLaw$Sim" "legs" "[[I" ∈ wA) (hdg : decode cc pc = .ok (.putfield idx, 3))
    (kk : ∀ (H1 : Heap) (locs1 : List Loc), S0 D cyI cyA sm wd lg2 a2 n2 st wv r2 s H1 → H1.size = H.size → (∀ q : Nat, q ≠ sm → H1[q]? = H[q]?) → va_S A H0 H1 locs1 → W p l e R s m args below meth c H1 locs1 cells slots Q (F0 m (pc + 3) ls rest)) : W p l e R s m args below meth c H locs cells slots Q (F0 m pc ls (.ref lg2 :: .ref sm :: rest)) := by
  refine putS hF h.2.1 h.1.1 hS hA 0 (by decide) rfl (ty := .array (.array .int)) (by decide +kernel) rfl rfl (by show _ < 3; decide) hl hdg (fun H1 locs1 hO z oq hS1 => kk H1 locs1 ?_ z oq hS1)
  exact ⟨⟨hO, h.1.2.1.k (oq _ (Ne.symm hAp.1.1)), hQ.k (oq _ (Ne.symm hAp.1.2.1)), fun j hj => (hR j hj).k (oq _ (hAp.2.1 j hj).1)⟩, h.2.1, hAp, hn2⟩
end S0R
end
section
section R21
theorem sF {s t : State} {H : Heap} {locs : List Loc} (hS : va_S (fun q => s.heap.size ≤ q) s.heap H locs) (ht : t.heap = H) : va_F (fun _ => False) s t := ⟨by rw [ht]; exact hS.1, fun q h1 _ => by rw [ht]; exact hS.2.1 q h1 (Nat.not_le.mpr h1)⟩
theorem IA.upK {cyI : ClassId} {a n : Nat} {f : Nat → Int32} {H H1 : Heap} (h : IA cyI a n f H) (ho : ∀ q : Nat, q < H.size → H1[q]? = H[q]?) : IA cyI a n f H1 := h.k (ho _ h.lt)
theorem QA.upK {cyA : ClassId} {a n : Nat} {f : Nat → Option Nat} {H H1 : Heap} (h : QA cyA a n f H) (ho : ∀ q : Nat, q < H.size → H1[q]? = H[q]?) : QA cyA a n f H1 := h.k (ho _ h.lt)
theorem OB.upK {D : va_G} {a : Nat} {fs : List Value} {H H1 : Heap} (h : OB D a fs H) (ho : ∀ q : Nat, q < H.size → H1[q]? = H[q]?) : OB D a fs H1 := h.k (ho _ h.lt)
theorem C0.upK {D : va_G} {cyI cyZ : ClassId} {q : Nat → Nat} {n st : Int32} {v : Nat → Nat → Int32} {mk : Nat → Bool} {w : Nat → Nat → Int32} {s : State} {H H1 : Heap} (h : C0 D cyI cyZ q n st v mk w s H) (ho : ∀ q : Nat, q < H.size → H1[q]? = H[q]?) : C0 D cyI cyZ q n st v mk w s H1 := h.kept (fun b hb => ho b (h.lt hb))
theorem KS.mv {D : va_G} {cyI cyA : ClassId} : Mv (fun U _ => KS D cyI cyA U) := fun _ _ _ al h => h.moved al
theorem IA.mv {cyI : ClassId} {a n : Nat} {f : Nat → Int32} : Mv (fun _ H => IA cyI a n f H) := fun _ _ _ _ h => h
theorem QA.mv {cyA : ClassId} {a n : Nat} {f : Nat → Option Nat} : Mv (fun _ H => QA cyA a n f H) := fun _ _ _ _ h => h
theorem OB.mv {D : va_G} {a : Nat} {fs : List Value} : Mv (fun _ H => OB D a fs H) := fun _ _ _ _ h => h
theorem heapMv {P : Heap → Prop} : Mv (fun _ H => P H) := fun _ _ _ _ h => h
end R21
section R22
variable {p : Program} {l : Launch} {e : Env} {R : Room} {s : State} {m : MethodId} {args : Array Value} {below : List Frame} {meth : Method} {c : Code} {H : Heap} {locs : List Loc} {cells slots : Nat} {Q : State → Prop}
variable {cc : ByteArray} {nL pc idx k maxL : Nat} {ls : Array Slot} {own C : String} {y : MethodName} {bytes : ByteArray} {ret : Option FieldType} {rm : Room} {b : Addr} {As rest st0 : List Value} {X : State → Heap → Prop}
variable {σ : Type} {X1 : σ → Nat → State → Heap → Prop} {A0 A1 : Nat → Prop} {H0 : Heap} {mc ms : Nat} {free : Addr → Prop}
theorem wVr {post : σ → Prop} (hF : CallFix p m c cc nL s args wA own) (hM : Met l y (wm y bytes maxL ret) rm (va_Pc (.ref b :: As) (fun U => X U U.heap)) (va_Qr post (fun u a U => X1 u a U U.heap) A1) mc ms free) (hmv : Mv X) (hmv1 : ∀ u a, Mv (X1 u a)) (hX : X s H) (hrc : Rc C b s H) (hi : IM C y bytes maxL ret k) (hlk : Cond.methodLink own idx y ∈ wA)
    (h0 : rm.cells = mc ∧ rm.slots = ms) (hR : rm.frames + 1 ≤ R.frames ∧ 8 + (maxL + 11) + rm.locals ≤ R.locals) (hk : As.length = k) (hsz : ls.size = nL) (hst : st0 = As.reverse ++ .ref b :: rest) (hW : (rest.map fun v => v.category).sum ≤ 8) (hcs : cells + mc ≤ R.cells ∧ slots + ms ≤ R.slots) (hS : va_S A0 H0 H locs) (hA : ∀ q, q < H.size → A1 q → A0 q) (hf : ∀ q, free q → A0 q) (hdg : decode cc pc = .ok (.invokevirtual idx, 3))
    (kk : ∀ (u : σ) (ra : Nat) (H1 : Heap) (locs1 : List Loc), post u → X1 u ra s H1 → H.size ≤ H1.size → (∀ q : Nat, q < H.size → ¬ A1 q → H1[q]? = H[q]?) → va_S A0 H0 H1 locs1 → W p l e R s m args below meth c H1 locs1 (cells + mc) (slots + ms) Q (F0 m (pc + 3) ls (.ref ra :: rest))) : W p l e R s m args below meth c H locs cells slots Q (F0 m pc ls st0) :=
  va_callr (va_runV hF hM (cwV k hF.2.2.2.2 (gV hlk hi.1) rfl h0.1 h0.2 hi.2 hR) ⟨mvBlind hmv, hrc, fun U hU hW => mvPre hmv hX hU hW⟩ rfl hk hsz hst (lv_room hW) hdg hcs) hS hA hf (fun u ra t H1 locs1 ht hvm hp hB hz hk1 hS1 => kk u ra H1 locs1 hp (by subst ht; exact hmv1 u ra t s t.heap hvm.symm hB) hz hk1 hS1)
theorem wSr {post : σ → Prop} (hF : CallFix p m c cc nL s args wA own) (hM : Met l y (wm y bytes maxL ret) rm (va_Pc As (fun U => X U U.heap)) (va_Qr post (fun u a U => X1 u a U U.heap) A1) mc ms free) (hmv : Mv X) (hmv1 : ∀ u a, Mv (X1 u a)) (hX : X s H) (hi : SM y bytes maxL ret k) (hlk : Cond.methodLink own idx y ∈ wA)
    (h0 : rm.cells = mc ∧ rm.slots = ms) (hR : rm.frames + 1 ≤ R.frames ∧ 8 + (maxL + 11) + rm.locals ≤ R.locals) (hk : As.length = k) (hsz : ls.size = nL) (hst : st0 = As.reverse ++ rest) (hW : (rest.map fun v => v.category).sum ≤ 8) (hcs : cells + mc ≤ R.cells ∧ slots + ms ≤ R.slots) (hS : va_S A0 H0 H locs) (hA : ∀ q, q < H.size → A1 q → A0 q) (hf : ∀ q, free q → A0 q) (hdg : decode cc pc = .ok (.invokestatic idx, 3))
    (kk : ∀ (u : σ) (ra : Nat) (H1 : Heap) (locs1 : List Loc), post u → X1 u ra s H1 → H.size ≤ H1.size → (∀ q : Nat, q < H.size → ¬ A1 q → H1[q]? = H[q]?) → va_S A0 H0 H1 locs1 → W p l e R s m args below meth c H1 locs1 (cells + mc) (slots + ms) Q (F0 m (pc + 3) ls (.ref ra :: rest))) : W p l e R s m args below meth c H locs cells slots Q (F0 m pc ls st0) :=
  va_callr (va_runS hF hM (va_cwS k hF.2.2.2.2 (gS hlk hi.1) rfl h0.1 h0.2 hi.2 hR) ⟨mvBlind hmv, fun U hU hW => mvPre hmv hX hU hW⟩ rfl hk hsz hst (lv_room hW) hdg hcs) hS hA hf (fun u ra t H1 locs1 ht hvm hp hB hz hk1 hS1 => kk u ra H1 locs1 hp (by subst ht; exact hmv1 u ra t s t.heap hvm.symm hB) hz hk1 hS1)
end R22

/-! WHAT THE SONG BY HAND ANSWERS -/
theorem ifc {α : Type} {c d : Prop} [Decidable c] [Decidable d] (h : c ↔ d) (x y : α) : (if c then x else y) = (if d then x else y) := by
  by_cases hc : c
  · rw [if_pos hc, if_pos (h.mp hc)]
  · rw [if_neg hc, if_neg (fun q => hc (h.mpr q))]
def ahd (r : Nat → Nat → Int32) (k : Nat) : Int32 := if k = 0 then 12 else r (k - 1) 3
/-- a leg's row behind singing -/
def sgR (T : Nat → Int32) (st : Int32) (b : Bool) (r : Nat → Nat → Int32) (k i : Nat) : Int32 := if i = 3 then nt T st (k + 1) else if i = 4 then (if nt T st (k + 1) = nt T st k + T k * st then 0 else 1) else if i = 5 ∧ b = true then 0 else r k i
def SgI (T : Nat → Int32) (st : Int32) (b : Bool) (r : Nat → Nat → Int32) (j : Nat) (r2 : Nat → Nat → Int32) : Prop := (∀ k : Nat, k < j → ∀ i : Nat, i < 6 → r2 k i = sgR T st b r k i) ∧ ∀ k : Nat, ¬ k < j → r2 k = r k
section F21
variable {T : Nat → Int32} {st : Int32} {b : Bool} {r r2 : Nat → Nat → Int32} {j : Nat}
theorem sg_ahd (h : SgI T st b r j r2) : ahd r2 j = nt T st j := by
  unfold ahd
  cases j with
  | zero => rfl
  | succ i =>
    rw [if_neg (Nat.succ_ne_zero i), Nat.add_sub_cancel, h.1 i (Nat.lt_succ_self i) 3 (by decide)]
    rfl
theorem sg_t (h : SgI T st b r j r2) (hT : r j 0 = T j) : r2 j 0 = T j := by rw [h.2 j (Nat.lt_irrefl j), hT]
theorem sg_n (h : SgI T st b r j r2) (hT : r j 0 = T j) : nb (ahd r2 j) (r2 j 0 * st) = nt T st (j + 1) := by rw [sg_ahd h, sg_t h hT]; rfl
theorem ahd_up (f : Nat → Int32) : ahd (va_up r2 j f) j = ahd r2 j := by
  unfold ahd
  by_cases h : j = 0
  · rw [if_pos h, if_pos h]
  · rw [if_neg h, if_neg h]
    simp only [va_up]
    rw [if_neg (by omega)]
theorem vup_s (f : Nat → Int32) : (va_up r2 j f) j = f := by simp [va_up]
theorem sg_next {x y z : Int32} (h : SgI T st b r j r2) (hx : x = nt T st (j + 1)) (hy : y = if nt T st (j + 1) = nt T st j + T j * st then 0 else 1) (f : Nat → Nat → Int32) (hf : f = va_up (va_up r2 j (upd (r2 j) 3 x)) j (upd ((va_up r2 j (upd (r2 j) 3 x)) j) 4 y)) (g : Nat → Nat → Int32) (hg : (b = true ∧ z = 0 ∧ g = va_up f j (upd (f j) 5 z)) ∨ (b = false ∧ g = f)) : SgI T st b r (j + 1) g := by
  subst hf
  have key : ∀ k : Nat, k ≠ j → g k = r2 k := by
    intro k hk
    rcases hg with ⟨-, -, e⟩ | ⟨-, e⟩ <;> subst e <;> simp [va_up, hk]
  have h0 : r2 j = r j := h.2 j (Nat.lt_irrefl j)
  refine ⟨fun k hk i hi => ?_, fun k hk => ?_⟩
  · by_cases hkj : k = j
    · subst hkj
      rcases hg with ⟨hb, hz, e⟩ | ⟨hb, e⟩ <;> subst e <;> subst hb
      · subst hz
        match i, hi with
        | 0, _ => simp [va_up, upd, sgR, h0]
        | 1, _ => simp [va_up, upd, sgR, h0]
        | 2, _ => simp [va_up, upd, sgR, h0]
        | 3, _ => simp [va_up, upd, sgR, hx]
        | 4, _ => simp [va_up, upd, sgR, hy]
        | 5, _ => simp [va_up, upd, sgR]
      · match i, hi with
        | 0, _ => simp [va_up, upd, sgR, h0]
        | 1, _ => simp [va_up, upd, sgR, h0]
        | 2, _ => simp [va_up, upd, sgR, h0]
        | 3, _ => simp [va_up, upd, sgR, hx]
        | 4, _ => simp [va_up, upd, sgR, hy]
        | 5, _ => simp [va_up, upd, sgR, h0]
    · rw [key k hkj]
      exact h.1 k (by omega) i hi
  · rw [key k (by omega)]
    exact h.2 k (by omega)
end F21
/-- the rows of a song that all is right of -/
def rowV (v : Nat → Nat → Int32) (st : Int32) (mk : Nat → Bool) (k : Nat) : Nat → Int32
  | 0 => v 0 k
  | 1 => v 1 k
  | 2 => v 2 k
  | 3 => nt (v 0) st (k + 1)
  | 4 => b2i (fold1 v st k)
  | _ => b2i (mk k)
def rdM (v : Nat → Nat → Int32) (st : Int32) (k e j : Nat) : Int32 := tsa (nt (v 0) st (k + 1)) (nt (v 0) st k) st e * lc (v 3) (wd v k) 10 + (if nb (nt (v 0) st k) ((nI e - 3) * st) = nt (v 0) st (k + 1) then lc (v 3) (wd v k) j else 0)
def rdR (v : Nat → Nat → Int32) (st : Int32) (k e0 e j : Nat) : Int32 := if e0 < e ∨ (e = e0 ∧ ix (v 2 k) < j) then rrn v st k else -1
def rd2 (x y : Int32) : Nat → Int32 := fun i => if i = 0 then x else y
section F22
variable {v : Nat → Nat → Int32} {st : Int32} {mk : Nat → Bool} {k e e0 j N : Nat}
theorem rv_ahd : ahd (rowV v st mk) k = nt (v 0) st k := by
  unfold ahd
  cases k with
  | zero => rfl
  | succ i => rw [if_neg (Nat.succ_ne_zero i), Nat.add_sub_cancel]; rfl
theorem rdM_n (h : ¬ nb (nt (v 0) st k) ((nI e - 3) * st) = nt (v 0) st (k + 1)) : rdM v st k e (j + 1) = rdM v st k e j := by unfold rdM; rw [if_neg h, if_neg h]
theorem rdM_w (h : ¬ v 3 j = v 3 (ix (v 2 k))) : rdM v st k e (j + 1) = rdM v st k e j := by unfold rdM; rw [lc_f (x := wd v k) h]
theorem rdM_y (h1 : nb (nt (v 0) st k) ((nI e - 3) * st) = nt (v 0) st (k + 1)) (h2 : v 3 j = v 3 (ix (v 2 k))) : rdM v st k e (j + 1) = rdM v st k e j + 1 := by
  unfold rdM
  rw [if_pos h1, if_pos h1, lc_t (x := wd v k) h2, Int32.add_assoc]
theorem rdM_e : rdM v st k e 10 = rdM v st k (e + 1) 0 := by
  unfold rdM
  have h0 : ∀ c : Prop, [Decidable c] → (if c then lc (v 3) (wd v k) 0 else 0) = 0 := fun c _ => by split <;> rfl
  rw [h0, Int32.add_zero]
  by_cases h : nb (nt (v 0) st k) ((nI e - 3) * st) = nt (v 0) st (k + 1)
  · rw [if_pos h, tsa_t h, Int32.add_mul, Int32.one_mul]
  · rw [if_neg h, tsa_f h, Int32.add_zero]
theorem rdM_0 : rdM v st k 0 0 = 0 := by
  unfold rdM
  rw [show tsa (nt (v 0) st (k + 1)) (nt (v 0) st k) st 0 = 0 from rfl, Int32.zero_mul]
  split <;> rfl
theorem rdM_7 (hok : Ok N st v) : rdM v st k 7 0 = rdn v st k := by
  unfold rdM rdn
  rw [tsa7 hok hok.2.1 k]
  have h0 : ∀ c : Prop, [Decidable c] → (if c then lc (v 3) (wd v k) 0 else 0) = 0 := fun c _ => by split <;> rfl
  rw [h0, Int32.add_zero]
theorem rdR_m (h : ¬ (e = e0 ∧ j = ix (v 2 k))) : rdR v st k e0 e (j + 1) = rdR v st k e0 e j := by unfold rdR; exact ifc (by omega) _ _
theorem rdR_h (hok : Ok N st v) (he : e0 < 7) (hve : v 0 k = nI e0 - 3) (h1 : e = e0) (h2 : j = ix (v 2 k)) : rdR v st k e0 e (j + 1) = rdM v st k e j := by
  unfold rdR
  rw [if_pos (Or.inr ⟨h1, by omega⟩)]
  subst h1
  subst h2
  unfold rdM rrn
  rw [if_pos (show nb (nt (v 0) st k) ((nI e - 3) * st) = nt (v 0) st (k + 1) by rw [← hve]; rfl), tsaE hok he hve]
  congr 1
  split
  · rw [Int32.one_mul]
  · rw [Int32.zero_mul]
theorem rdR_e (h : ix (v 2 k) < 10) : rdR v st k e0 e 10 = rdR v st k e0 (e + 1) 0 := by unfold rdR; exact ifc (by omega) _ _
theorem rdR_0 : rdR v st k e0 0 0 = -1 := by unfold rdR; exact if_neg (by omega)
theorem rdR_7 (he : e0 < 7) : rdR v st k e0 7 0 = rrn v st k := by unfold rdR; exact if_pos (Or.inl he)
theorem rd_m1 (hve : v 0 k = nI e0 - 3) (h : ¬ nb (nt (v 0) st k) ((nI e - 3) * st) = nt (v 0) st (k + 1)) : ¬ (e = e0 ∧ j = ix (v 2 k)) := fun ⟨h1, _⟩ => h (by rw [h1, ← hve]; rfl)
theorem rd_m2 (h : ¬ v 3 j = v 3 (ix (v 2 k))) : ¬ (e = e0 ∧ j = ix (v 2 k)) := fun ⟨_, h2⟩ => h (by rw [h2])
theorem rd_m3 (hve : v 0 k = nI e0 - 3) (h : ¬ nI e - 3 = v 0 k) : ¬ (e = e0 ∧ j = ix (v 2 k)) := fun ⟨h1, _⟩ => h (by rw [h1, hve])
theorem rd_m4 (hok : Ok N st v) (h : ¬ nI j = v 2 k) : ¬ (e = e0 ∧ j = ix (v 2 k)) := fun ⟨_, h2⟩ => h (by rw [h2]; exact (okM hok k).symm)
theorem rd_e (he : e < 7) (he0 : e0 < 7) (hve : v 0 k = nI e0 - 3) (h : nI e - 3 = v 0 k) : e = e0 := by
  rw [hve] at h
  have h1 := congrArg Int32.toInt h
  rw [nI_3T (by omega), nI_3T (by omega)] at h1
  omega
theorem rd_j (hj : j < 10) (h : nI j = v 2 k) : j = ix (v 2 k) := by
  rw [← h]
  exact (nI_clamp (by omega)).symm
end F22
theorem rd2_c {cyI : ClassId} {x : Nat} {m r : Int32} {H : Heap} (h : IA cyI x 2 (upd (upd (fun _ => 0) 0 m) 1 r) H) : IA cyI x 2 (rd2 m r) H := h.c (fun k hk => by
  match k, hk with
  | 0, _ => simp [upd, rd2]
  | 1, _ => simp [upd, rd2])

section P21
variable {l : Launch} {D : va_G} {cyI cyZ cyA : ClassId} {q : Nat → Nat} {sm wd lg n N : Nat} {a : Nat → Nat} {st : Int32} {wv : Nat → Int32} {r : Nat → Nat → Int32} {v w : Nat → Nat → Int32} {mk : Nat → Bool}
set_option maxHeartbeats 4000000 in
set_option maxRecDepth 100000 in
theorem mX1_sung (a i : Int32) : Met l yX1_sung (wm yX1_sung cX1_sung 2 (some .int)) ({ frames := 0, cells := 0, slots := 0, locals := 0 } : Room) (va_Pc [.int a, .int i] (fun U => (fun _ _ => True : State → Heap → Prop) U U.heap)) (vp_Si (fun r => r = nb a i)) 0 0 (fun _ => False) := by
  refine mt (by decide) (Nat.le_of_ble_eq_true rfl) ?_
  intro p ev s m below meth c ls hF hr hlocks hnm hX hl
  have hF : CallFix p m c cX1_sung 2 s _ wA RX1 := hF
  obtain ⟨hx, hb, hml, hown, hts⟩ := id hF
  have hl : lv_has ls 2 [(0, .int a), (1, .int i)] := hl
  refine lv_iload_n hx hb dX1_sung_0 rfl (lv_at hl 0 rfl) ?_
  refine lv_iload_n hx hb dX1_sung_1 rfl (lv_at hl 1 rfl) ?_
  refine lv_iadd hx hb dX1_sung_2 ?_
  refine lv_if_lt (tgt := 14) hx hb dX1_sung_3 (by decide) (fun c3 => ?_) (fun c3 => ?_)
  · refine lv_iload_n hx hb dX1_sung_14 rfl (lv_at hl 0 rfl) ?_
    refine lv_iload_n hx hb dX1_sung_15 rfl (lv_at hl 1 rfl) ?_
    refine lv_isub hx hb dX1_sung_16 ?_
    refine lv_goto (tgt := 23) hx hb dX1_sung_17 (by decide) ?_
    exact W.iret hx hb hr (fun t ht hW => ⟨_, rfl, nb_t (by simp [lv9, c3]), ht⟩) (fun q hq => absurd hq List.not_mem_nil) dX1_sung_23
  · refine lv_iload_n hx hb dX1_sung_6 rfl (lv_at hl 0 rfl) ?_
    refine lv_iload_n hx hb dX1_sung_7 rfl (lv_at hl 1 rfl) ?_
    refine lv_iadd hx hb dX1_sung_8 ?_
    refine lv_bipush (v := 24) hx hb dX1_sung_9 (by decide) ?_
    refine lv_icmp_le (tgt := 20) hx hb dX1_sung_11 (by decide) (fun c11 => ?_) (fun c11 => ?_)
    · refine lv_iload_n hx hb dX1_sung_20 rfl (lv_at hl 0 rfl) ?_
      refine lv_iload_n hx hb dX1_sung_21 rfl (lv_at hl 1 rfl) ?_
      refine lv_iadd hx hb dX1_sung_22 ?_
      exact W.iret hx hb hr (fun t ht hW => ⟨_, rfl, nb_f (by simp [lv9, Int32.not_lt.mp c3, c11] <;> exact ⟨Int32.not_lt.mp c3, c11⟩), ht⟩) (fun q hq => absurd hq List.not_mem_nil) dX1_sung_23
    · refine lv_iload_n hx hb dX1_sung_14 rfl (lv_at hl 0 rfl) ?_
      refine lv_iload_n hx hb dX1_sung_15 rfl (lv_at hl 1 rfl) ?_
      refine lv_isub hx hb dX1_sung_16 ?_
      refine lv_goto (tgt := 23) hx hb dX1_sung_17 (by decide) ?_
      exact W.iret hx hb hr (fun t ht hW => ⟨_, rfl, nb_t (by simp [lv9, Int32.not_le.mp c11]), ht⟩) (fun q hq => absurd hq List.not_mem_nil) dX1_sung_23
set_option maxHeartbeats 4000000 in
set_option maxRecDepth 100000 in
theorem mX1_ahead (k : Nat) (hk : k < n) : Met l yX1_ahead (wm yX1_ahead cX1_ahead 2 (some .int)) ({ frames := 0, cells := 0, slots := 0, locals := 0 } : Room) (va_Pc [.ref sm, .int (nI k)] (fun U => S0 D cyI cyA sm wd lg a n st wv r U U.heap)) (vp_Si (fun r9 => r9 = ahd r k)) 0 0 (fun _ => False) := by
  refine mt (by decide) (Nat.le_of_ble_eq_true rfl) ?_
  intro p ev s m below meth c ls hF hr hlocks hnm hX hl
  have hF : CallFix p m c cX1_ahead 2 s _ wA RX1 := hF
  obtain ⟨hx, hb, hml, hown, hts⟩ := id hF
  have hX : S0 D cyI cyA sm wd lg a n st wv r s s.heap := hX
  have hl : lv_has ls 2 [(0, .ref sm), (1, .int (nI k))] := hl
  have hn16 := hX.n16
  refine lv_iload_n hx hb dX1_ahead_0 rfl (lv_at hl 1 rfl) ?_
  refine lv_if_ne (tgt := 9) hx hb dX1_ahead_1 (by decide) (fun c1 => ?_) (fun c1 => ?_)
  · have c1n : ¬ k = 0 := fun h9 => c1 ((nI_eq (a := k) (b := 0) (by omega) (by omega)).mpr h9)
    refine lv_aload_n hx hb dX1_ahead_9 rfl (lv_at hl 0 rfl) ?_
    refine S0.gL hF hX kf_RX1_9 dX1_ahead_10 ?_
    refine lv_iload_n hx hb dX1_ahead_13 rfl (lv_at hl 1 rfl) ?_
    refine lv_iconst (v := 1) hx hb dX1_ahead_14 (by decide) ?_
    refine lv_isub hx hb dX1_ahead_15 ?_
    refine S0.ldA hF hX (k - 1) (by omega) (nI_dec (by omega)) dX1_ahead_16 ?_
    refine lv_iconst (v := 3) hx hb dX1_ahead_17 (by decide) ?_
    refine S0.ldR hF hX (k - 1) (by omega) 3 (by decide) rfl dX1_ahead_18 ?_
    exact W.iret hx hb hr (fun t ht hW => ⟨_, rfl, (by unfold ahd; rw [if_neg c1n]), ht⟩) (fun q hq => absurd hq List.not_mem_nil) dX1_ahead_19
  · have c1n : k = 0 := (nI_eq (a := k) (b := 0) (by omega) (by omega)).mp c1
    obtain rfl : k = 0 := by omega
    refine lv_bipush (v := 12) hx hb dX1_ahead_4 (by decide) ?_
    refine lv_goto (tgt := 19) hx hb dX1_ahead_6 (by decide) ?_
    exact W.iret hx hb hr (fun t ht hW => ⟨_, rfl, rfl, ht⟩) (fun q hq => absurd hq List.not_mem_nil) dX1_ahead_19
set_option maxHeartbeats 4000000 in
set_option maxRecDepth 100000 in
theorem mX1_sing (T : Nat → Int32) (hT : ∀ k, k < n → r k 0 = T k) (b : Bool) : Met l yX1_sing (wm yX1_sing cX1_sing 4 none) ({ frames := 1, cells := 0, slots := 0, locals := 21 } : Room) (va_Pc [.ref sm, .int (b2i b)] (fun U => S0 D cyI cyA sm wd lg a n st wv r U U.heap)) (va_Qv (fun (_ : Unit) => True) (fun u U => (fun (_ : Unit) => (S0 D cyI cyA sm wd lg a n st wv (sgR T st b r) : State → Heap → Prop)) u U U.heap) (rowA a n)) 0 0 (rowA a n) := by
  refine mt (by decide) (Nat.le_of_ble_eq_true rfl) ?_
  intro p ev s m below meth c ls hF hr hlocks hnm hX hl
  have hF : CallFix p m c cX1_sing 4 s _ wA RX1 := hF
  obtain ⟨hx, hb, hml, hown, hts⟩ := id hF
  have hX : S0 D cyI cyA sm wd lg a n st wv r s s.heap := hX
  have hl : lv_has ls 4 [(0, .ref sm), (1, .int (b2i b))] := hl
  have hS : va_S (rowA a n) s.heap s.heap [] := va_S.rf
  have hn16 := hX.n16
  refine lv_iconst (v := 0) hx hb dX1_sing_0 (by decide) ?_
  refine lv_istore_n (lv' := [(2, .int 0), (0, .ref sm), (1, .int (b2i b))]) hx hb dX1_sing_1 rfl hl (by decide) rfl (fun ls hl => ?_)
  refine W.widen (k := 0) (n := 0) (by omega) (by omega) ?_
  refine lpC (σ := Nat) (τ := Nat → Nat → Int32) (fun j r8 ls H locs => (j ≤ n ∧ SgI T st b r j r8) ∧ (S0 D cyI cyA sm wd lg a n st wv r8 s H) ∧ va_S (rowA a n) s.heap H locs ∧ lv_has ls 4 [(0, .ref sm), (1, .int (b2i b)), (2, .int (nI j))]) (fun j r8 => n - j) (fun j => 0) (fun j => 0) (fun j r8 ls H locs hI ih => ?_) (0) r ⟨⟨Nat.zero_le _, fun k h => absurd h (Nat.not_lt_zero _), fun k _ => rfl⟩, hX, hS, lv_sub hl [1, 2, 0] rfl⟩
  obtain ⟨hj, hX, hS, hl⟩ := hI
  refine lv_iload_n hx hb dX1_sing_2 rfl (lv_at hl 2 rfl) ?_
  refine lv_aload_n hx hb dX1_sing_3 rfl (lv_at hl 0 rfl) ?_
  refine S0.gL hF hX kf_RX1_9 dX1_sing_4 ?_
  refine S0.len hF hX dX1_sing_7 ?_
  refine lv_icmp_ge (tgt := 79) hx hb dX1_sing_8 (by decide) (fun c8 => ?_) (fun c8 => ?_)
  · have c8n : n ≤ j := (nI_leI (a := n) (b := j) (by omega) (by omega)).mp c8
    obtain rfl : j = n := by omega
    exact W.vret hx hb hr (fun t ht hW => ⟨⟨(), rfl, trivial, wEnd S0.mv (hX.cg (fun _ _ => rfl) (fun k hk => hj.2.1 k hk)) ht hW⟩, hS.F ht⟩) hS.2.2 dX1_sing_79
  · have c8n : ¬ n ≤ j := fun h9 => c8 ((nI_leI (a := n) (b := j) (by omega) (by omega)).mpr h9)
    refine lv_aload_n hx hb dX1_sing_11 rfl (lv_at hl 0 rfl) ?_
    refine S0.gL hF hX kf_RX1_9 dX1_sing_12 ?_
    refine lv_iload_n hx hb dX1_sing_15 rfl (lv_at hl 2 rfl) ?_
    refine S0.ldA hF hX j (by omega) rfl dX1_sing_16 ?_
    refine lv_astore_n (lv' := [(3, .ref (a j)), (0, .ref sm), (1, .int (b2i b)), (2, .int (nI j))]) hx hb dX1_sing_17 rfl hl (by decide) rfl (fun ls hl => ?_)
    refine lv_aload_n hx hb dX1_sing_18 rfl (lv_at hl 0 rfl) ?_
    refine lv_iconst (v := 3) hx hb dX1_sing_19 (by decide) ?_
    refine lv_aload_n hx hb dX1_sing_20 rfl (lv_at hl 1 rfl) ?_
    refine lv_iload_n hx hb dX1_sing_21 rfl (lv_at hl 3 rfl) ?_
    refine cVi (As := [.int (nI j)]) (rest := [.int 3, .ref (a j)]) hF (mX1_ahead j (by omega)) S0.mv hX hX.rc jyX1_ahead kl_RX1_27 ⟨rfl, rfl⟩ ⟨Nat.le_of_ble_eq_true rfl, Nat.le_of_ble_eq_true rfl⟩ rfl hl.1 rfl (Nat.le_of_ble_eq_true rfl) ⟨(by show _ ≤ 0; omega), (by show _ ≤ 0; omega)⟩ dX1_sing_22 (fun r9 hr9 => ?_)
    subst hr9
    refine lv_aload_n hx hb dX1_sing_25 rfl (lv_at hl 0 rfl) ?_
    refine lv_iconst (v := 0) hx hb dX1_sing_26 (by decide) ?_
    refine S0.ldR hF hX j (by omega) 0 (by decide) rfl dX1_sing_27 ?_
    refine lv_aload_n hx hb dX1_sing_28 rfl (lv_at hl 1 rfl) ?_
    refine S0.gS hF hX kf_RX1_18 dX1_sing_29 ?_
    refine lv_imul hx hb dX1_sing_32 ?_
    refine cSi (As := [.int (ahd r8 j), .int ((r8 j 0) * st)]) (rest := [.int 3, .ref (a j)]) hF (mX1_sung (ahd r8 j) ((r8 j 0) * st)) Mv.const trivial jyX1_sung kl_RX1_31 ⟨rfl, rfl⟩ ⟨Nat.le_of_ble_eq_true rfl, Nat.le_of_ble_eq_true rfl⟩ rfl hl.1 rfl (Nat.le_of_ble_eq_true rfl) ⟨Nat.zero_le _, Nat.zero_le _⟩ dX1_sing_33 (fun r hr9 => ?_)
    subst hr9
    refine topI (show (nb (ahd r8 j) ((r8 j 0) * st)) = nt T st (j + 1) from sg_n hj.2 (hT j (by omega))) ?_
    refine S0.stR hF hX hS j (by omega) ⟨j, by omega, rfl⟩ 3 (by decide) rfl dX1_sing_36 (fun H locs hX hz oq hS => ?_)
    refine lv_aload_n hx hb dX1_sing_37 rfl (lv_at hl 0 rfl) ?_
    refine lv_iconst (v := 4) hx hb dX1_sing_38 (by decide) ?_
    refine lv_aload_n hx hb dX1_sing_39 rfl (lv_at hl 0 rfl) ?_
    refine lv_iconst (v := 3) hx hb dX1_sing_40 (by decide) ?_
    refine S0.ldR hF hX j (by omega) 3 (by decide) rfl dX1_sing_41 ?_
    refine topI (show ((va_up r8 j (upd (r8 j) 3 (nt T st (j + 1)))) j 3) = nt T st (j + 1) from by rw [vup_s]; simp [upd]) ?_
    refine lv_aload_n hx hb dX1_sing_42 rfl (lv_at hl 1 rfl) ?_
    refine lv_iload_n hx hb dX1_sing_43 rfl (lv_at hl 3 rfl) ?_
    refine cVi (As := [.int (nI j)]) (rest := [.int (nt T st (j + 1)), .int 4, .ref (a j)]) hF (mX1_ahead j (by omega)) S0.mv hX hX.rc jyX1_ahead kl_RX1_27 ⟨rfl, rfl⟩ ⟨Nat.le_of_ble_eq_true rfl, Nat.le_of_ble_eq_true rfl⟩ rfl hl.1 rfl (Nat.le_of_ble_eq_true rfl) ⟨(by show _ ≤ 0; omega), (by show _ ≤ 0; omega)⟩ dX1_sing_44 (fun r9 hr9 => ?_)
    subst hr9
    refine topI (show (ahd (va_up r8 j (upd (r8 j) 3 (nt T st (j + 1)))) j) = nt T st j from by rw [ahd_up]; exact sg_ahd hj.2) ?_
    refine lv_aload_n hx hb dX1_sing_47 rfl (lv_at hl 0 rfl) ?_
    refine lv_iconst (v := 0) hx hb dX1_sing_48 (by decide) ?_
    refine S0.ldR hF hX j (by omega) 0 (by decide) rfl dX1_sing_49 ?_
    refine topI (show ((va_up r8 j (upd (r8 j) 3 (nt T st (j + 1)))) j 0) = T j from by rw [vup_s]; simp only [upd]; rw [if_neg (by decide)]; exact sg_t hj.2 (hT j (by omega))) ?_
    refine lv_aload_n hx hb dX1_sing_50 rfl (lv_at hl 1 rfl) ?_
    refine S0.gS hF hX kf_RX1_18 dX1_sing_51 ?_
    refine lv_imul hx hb dX1_sing_54 ?_
    refine lv_iadd hx hb dX1_sing_55 ?_
    refine lv_icmp_ne (tgt := 63) hx hb dX1_sing_56 (by decide) (fun c56 => ?_) (fun c56 => ?_)
    · refine lv_iconst (v := 1) hx hb dX1_sing_63 (by decide) ?_
      refine S0.stR hF hX hS j (by omega) ⟨j, by omega, rfl⟩ 4 (by decide) rfl dX1_sing_64 (fun H locs hX hz oq hS => ?_)
      refine lv_iload_n hx hb dX1_sing_65 rfl (lv_at hl 2 rfl) ?_
      refine lv_if_eq (tgt := 73) hx hb dX1_sing_66 (by decide) (fun c66 => ?_) (fun c66 => ?_)
      · have c66b := b2i_f c66
        refine lv_iinc (v := (nI (j + 1))) (lv' := [(2, .int (nI (j + 1))), (3, .ref (a j)), (0, .ref sm), (1, .int (b2i b))]) hx hb dX1_sing_73 hl (k := 3) rfl (nI_1 _) (by decide) rfl (fun ls hl => ?_)
        refine lv_goto (tgt := 2) hx hb dX1_sing_76 (by decide) ?_
        refine W.widen (k := 0) (n := 0) (by omega) (by omega) ?_
        exact ih (j + 1) (va_up (va_up r8 j (upd (r8 j) 3 (nt T st (j + 1)))) j (upd ((va_up r8 j (upd (r8 j) 3 (nt T st (j + 1)))) j) 4 1)) ls H locs (by omega) ⟨⟨by omega, sg_next (z := 0) hj.2 rfl (y := 1) (if_neg c56).symm _ rfl _ (Or.inr ⟨c66b, rfl⟩)⟩, hX, hS, by exact lv_sub hl [2, 3, 0] rfl⟩
      · have c66b := b2i_t c66
        refine lv_aload_n hx hb dX1_sing_69 rfl (lv_at hl 0 rfl) ?_
        refine lv_iconst (v := 5) hx hb dX1_sing_70 (by decide) ?_
        refine lv_iconst (v := 0) hx hb dX1_sing_71 (by decide) ?_
        refine S0.stR hF hX hS j (by omega) ⟨j, by omega, rfl⟩ 5 (by decide) rfl dX1_sing_72 (fun H locs hX hz oq hS => ?_)
        refine lv_iinc (v := (nI (j + 1))) (lv' := [(2, .int (nI (j + 1))), (3, .ref (a j)), (0, .ref sm), (1, .int (b2i b))]) hx hb dX1_sing_73 hl (k := 3) rfl (nI_1 _) (by decide) rfl (fun ls hl => ?_)
        refine lv_goto (tgt := 2) hx hb dX1_sing_76 (by decide) ?_
        refine W.widen (k := 0) (n := 0) (by omega) (by omega) ?_
        exact ih (j + 1) (va_up (va_up (va_up r8 j (upd (r8 j) 3 (nt T st (j + 1)))) j (upd ((va_up r8 j (upd (r8 j) 3 (nt T st (j + 1)))) j) 4 1)) j (upd ((va_up (va_up r8 j (upd (r8 j) 3 (nt T st (j + 1)))) j (upd ((va_up r8 j (upd (r8 j) 3 (nt T st (j + 1)))) j) 4 1)) j) 5 0)) ls H locs (by omega) ⟨⟨by omega, sg_next (z := 0) hj.2 rfl (y := 1) (if_neg c56).symm _ rfl _ (Or.inl ⟨c66b, rfl, rfl⟩)⟩, hX, hS, by exact lv_sub hl [2, 3, 0] rfl⟩
    · refine lv_iconst (v := 0) hx hb dX1_sing_59 (by decide) ?_
      refine lv_goto (tgt := 64) hx hb dX1_sing_60 (by decide) ?_
      refine S0.stR hF hX hS j (by omega) ⟨j, by omega, rfl⟩ 4 (by decide) rfl dX1_sing_64 (fun H locs hX hz oq hS => ?_)
      refine lv_iload_n hx hb dX1_sing_65 rfl (lv_at hl 2 rfl) ?_
      refine lv_if_eq (tgt := 73) hx hb dX1_sing_66 (by decide) (fun c66 => ?_) (fun c66 => ?_)
      · have c66b := b2i_f c66
        refine lv_iinc (v := (nI (j + 1))) (lv' := [(2, .int (nI (j + 1))), (3, .ref (a j)), (0, .ref sm), (1, .int (b2i b))]) hx hb dX1_sing_73 hl (k := 3) rfl (nI_1 _) (by decide) rfl (fun ls hl => ?_)
        refine lv_goto (tgt := 2) hx hb dX1_sing_76 (by decide) ?_
        refine W.widen (k := 0) (n := 0) (by omega) (by omega) ?_
        exact ih (j + 1) (va_up (va_up r8 j (upd (r8 j) 3 (nt T st (j + 1)))) j (upd ((va_up r8 j (upd (r8 j) 3 (nt T st (j + 1)))) j) 4 0)) ls H locs (by omega) ⟨⟨by omega, sg_next (z := 0) hj.2 rfl (y := 0) (if_pos c56).symm _ rfl _ (Or.inr ⟨c66b, rfl⟩)⟩, hX, hS, by exact lv_sub hl [2, 3, 0] rfl⟩
      · have c66b := b2i_t c66
        refine lv_aload_n hx hb dX1_sing_69 rfl (lv_at hl 0 rfl) ?_
        refine lv_iconst (v := 5) hx hb dX1_sing_70 (by decide) ?_
        refine lv_iconst (v := 0) hx hb dX1_sing_71 (by decide) ?_
        refine S0.stR hF hX hS j (by omega) ⟨j, by omega, rfl⟩ 5 (by decide) rfl dX1_sing_72 (fun H locs hX hz oq hS => ?_)
        refine lv_iinc (v := (nI (j + 1))) (lv' := [(2, .int (nI (j + 1))), (3, .ref (a j)), (0, .ref sm), (1, .int (b2i b))]) hx hb dX1_sing_73 hl (k := 3) rfl (nI_1 _) (by decide) rfl (fun ls hl => ?_)
        refine lv_goto (tgt := 2) hx hb dX1_sing_76 (by decide) ?_
        refine W.widen (k := 0) (n := 0) (by omega) (by omega) ?_
        exact ih (j + 1) (va_up (va_up (va_up r8 j (upd (r8 j) 3 (nt T st (j + 1)))) j (upd ((va_up r8 j (upd (r8 j) 3 (nt T st (j + 1)))) j) 4 0)) j (upd ((va_up (va_up r8 j (upd (r8 j) 3 (nt T st (j + 1)))) j (upd ((va_up r8 j (upd (r8 j) 3 (nt T st (j + 1)))) j) 4 0)) j) 5 0)) ls H locs (by omega) ⟨⟨by omega, sg_next (z := 0) hj.2 rfl (y := 0) (if_pos c56).symm _ rfl _ (Or.inl ⟨c66b, rfl, rfl⟩)⟩, hX, hS, by exact lv_sub hl [2, 3, 0] rfl⟩
end P21
end
section
section P22
variable {l : Launch} {D : va_G} {cyI cyZ cyA : ClassId} {q : Nat → Nat} {sm wd lg n N : Nat} {a : Nat → Nat} {st : Int32} {wv : Nat → Int32} {r : Nat → Nat → Int32} {v w : Nat → Nat → Int32} {mk : Nat → Bool}
set_option maxHeartbeats 4000000 in
set_option maxRecDepth 100000 in
theorem mX1_readings (hok : Ok N st v) (k : Nat) (hk : k < N) : Met l yX1_readings (wm yX1_readings cX1_readings 6 (some (.array .int))) ({ frames := 1, cells := 1, slots := 2, locals := 21 } : Room) (va_Pc [.ref sm, .int (nI k)] (fun U => S0 D cyI cyA sm wd lg a N st (v 3) (rowV v st mk) U U.heap)) (va_Qr (fun (_ : Unit) => True) (fun u z U => (fun (_ : Unit) (z : Nat) => (fun _ H => IA cyI z 2 (rd2 (rdn v st k) (rrn v st k)) H : State → Heap → Prop)) u z U U.heap) (fun _ => False)) 1 2 (fun _ => False) := by
  refine mt (by decide) (Nat.le_of_ble_eq_true rfl) ?_
  intro p ev s m below meth c ls hF hr hlocks hnm hX hl
  have hF : CallFix p m c cX1_readings 6 s _ wA RX1 := hF
  obtain ⟨hx, hb, hml, hown, hts⟩ := id hF
  have hX : S0 D cyI cyA sm wd lg a N st (v 3) (rowV v st mk) s s.heap := hX
  have hl : lv_has ls 6 [(0, .ref sm), (1, .int (nI k))] := hl
  have hS : va_S (fun q => s.heap.size ≤ q) s.heap s.heap [] := va_S.rf
  have hn16 := hX.n16
  obtain ⟨e0, he, hve⟩ := hok.2.2.1 k
  refine lv_iconst (v := 0) hx hb dX1_readings_0 (by decide) ?_
  refine topI (show 0 = rdM v st k 0 0 from rdM_0.symm) ?_
  refine lv_istore_n (lv' := [(2, .int (rdM v st k 0 0)), (0, .ref sm), (1, .int (nI k))]) hx hb dX1_readings_1 rfl hl (by decide) rfl (fun ls hl => ?_)
  refine lv_iconst (v := (-1)) hx hb dX1_readings_2 (by decide) ?_
  refine topI (show (-1) = rdR v st k e0 0 0 from rdR_0.symm) ?_
  refine lv_istore_n (lv' := [(3, .int (rdR v st k e0 0 0)), (2, .int (rdM v st k 0 0)), (0, .ref sm), (1, .int (nI k))]) hx hb dX1_readings_3 rfl hl (by decide) rfl (fun ls hl => ?_)
  refine lv_bipush (v := (nI 0 - 3)) hx hb dX1_readings_4 (by decide) ?_
  refine lv_istore (lv' := [(4, .int (nI 0 - 3)), (3, .int (rdR v st k e0 0 0)), (2, .int (rdM v st k 0 0)), (0, .ref sm), (1, .int (nI k))]) hx hb dX1_readings_6 hl (by decide) rfl (fun ls hl => ?_)
  refine lpW (σ := Nat) (fun e ls => (e ≤ 7) ∧ lv_has ls 6 [(0, .ref sm), (1, .int (nI k)), (2, .int (rdM v st k e 0)), (3, .int (rdR v st k e0 e 0)), (4, .int (nI e - 3))]) (fun e => 7 - e) (fun e ls hI ih1 => ?_) (0) ⟨Nat.zero_le _, lv_sub hl [3, 4, 2, 1, 0] rfl⟩
  obtain ⟨he9, hl⟩ := hI
  refine lv_iload hx hb dX1_readings_8 (lv_at hl 4 rfl) ?_
  refine lv_iconst (v := (nI 7 - 3)) hx hb dX1_readings_10 (by decide) ?_
  refine lv_icmp_ge (tgt := 119) hx hb dX1_readings_11 (by decide) (fun c11 => ?_) (fun c11 => ?_)
  · have h9 : 7 ≤ e := (nI_3le (by omega) (by omega)).mp c11
    have hx9 : e = 7 := by omega
    rw [hx9] at hl
    refine lv_iconst (v := 2) hx hb dX1_readings_119 (by decide) ?_
    refine newIr hF hX.2.1 hS 2 (by decide) rfl (by show _ ≤ 1; omega) (by show _ ≤ 2; omega) dX1_readings_120 (fun x1 H hq h_x1 hz ho hS1 => ?_)
    have nX_x1 : ∀ q : Nat, sown sm wd lg a N q → q ≠ x1 := fun q h9 => by rw [hq]; exact Nat.ne_of_lt (hX.lt h9)
    have hA_x1 : s.heap.size ≤ x1 := by rw [hq]; exact hS.1
    have hS := hS1
    have hX := hX.upK ho
    refine lv_dup hx hb dX1_readings_122 rfl ?_
    refine lv_iconst (v := 0) hx hb dX1_readings_123 (by decide) ?_
    refine lv_iload_n hx hb dX1_readings_124 rfl (lv_at hl 2 rfl) ?_
    refine stI hF hX.2.1 h_x1 hS hA_x1 0 (by decide) (by decide) rfl dX1_readings_125 (fun H locs h_x1 hz oq hS => ?_)
    have hX := hX.kept (fun q h9 => oq q (nX_x1 q h9))
    refine lv_dup hx hb dX1_readings_126 rfl ?_
    refine lv_iconst (v := 1) hx hb dX1_readings_127 (by decide) ?_
    refine lv_iload_n hx hb dX1_readings_128 rfl (lv_at hl 3 rfl) ?_
    refine stI hF hX.2.1 h_x1 hS hA_x1 1 (by decide) (by decide) rfl dX1_readings_129 (fun H locs h_x1 hz oq hS => ?_)
    have hX := hX.kept (fun q h9 => oq q (nX_x1 q h9))
    refine W.widen (k := 1) (n := 2) (by omega) (by omega) ?_
    refine va_forget (fun q hq => hS.2.2 q hq) ?_
    exact W.aret hx hb hr (Or.inr ⟨_, rfl⟩) (Or.inr ⟨_, rfl⟩) (fun t ht hW => ⟨⟨(), _, rfl, trivial, by show IA cyI _ 2 (rd2 _ _) t.heap; rw [ht, ← rdM_7 hok, ← rdR_7 he]; exact rd2_c h_x1⟩, sF hS ht⟩) (fun q hq => absurd hq List.not_mem_nil) dX1_readings_130
  · have h9 : ¬ 7 ≤ e := fun h => c11 ((nI_3le (by omega) (by omega)).mpr h)
    refine lv_iconst (v := 0) hx hb dX1_readings_14 (by decide) ?_
    refine lv_istore (lv' := [(5, .int 0), (0, .ref sm), (1, .int (nI k)), (2, .int (rdM v st k e 0)), (3, .int (rdR v st k e0 e 0)), (4, .int (nI e - 3))]) hx hb dX1_readings_15 hl (by decide) rfl (fun ls hl => ?_)
    refine lpW (σ := Nat) (fun j ls => (j ≤ 10 ∧ e < 7) ∧ lv_has ls 6 [(0, .ref sm), (1, .int (nI k)), (2, .int (rdM v st k e j)), (3, .int (rdR v st k e0 e j)), (4, .int (nI e - 3)), (5, .int (nI j))]) (fun j => 10 - j) (fun j ls hI ih2 => ?_) (0) ⟨⟨Nat.zero_le _, by omega⟩, lv_sub hl [1, 2, 3, 4, 5, 0] rfl⟩
    obtain ⟨he1, hl⟩ := hI
    refine lv_iload hx hb dX1_readings_17 (lv_at hl 5 rfl) ?_
    refine lv_bipush (v := (nI 10)) hx hb dX1_readings_19 (by decide) ?_
    refine lv_icmp_ge (tgt := 113) hx hb dX1_readings_21 (by decide) (fun c21 => ?_) (fun c21 => ?_)
    · have c21n : 10 ≤ j := (nI_leI (a := 10) (b := j) (by omega) (by omega)).mp c21
      have hx9 : j = 10 := by omega
      rw [hx9] at hl
      refine lv_iinc (v := (nI (e + 1) - 3)) (lv' := [(4, .int (nI (e + 1) - 3)), (0, .ref sm), (1, .int (nI k)), (2, .int (rdM v st k e 10)), (3, .int (rdR v st k e0 e 10)), (5, .int (nI 10))]) hx hb dX1_readings_113 hl (k := 4) rfl (nI_3 _) (by decide) rfl (fun ls hl => ?_)
      refine lv_goto (tgt := 8) hx hb dX1_readings_116 (by decide) ?_
      exact ih1 (e + 1) ls (by omega) ⟨by omega, by rw [← rdM_e, ← rdR_e (okM10 hok k)]; exact lv_sub hl [1, 2, 3, 4, 0] rfl⟩
    · have c21n : ¬ 10 ≤ j := fun h9 => c21 ((nI_leI (a := 10) (b := j) (by omega) (by omega)).mpr h9)
      refine lv_aload_n hx hb dX1_readings_24 rfl (lv_at hl 0 rfl) ?_
      refine lv_iload_n hx hb dX1_readings_25 rfl (lv_at hl 1 rfl) ?_
      refine cVi (As := [.int (nI k)]) (rest := []) hF (mX1_ahead k (by omega)) S0.mv hX hX.rc jyX1_ahead kl_RX1_27 ⟨rfl, rfl⟩ ⟨Nat.le_of_ble_eq_true rfl, Nat.le_of_ble_eq_true rfl⟩ rfl hl.1 rfl (Nat.le_of_ble_eq_true rfl) ⟨(by show _ ≤ 1; omega), (by show _ ≤ 2; omega)⟩ dX1_readings_26 (fun r9 hr9 => ?_)
      rw [hr9, rv_ahd]
      refine lv_iload hx hb dX1_readings_29 (lv_at hl 4 rfl) ?_
      refine lv_aload_n hx hb dX1_readings_31 rfl (lv_at hl 0 rfl) ?_
      refine S0.gS hF hX kf_RX1_18 dX1_readings_32 ?_
      refine lv_imul hx hb dX1_readings_35 ?_
      refine cSi (As := [.int (nt (v 0) st k), .int ((nI e - 3) * st)]) (rest := []) hF (mX1_sung (nt (v 0) st k) ((nI e - 3) * st)) Mv.const trivial jyX1_sung kl_RX1_31 ⟨rfl, rfl⟩ ⟨Nat.le_of_ble_eq_true rfl, Nat.le_of_ble_eq_true rfl⟩ rfl hl.1 rfl (Nat.le_of_ble_eq_true rfl) ⟨Nat.zero_le _, Nat.zero_le _⟩ dX1_readings_36 (fun r hr9 => ?_)
      subst hr9
      refine lv_aload_n hx hb dX1_readings_39 rfl (lv_at hl 0 rfl) ?_
      refine S0.gL hF hX kf_RX1_9 dX1_readings_40 ?_
      refine lv_iload_n hx hb dX1_readings_43 rfl (lv_at hl 1 rfl) ?_
      refine S0.ldA hF hX k hk rfl dX1_readings_44 ?_
      refine lv_iconst (v := 3) hx hb dX1_readings_45 (by decide) ?_
      refine S0.ldR hF hX k hk 3 (by decide) rfl dX1_readings_46 ?_
      refine topI (show (rowV v st mk) k 3 = nt (v 0) st (k + 1) from rfl) ?_
      refine lv_icmp_ne (tgt := 107) hx hb dX1_readings_47 (by decide) (fun c47 => ?_) (fun c47 => ?_)
      · refine lv_iinc (v := (nI (j + 1))) (lv' := [(5, .int (nI (j + 1))), (0, .ref sm), (1, .int (nI k)), (2, .int (rdM v st k e j)), (3, .int (rdR v st k e0 e j)), (4, .int (nI e - 3))]) hx hb dX1_readings_107 hl (k := 5) rfl (nI_1 _) (by decide) rfl (fun ls hl => ?_)
        refine lv_goto (tgt := 17) hx hb dX1_readings_110 (by decide) ?_
        exact ih2 (j + 1) ls (by omega) ⟨⟨by omega, he1.2⟩, by rw [rdM_n c47, rdR_m (rd_m1 hve c47)]; exact lv_sub hl [1, 2, 3, 4, 5, 0] rfl⟩
      · refine lv_aload_n hx hb dX1_readings_50 rfl (lv_at hl 0 rfl) ?_
        refine S0.gW hF hX kf_RX1_15 dX1_readings_51 ?_
        refine lv_iload hx hb dX1_readings_54 (lv_at hl 5 rfl) ?_
        refine S0.ldW hF hX j (by omega) rfl dX1_readings_56 ?_
        refine lv_aload_n hx hb dX1_readings_57 rfl (lv_at hl 0 rfl) ?_
        refine S0.gW hF hX kf_RX1_15 dX1_readings_58 ?_
        refine lv_aload_n hx hb dX1_readings_61 rfl (lv_at hl 0 rfl) ?_
        refine S0.gL hF hX kf_RX1_9 dX1_readings_62 ?_
        refine lv_iload_n hx hb dX1_readings_65 rfl (lv_at hl 1 rfl) ?_
        refine S0.ldA hF hX k hk rfl dX1_readings_66 ?_
        refine lv_iconst (v := 2) hx hb dX1_readings_67 (by decide) ?_
        refine S0.ldR hF hX k hk 2 (by decide) rfl dX1_readings_68 ?_
        refine topI (show (rowV v st mk) k 2 = v 2 k from rfl) ?_
        refine S0.ldW hF hX (ix (v 2 k)) (okM10 hok k) (okM hok k) dX1_readings_69 ?_
        refine lv_icmp_eq (tgt := 76) hx hb dX1_readings_70 (by decide) (fun c70 => ?_) (fun c70 => ?_)
        · refine lv_iload hx hb dX1_readings_76 (lv_at hl 4 rfl) ?_
          refine lv_aload_n hx hb dX1_readings_78 rfl (lv_at hl 0 rfl) ?_
          refine S0.gL hF hX kf_RX1_9 dX1_readings_79 ?_
          refine lv_iload_n hx hb dX1_readings_82 rfl (lv_at hl 1 rfl) ?_
          refine S0.ldA hF hX k hk rfl dX1_readings_83 ?_
          refine lv_iconst (v := 0) hx hb dX1_readings_84 (by decide) ?_
          refine S0.ldR hF hX k hk 0 (by decide) rfl dX1_readings_85 ?_
          refine topI (show (rowV v st mk) k 0 = v 0 k from rfl) ?_
          refine lv_icmp_ne (tgt := 104) hx hb dX1_readings_86 (by decide) (fun c86 => ?_) (fun c86 => ?_)
          · refine lv_iinc (v := ((rdM v st k e j) + 1)) (lv' := [(2, .int ((rdM v st k e j) + 1)), (0, .ref sm), (1, .int (nI k)), (3, .int (rdR v st k e0 e j)), (4, .int (nI e - 3)), (5, .int (nI j))]) hx hb dX1_readings_104 hl (k := 2) rfl (rfl) (by decide) rfl (fun ls hl => ?_)
            refine lv_iinc (v := (nI (j + 1))) (lv' := [(5, .int (nI (j + 1))), (2, .int ((rdM v st k e j) + 1)), (0, .ref sm), (1, .int (nI k)), (3, .int (rdR v st k e0 e j)), (4, .int (nI e - 3))]) hx hb dX1_readings_107 hl (k := 5) rfl (nI_1 _) (by decide) rfl (fun ls hl => ?_)
            refine lv_goto (tgt := 17) hx hb dX1_readings_110 (by decide) ?_
            exact ih2 (j + 1) ls (by omega) ⟨⟨by omega, he1.2⟩, by rw [rdR_m (rd_m3 hve c86), rdM_y c47 c70]; exact lv_sub hl [2, 3, 1, 4, 5, 0] rfl⟩
          · refine lv_iload hx hb dX1_readings_89 (lv_at hl 5 rfl) ?_
            refine lv_aload_n hx hb dX1_readings_91 rfl (lv_at hl 0 rfl) ?_
            refine S0.gL hF hX kf_RX1_9 dX1_readings_92 ?_
            refine lv_iload_n hx hb dX1_readings_95 rfl (lv_at hl 1 rfl) ?_
            refine S0.ldA hF hX k hk rfl dX1_readings_96 ?_
            refine lv_iconst (v := 2) hx hb dX1_readings_97 (by decide) ?_
            refine S0.ldR hF hX k hk 2 (by decide) rfl dX1_readings_98 ?_
            refine topI (show (rowV v st mk) k 2 = v 2 k from rfl) ?_
            refine lv_icmp_ne (tgt := 104) hx hb dX1_readings_99 (by decide) (fun c99 => ?_) (fun c99 => ?_)
            · refine lv_iinc (v := ((rdM v st k e j) + 1)) (lv' := [(2, .int ((rdM v st k e j) + 1)), (0, .ref sm), (1, .int (nI k)), (3, .int (rdR v st k e0 e j)), (4, .int (nI e - 3)), (5, .int (nI j))]) hx hb dX1_readings_104 hl (k := 2) rfl (rfl) (by decide) rfl (fun ls hl => ?_)
              refine lv_iinc (v := (nI (j + 1))) (lv' := [(5, .int (nI (j + 1))), (2, .int ((rdM v st k e j) + 1)), (0, .ref sm), (1, .int (nI k)), (3, .int (rdR v st k e0 e j)), (4, .int (nI e - 3))]) hx hb dX1_readings_107 hl (k := 5) rfl (nI_1 _) (by decide) rfl (fun ls hl => ?_)
              refine lv_goto (tgt := 17) hx hb dX1_readings_110 (by decide) ?_
              exact ih2 (j + 1) ls (by omega) ⟨⟨by omega, he1.2⟩, by rw [rdR_m (rd_m4 hok c99), rdM_y c47 c70]; exact lv_sub hl [2, 3, 1, 4, 5, 0] rfl⟩
            · refine lv_iload_n hx hb dX1_readings_102 rfl (lv_at hl 2 rfl) ?_
              refine lv_istore_n (lv' := [(3, .int (rdM v st k e j)), (0, .ref sm), (1, .int (nI k)), (2, .int (rdM v st k e j)), (4, .int (nI e - 3)), (5, .int (nI j))]) hx hb dX1_readings_103 rfl hl (by decide) rfl (fun ls hl => ?_)
              refine lv_iinc (v := ((rdM v st k e j) + 1)) (lv' := [(2, .int ((rdM v st k e j) + 1)), (3, .int (rdM v st k e j)), (0, .ref sm), (1, .int (nI k)), (4, .int (nI e - 3)), (5, .int (nI j))]) hx hb dX1_readings_104 hl (k := 3) rfl (rfl) (by decide) rfl (fun ls hl => ?_)
              refine lv_iinc (v := (nI (j + 1))) (lv' := [(5, .int (nI (j + 1))), (2, .int ((rdM v st k e j) + 1)), (3, .int (rdM v st k e j)), (0, .ref sm), (1, .int (nI k)), (4, .int (nI e - 3))]) hx hb dX1_readings_107 hl (k := 5) rfl (nI_1 _) (by decide) rfl (fun ls hl => ?_)
              refine lv_goto (tgt := 17) hx hb dX1_readings_110 (by decide) ?_
              exact ih2 (j + 1) ls (by omega) ⟨⟨by omega, he1.2⟩, by rw [rdR_h hok he hve (rd_e he1.2 he hve c86) (rd_j (by omega) c99), rdM_y c47 c70]; exact lv_sub hl [3, 4, 1, 2, 5, 0] rfl⟩
        · refine lv_goto (tgt := 107) hx hb dX1_readings_73 (by decide) ?_
          refine lv_iinc (v := (nI (j + 1))) (lv' := [(5, .int (nI (j + 1))), (0, .ref sm), (1, .int (nI k)), (2, .int (rdM v st k e j)), (3, .int (rdR v st k e0 e j)), (4, .int (nI e - 3))]) hx hb dX1_readings_107 hl (k := 5) rfl (nI_1 _) (by decide) rfl (fun ls hl => ?_)
          refine lv_goto (tgt := 17) hx hb dX1_readings_110 (by decide) ?_
          exact ih2 (j + 1) ls (by omega) ⟨⟨by omega, he1.2⟩, by rw [rdM_w c70, rdR_m (rd_m2 c70)]; exact lv_sub hl [1, 2, 3, 4, 5, 0] rfl⟩
set_option maxHeartbeats 4000000 in
set_option maxRecDepth 100000 in
theorem mX1_isOpen (hok : Ok N st v) (k : Nat) (hk : k < N) : Met l yX1_isOpen (wm yX1_isOpen cX1_isOpen 2 (some .boolean)) ({ frames := 2, cells := 1, slots := 2, locals := 46 } : Room) (va_Pc [.ref sm, .int (nI k)] (fun U => S0 D cyI cyA sm wd lg a N st (v 3) (rowV v st mk) U U.heap)) (va_Qi (fun r9 (_ : Unit) => r9 = b2i (amb v st mk k)) (fun u U => (fun (_ : Unit) => (fun _ _ => True : State → Heap → Prop)) u U U.heap) (fun _ => False)) 1 2 (fun _ => False) := by
  refine mt (by decide) (Nat.le_of_ble_eq_true rfl) ?_
  intro p ev s m below meth c ls hF hr hlocks hnm hX hl
  have hF : CallFix p m c cX1_isOpen 2 s _ wA RX1 := hF
  obtain ⟨hx, hb, hml, hown, hts⟩ := id hF
  have hX : S0 D cyI cyA sm wd lg a N st (v 3) (rowV v st mk) s s.heap := hX
  have hl : lv_has ls 2 [(0, .ref sm), (1, .int (nI k))] := hl
  have hS : va_S (fun q => s.heap.size ≤ q) s.heap s.heap [] := va_S.rf
  have hn16 := hX.n16
  refine lv_aload_n hx hb dX1_isOpen_0 rfl (lv_at hl 0 rfl) ?_
  refine S0.gL hF hX kf_RX1_9 dX1_isOpen_1 ?_
  refine lv_iload_n hx hb dX1_isOpen_4 rfl (lv_at hl 1 rfl) ?_
  refine S0.ldA hF hX k hk rfl dX1_isOpen_5 ?_
  refine lv_iconst (v := 5) hx hb dX1_isOpen_6 (by decide) ?_
  refine S0.ldR hF hX k hk 5 (by decide) rfl dX1_isOpen_7 ?_
  refine topI (show (rowV v st mk) k 5 = b2i (mk k) from rfl) ?_
  refine lv_if_ne (tgt := 26) hx hb dX1_isOpen_8 (by decide) (fun c8 => ?_) (fun c8 => ?_)
  · have c8b := b2i_t c8
    refine lv_iconst (v := 0) hx hb dX1_isOpen_26 (by decide) ?_
    refine W.widen (k := 1) (n := 2) (by omega) (by omega) ?_
    refine va_forget (fun q hq => hS.2.2 q hq) ?_
    exact W.zret hx hb hr rfl (fun t ht hW => ⟨⟨_, (), rfl, b2i_0 (amb_o c8b), trivial⟩, sF hS ht⟩) (fun q hq => absurd hq List.not_mem_nil) dX1_isOpen_27
  · have c8b := b2i_f c8
    refine lv_aload_n hx hb dX1_isOpen_11 rfl (lv_at hl 0 rfl) ?_
    refine lv_iload_n hx hb dX1_isOpen_12 rfl (lv_at hl 1 rfl) ?_
    refine wVr (mc := 1) (ms := 2) (As := [.int (nI k)]) (rest := []) hF (mX1_readings hok k (by omega)) S0.mv (fun _ _ => heapMv) hX hX.rc jyX1_readings kl_RX1_35 ⟨rfl, rfl⟩ ⟨Nat.le_of_ble_eq_true rfl, Nat.le_of_ble_eq_true rfl⟩ rfl hl.1 rfl (Nat.le_of_ble_eq_true rfl) ⟨by show _ + 1 ≤ 1; omega, by show _ + 2 ≤ 2; omega⟩ hS (fun _ _ h => h.elim) (fun _ h => h.elim) dX1_isOpen_13 (fun u9 x1 H locs hp9 hB9 hz hk hS => ?_)
    have ho : ∀ q : Nat, q < _ → H[q]? = _ := fun q h9 => hk q h9 (fun h => h)
    have hX := hX.upK ho
    have h_x1 := hB9
    refine lv_iconst (v := 0) hx hb dX1_isOpen_16 (by decide) ?_
    refine ldI hF hX.2.1 h_x1 0 (by decide) (by decide) rfl dX1_isOpen_17 ?_
    refine topI (show ((rd2 (rdn v st k) (rrn v st k)) 0) = rdn v st k from rfl) ?_
    refine lv_iconst (v := 1) hx hb dX1_isOpen_18 (by decide) ?_
    refine lv_icmp_le (tgt := 26) hx hb dX1_isOpen_19 (by decide) (fun c19 => ?_) (fun c19 => ?_)
    · refine lv_iconst (v := 0) hx hb dX1_isOpen_26 (by decide) ?_
      refine W.widen (k := 1) (n := 2) (by omega) (by omega) ?_
      refine va_forget (fun q hq => hS.2.2 q hq) ?_
      exact W.zret hx hb hr rfl (fun t ht hW => ⟨⟨_, (), rfl, b2i_0 (amb_0 c19), trivial⟩, sF hS ht⟩) (fun q hq => absurd hq List.not_mem_nil) dX1_isOpen_27
    · refine lv_iconst (v := 1) hx hb dX1_isOpen_22 (by decide) ?_
      refine lv_goto (tgt := 27) hx hb dX1_isOpen_23 (by decide) ?_
      refine W.widen (k := 1) (n := 2) (by omega) (by omega) ?_
      refine va_forget (fun q hq => hS.2.2 q hq) ?_
      exact W.zret hx hb hr rfl (fun t ht hW => ⟨⟨_, (), rfl, b2i_1 (amb_1 c8b c19), trivial⟩, sF hS ht⟩) (fun q hq => absurd hq List.not_mem_nil) dX1_isOpen_27
set_option maxHeartbeats 4000000 in
set_option maxRecDepth 100000 in
theorem mX1_open (hok : Ok N st v) : Met l yX1_open (wm yX1_open cX1_open 3 (some .int)) ({ frames := 3, cells := 16, slots := 32, locals := 67 } : Room) (va_Pc [.ref sm] (fun U => S0 D cyI cyA sm wd lg a N st (v 3) (rowV v st mk) U U.heap)) (va_Qi (fun r9 (_ : Unit) => r9 = ctB (amb v st mk) N) (fun u U => (fun (_ : Unit) => (fun _ _ => True : State → Heap → Prop)) u U U.heap) (fun _ => False)) 16 32 (fun _ => False) := by
  refine mt (by decide) (Nat.le_of_ble_eq_true rfl) ?_
  intro p ev s m below meth c ls hF hr hlocks hnm hX hl
  have hF : CallFix p m c cX1_open 3 s _ wA RX1 := hF
  obtain ⟨hx, hb, hml, hown, hts⟩ := id hF
  have hX : S0 D cyI cyA sm wd lg a N st (v 3) (rowV v st mk) s s.heap := hX
  have hl : lv_has ls 3 [(0, .ref sm)] := hl
  have hS : va_S (fun q => s.heap.size ≤ q) s.heap s.heap [] := va_S.rf
  have hn16 := hX.n16
  refine lv_iconst (v := 0) hx hb dX1_open_0 (by decide) ?_
  refine lv_istore_n (lv' := [(1, .int 0), (0, .ref sm)]) hx hb dX1_open_1 rfl hl (by decide) rfl (fun ls hl => ?_)
  refine lv_iconst (v := 0) hx hb dX1_open_2 (by decide) ?_
  refine lv_istore_n (lv' := [(2, .int 0), (1, .int 0), (0, .ref sm)]) hx hb dX1_open_3 rfl hl (by decide) rfl (fun ls hl => ?_)
  refine W.widen (k := 0) (n := 2 * 0) (by omega) (by omega) ?_
  refine lpC (σ := Nat) (τ := Unit) (fun j u8 ls H locs => (j ≤ N) ∧ (S0 D cyI cyA sm wd lg a N st (v 3) (rowV v st mk) s H) ∧ va_S (fun q => s.heap.size ≤ q) s.heap H locs ∧ lv_has ls 3 [(0, .ref sm), (1, .int (ctB (amb v st mk) j)), (2, .int (nI j))]) (fun j u8 => N - j) (fun j => j) (fun j => 2 * j) (fun j u8 ls H locs hI ih => ?_) (0) () ⟨Nat.zero_le _, hX, hS, lv_sub hl [2, 1, 0] rfl⟩
  obtain ⟨hj, hX, hS, hl⟩ := hI
  refine lv_iload_n hx hb dX1_open_4 rfl (lv_at hl 2 rfl) ?_
  refine lv_aload_n hx hb dX1_open_5 rfl (lv_at hl 0 rfl) ?_
  refine S0.gL hF hX kf_RX1_9 dX1_open_6 ?_
  refine S0.len hF hX dX1_open_9 ?_
  refine lv_icmp_ge (tgt := 35) hx hb dX1_open_10 (by decide) (fun c10 => ?_) (fun c10 => ?_)
  · have c10n : N ≤ j := (nI_leI (a := N) (b := j) (by omega) (by omega)).mp c10
    obtain rfl : j = N := by omega
    refine lv_iload_n hx hb dX1_open_35 rfl (lv_at hl 1 rfl) ?_
    refine W.widen (k := 16) (n := 32) (by omega) (by omega) ?_
    refine va_forget (fun q hq => hS.2.2 q hq) ?_
    exact W.iret hx hb hr (fun t ht hW => ⟨⟨_, (), rfl, rfl, trivial⟩, sF hS ht⟩) (fun q hq => absurd hq List.not_mem_nil) dX1_open_36
  · have c10n : ¬ N ≤ j := fun h9 => c10 ((nI_leI (a := N) (b := j) (by omega) (by omega)).mpr h9)
    refine lv_iload_n hx hb dX1_open_13 rfl (lv_at hl 1 rfl) ?_
    refine lv_aload_n hx hb dX1_open_14 rfl (lv_at hl 0 rfl) ?_
    refine lv_iload_n hx hb dX1_open_15 rfl (lv_at hl 2 rfl) ?_
    refine wVi (mc := 1) (ms := 2) (As := [.int (nI j)]) (rest := [.int (ctB (amb v st mk) j)]) hF (mX1_isOpen hok j (by omega)) S0.mv (fun _ => Mv.const) hX hX.rc jyX1_isOpen kl_RX1_39 ⟨rfl, rfl⟩ ⟨Nat.le_of_ble_eq_true rfl, Nat.le_of_ble_eq_true rfl⟩ rfl hl.1 rfl (Nat.le_of_ble_eq_true rfl) ⟨by show _ + 1 ≤ 16; omega, by show _ + 2 ≤ 32; omega⟩ hS (fun _ _ h => h.elim) (fun _ h => h.elim) dX1_open_16 (fun r9 u9 H locs hp9 hB9 hz hk hS => ?_)
    have ho : ∀ q : Nat, q < _ → H[q]? = _ := fun q h9 => hk q h9 (fun h => h)
    have hX := hX.upK ho
    subst hp9
    refine lv_if_eq (tgt := 26) hx hb dX1_open_19 (by decide) (fun c19 => ?_) (fun c19 => ?_)
    · have c19b := b2i_f c19
      refine lv_iconst (v := 0) hx hb dX1_open_26 (by decide) ?_
      refine lv_iadd hx hb dX1_open_27 ?_
      refine topI (show ((ctB (amb v st mk) j) + 0) = ctB (amb v st mk) (j + 1) from ctB_f' c19b) ?_
      refine lv_istore_n (lv' := [(1, .int (ctB (amb v st mk) (j + 1))), (0, .ref sm), (2, .int (nI j))]) hx hb dX1_open_28 rfl hl (by decide) rfl (fun ls hl => ?_)
      refine lv_iinc (v := (nI (j + 1))) (lv' := [(2, .int (nI (j + 1))), (1, .int (ctB (amb v st mk) (j + 1))), (0, .ref sm)]) hx hb dX1_open_29 hl (k := 2) rfl (nI_1 _) (by decide) rfl (fun ls hl => ?_)
      refine lv_goto (tgt := 4) hx hb dX1_open_32 (by decide) ?_
      refine W.widen (k := (j + 1)) (n := 2 * (j + 1)) (by omega) (by omega) ?_
      exact ih (j + 1) () ls H locs (by omega) ⟨by omega, hX, hS, by exact lv_sub hl [2, 1, 0] rfl⟩
    · have c19b := b2i_t c19
      refine lv_iconst (v := 1) hx hb dX1_open_22 (by decide) ?_
      refine lv_goto (tgt := 27) hx hb dX1_open_23 (by decide) ?_
      refine lv_iadd hx hb dX1_open_27 ?_
      refine topI (show ((ctB (amb v st mk) j) + 1) = ctB (amb v st mk) (j + 1) from ctB_t' c19b) ?_
      refine lv_istore_n (lv' := [(1, .int (ctB (amb v st mk) (j + 1))), (0, .ref sm), (2, .int (nI j))]) hx hb dX1_open_28 rfl hl (by decide) rfl (fun ls hl => ?_)
      refine lv_iinc (v := (nI (j + 1))) (lv' := [(2, .int (nI (j + 1))), (1, .int (ctB (amb v st mk) (j + 1))), (0, .ref sm)]) hx hb dX1_open_29 hl (k := 2) rfl (nI_1 _) (by decide) rfl (fun ls hl => ?_)
      refine lv_goto (tgt := 4) hx hb dX1_open_32 (by decide) ?_
      refine W.widen (k := (j + 1)) (n := 2 * (j + 1)) (by omega) (by omega) ?_
      exact ih (j + 1) () ls H locs (by omega) ⟨by omega, hX, hS, by exact lv_sub hl [2, 1, 0] rfl⟩
set_option maxHeartbeats 4000000 in
set_option maxRecDepth 100000 in
theorem mX1_ways (hok : Ok N st v) : Met l yX1_ways (wm yX1_ways cX1_ways 4 (some .long)) ({ frames := 3, cells := 32, slots := 64, locals := 67 } : Room) (va_Pc [.ref sm] (fun U => S0 D cyI cyA sm wd lg a N st (v 3) (rowV v st mk) U U.heap)) (va_Ql (fun r9 (_ : Unit) => r9 = wys v st mk N) (fun u U => (fun (_ : Unit) => (fun _ _ => True : State → Heap → Prop)) u U U.heap) (fun _ => False)) 32 64 (fun _ => False) := by
  refine mt (by decide) (Nat.le_of_ble_eq_true rfl) ?_
  intro p ev s m below meth c ls hF hr hlocks hnm hX hl
  have hF : CallFix p m c cX1_ways 4 s _ wA RX1 := hF
  obtain ⟨hx, hb, hml, hown, hts⟩ := id hF
  have hX : S0 D cyI cyA sm wd lg a N st (v 3) (rowV v st mk) s s.heap := hX
  have hl : lv_has ls 4 [(0, .ref sm)] := hl
  have hS : va_S (fun q => s.heap.size ≤ q) s.heap s.heap [] := va_S.rf
  have hn16 := hX.n16
  refine lv_lconst (v := 1) hx hb dX1_ways_0 (by decide) ?_
  refine lv_lstore_n (lv' := [(1, .long 1), (0, .ref sm)]) hx hb dX1_ways_1 rfl hl (by decide) rfl (fun ls hl => ?_)
  refine lv_iconst (v := 0) hx hb dX1_ways_2 (by decide) ?_
  refine lv_istore_n (lv' := [(3, .int 0), (1, .long 1), (0, .ref sm)]) hx hb dX1_ways_3 rfl hl (by decide) rfl (fun ls hl => ?_)
  refine W.widen (k := 2 * 0) (n := 4 * 0) (by omega) (by omega) ?_
  refine lpC (σ := Nat) (τ := Unit) (fun j u8 ls H locs => (j ≤ N) ∧ (S0 D cyI cyA sm wd lg a N st (v 3) (rowV v st mk) s H) ∧ va_S (fun q => s.heap.size ≤ q) s.heap H locs ∧ lv_has ls 4 [(0, .ref sm), (1, .long (wys v st mk j)), (3, .int (nI j))]) (fun j u8 => N - j) (fun j => 2 * j) (fun j => 4 * j) (fun j u8 ls H locs hI ih => ?_) (0) () ⟨Nat.zero_le _, hX, hS, lv_sub hl [2, 1, 0] rfl⟩
  obtain ⟨hj, hX, hS, hl⟩ := hI
  refine lv_iload_n hx hb dX1_ways_4 rfl (lv_at hl 2 rfl) ?_
  refine lv_aload_n hx hb dX1_ways_5 rfl (lv_at hl 0 rfl) ?_
  refine S0.gL hF hX kf_RX1_9 dX1_ways_6 ?_
  refine S0.len hF hX dX1_ways_9 ?_
  refine lv_icmp_ge (tgt := 53) hx hb dX1_ways_10 (by decide) (fun c10 => ?_) (fun c10 => ?_)
  · have c10n : N ≤ j := (nI_leI (a := N) (b := j) (by omega) (by omega)).mp c10
    obtain rfl : j = N := by omega
    refine lv_lload_n hx hb dX1_ways_53 rfl (lv_at hl 1 rfl) ?_
    refine W.widen (k := 32) (n := 64) (by omega) (by omega) ?_
    refine va_forget (fun q hq => hS.2.2 q hq) ?_
    exact W.lret hx hb hr (fun t ht hW => ⟨⟨_, (), rfl, rfl, trivial⟩, sF hS ht⟩) (fun q hq => absurd hq List.not_mem_nil) dX1_ways_54
  · have c10n : ¬ N ≤ j := fun h9 => c10 ((nI_leI (a := N) (b := j) (by omega) (by omega)).mpr h9)
    refine lv_aload_n hx hb dX1_ways_13 rfl (lv_at hl 0 rfl) ?_
    refine lv_iload_n hx hb dX1_ways_14 rfl (lv_at hl 2 rfl) ?_
    refine wVi (mc := 1) (ms := 2) (As := [.int (nI j)]) (rest := []) hF (mX1_isOpen hok j (by omega)) S0.mv (fun _ => Mv.const) hX hX.rc jyX1_isOpen kl_RX1_39 ⟨rfl, rfl⟩ ⟨Nat.le_of_ble_eq_true rfl, Nat.le_of_ble_eq_true rfl⟩ rfl hl.1 rfl (Nat.le_of_ble_eq_true rfl) ⟨by show _ + 1 ≤ 32; omega, by show _ + 2 ≤ 64; omega⟩ hS (fun _ _ h => h.elim) (fun _ h => h.elim) dX1_ways_15 (fun r9 u9 H locs hp9 hB9 hz hk hS => ?_)
    have ho : ∀ q : Nat, q < _ → H[q]? = _ := fun q h9 => hk q h9 (fun h => h)
    have hX := hX.upK ho
    subst hp9
    refine lv_if_ne (tgt := 24) hx hb dX1_ways_18 (by decide) (fun c18 => ?_) (fun c18 => ?_)
    · have c18b := b2i_t c18
      refine lv_lload_n hx hb dX1_ways_24 rfl (lv_at hl 1 rfl) ?_
      refine lv_aload_n hx hb dX1_ways_25 rfl (lv_at hl 0 rfl) ?_
      refine lv_iload_n hx hb dX1_ways_26 rfl (lv_at hl 2 rfl) ?_
      refine wVr (mc := 1) (ms := 2) (As := [.int (nI j)]) (rest := [.long (wys v st mk j)]) hF (mX1_readings hok j (by omega)) S0.mv (fun _ _ => heapMv) hX hX.rc jyX1_readings kl_RX1_35 ⟨rfl, rfl⟩ ⟨Nat.le_of_ble_eq_true rfl, Nat.le_of_ble_eq_true rfl⟩ rfl hl.1 rfl (Nat.le_of_ble_eq_true rfl) ⟨by show _ + 1 ≤ 32; omega, by show _ + 2 ≤ 64; omega⟩ hS (fun _ _ h => h.elim) (fun _ h => h.elim) dX1_ways_27 (fun u9 x1 H locs hp9 hB9 hz hk hS => ?_)
      have ho : ∀ q : Nat, q < _ → H[q]? = _ := fun q h9 => hk q h9 (fun h => h)
      have hX := hX.upK ho
      have h_x1 := hB9
      refine lv_iconst (v := 0) hx hb dX1_ways_30 (by decide) ?_
      refine ldI hF hX.2.1 h_x1 0 (by decide) (by decide) rfl dX1_ways_31 ?_
      refine topI (show ((rd2 (rdn v st j) (rrn v st j)) 0) = rdn v st j from rfl) ?_
      refine lv_i2l hx hb dX1_ways_32 rfl ?_
      refine lv_lmul hx hb dX1_ways_33 ?_
      refine lv_lstore_n (lv' := [(1, .long ((wys v st mk j) * (Int32.toInt64 (rdn v st j)))), (0, .ref sm), (3, .int (nI j))]) hx hb dX1_ways_34 rfl hl (by decide) rfl (fun ls hl => ?_)
      refine lv_lload_n hx hb dX1_ways_35 rfl (lv_at hl 0 rfl) ?_
      refine lv_ldc2 hx hb hown (hts _ kk_RX1_43) dX1_ways_36 ?_
      refine W.lcmp hx hb dX1_ways_39 ?_
      refine lv_if_le (tgt := 47) hx hb dX1_ways_40 (by decide) (fun c40 => ?_) (fun c40 => ?_)
      · refine lv_iinc (v := (nI (j + 1))) (lv' := [(3, .int (nI (j + 1))), (1, .long ((wys v st mk j) * (Int32.toInt64 (rdn v st j)))), (0, .ref sm)]) hx hb dX1_ways_47 hl (k := 2) rfl (nI_1 _) (by decide) rfl (fun ls hl => ?_)
        refine lv_goto (tgt := 4) hx hb dX1_ways_50 (by decide) ?_
        refine W.widen (k := 2 * (j + 1)) (n := 4 * (j + 1)) (by omega) (by omega) ?_
        exact ih (j + 1) () ls H locs (by omega) ⟨by omega, hX, hS, by rw [wys_t c18b, if_neg (Int64.not_lt.mpr ((lg_cmp_le _ _).mp c40))]; exact lv_sub hl [2, 1, 0] rfl⟩
      · refine lv_ldc2 hx hb hown (hts _ kk_RX1_43) dX1_ways_43 ?_
        refine lv_lstore_n (lv' := [(1, .long 1000000000), (0, .ref sm), (3, .int (nI j))]) hx hb dX1_ways_46 rfl hl (by decide) rfl (fun ls hl => ?_)
        refine lv_iinc (v := (nI (j + 1))) (lv' := [(3, .int (nI (j + 1))), (1, .long 1000000000), (0, .ref sm)]) hx hb dX1_ways_47 hl (k := 2) rfl (nI_1 _) (by decide) rfl (fun ls hl => ?_)
        refine lv_goto (tgt := 4) hx hb dX1_ways_50 (by decide) ?_
        refine W.widen (k := 2 * (j + 1)) (n := 4 * (j + 1)) (by omega) (by omega) ?_
        exact ih (j + 1) () ls H locs (by omega) ⟨by omega, hX, hS, by rw [wys_t c18b, if_pos ((lg_cmp_gt _ _).mp (Int32.not_le.mp c40))]; exact lv_sub hl [2, 1, 0] rfl⟩
    · have c18b := b2i_f c18
      refine lv_goto (tgt := 47) hx hb dX1_ways_21 (by decide) ?_
      refine lv_iinc (v := (nI (j + 1))) (lv' := [(3, .int (nI (j + 1))), (0, .ref sm), (1, .long (wys v st mk j))]) hx hb dX1_ways_47 hl (k := 2) rfl (nI_1 _) (by decide) rfl (fun ls hl => ?_)
      refine lv_goto (tgt := 4) hx hb dX1_ways_50 (by decide) ?_
      refine W.widen (k := 2 * (j + 1)) (n := 4 * (j + 1)) (by omega) (by omega) ?_
      exact ih (j + 1) () ls H locs (by omega) ⟨by omega, hX, hS, by rw [wys_f c18b]; exact lv_sub hl [1, 2, 0] rfl⟩
end P22
end
section
section R23
variable {p : Program} {l : Launch} {e : Env} {R : Room} {s : State} {m : MethodId} {args : Array Value} {below : List Frame} {meth : Method} {c : Code} {H : Heap} {locs : List Loc} {cells slots : Nat} {Q : State → Prop}
variable {cc : ByteArray} {nL pc idx k maxL : Nat} {ls : Array Slot} {own C own0 : String} {y : MethodName} {bytes : ByteArray} {ret : Option FieldType} {rm : Room} {b : Addr} {As rest st0 : List Value} {X : State → Heap → Prop}
variable {σ : Type} {X1 : σ → State → Heap → Prop} {A A0 A1 : Nat → Prop} {H0 : Heap} {mc ms : Nat} {free : Addr → Prop} {D : va_G} {cyI cyA : ClassId}
variable {sm wd lg n x z : Nat} {a : Nat → Nat} {st : Int32} {wv g : Nat → Int32} {r : Nat → Nat → Int32}
abbrev CM (y : MethodName) (c : ByteArray) (n : Nat) (k : Nat) : Prop :=
  (Cond.instanceMethod y ∈ wA ∧ Cond.initialized y.cls ∈ wA ∧ Cond.code y c n none ∈ wA) ∧ y.name = "<init>" ∧ (y.cls ≠ "java/lang/invoke/MethodHandle" ∧ y.cls ≠ "java/lang/invoke/VarHandle" ∧ (parseMethodDescriptor y.desc).map (fun d => d.parameters.length) = some k)
theorem wIv {post : σ → Prop} (hF : CallFix p m c cc nL s args wA own) (hM : Met l y (wm y bytes maxL none) rm (va_Pc (.ref b :: As) (fun U => X U U.heap)) (va_Qv post (fun u U => X1 u U U.heap) A1) mc ms free) (hmv : Mv X) (hmv1 : ∀ u, Mv (X1 u)) (hX : X s H) (hi : CM y bytes maxL k) (hlk : Cond.methodLink own idx y ∈ wA)
    (h0 : rm.cells = mc ∧ rm.slots = ms) (hR : rm.frames + 1 ≤ R.frames ∧ 8 + (maxL + 11) + rm.locals ≤ R.locals) (hk : As.length = k) (hsz : ls.size = nL) (hst : st0 = As.reverse ++ .ref b :: rest) (hW : (rest.map fun v => v.category).sum ≤ 8) (hcs : cells + mc ≤ R.cells ∧ slots + ms ≤ R.slots) (hS : va_S A0 H0 H locs) (hA : ∀ q, q < H.size → A1 q → A0 q) (hf : ∀ q, free q → A0 q) (hdg : decode cc pc = .ok (.invokespecial idx, 3))
    (kk : ∀ (u : σ) (H1 : Heap) (locs1 : List Loc), post u → X1 u s H1 → H.size ≤ H1.size → (∀ q : Nat, q < H.size → ¬ A1 q → H1[q]? = H[q]?) → va_S A0 H0 H1 locs1 → W p l e R s m args below meth c H1 locs1 (cells + mc) (slots + ms) Q (F0 m (pc + 3) ls rest)) : W p l e R s m args below meth c H locs cells slots Q (F0 m pc ls st0) :=
  va_callv (va_runI hF hM (cwI k hF.2.2.2.2 (gm hi.1.2.2) rfl h0.1 h0.2 (hF.2.2.2.2 _ hi.1.2.1) (hF.2.2.2.2 _ hlk) (hF.2.2.2.2 _ hi.1.1) hi.2.1 hi.2.2 hR) ⟨mvBlind hmv, fun U hU hW => mvPre hmv hX hU hW⟩ rfl hk hsz hst (lv_room hW) hdg hcs) hS hA hf (fun u t H1 locs1 ht hvm hp hB hz hk1 hS1 => kk u H1 locs1 hp (by subst ht; exact hmv1 u t s t.heap hvm.symm hB) hz hk1 hS1)
/-- a nest mate's private constructor -/
theorem wIvN {post : σ → Prop} {host : String} (hF : CallFix p m c cc nL s args wA own) (hM : Met l y (wm y bytes maxL none) rm (va_Pc (.ref b :: As) (fun U => X U U.heap)) (va_Qv post (fun u U => X1 u U U.heap) A1) mc ms free) (hmv : Mv X) (hmv1 : ∀ u, Mv (X1 u)) (hX : X s H) (hi : CM y bytes maxL k) (hlk : va_Nw (.methodLinkNest own idx y host) s)
    (h0 : rm.cells = mc ∧ rm.slots = ms) (hR : rm.frames + 1 ≤ R.frames ∧ 8 + (maxL + 11) + rm.locals ≤ R.locals) (hk : As.length = k) (hsz : ls.size = nL) (hst : st0 = As.reverse ++ .ref b :: rest) (hW : (rest.map fun v => v.category).sum ≤ 8) (hcs : cells + mc ≤ R.cells ∧ slots + ms ≤ R.slots) (hS : va_S A0 H0 H locs) (hA : ∀ q, q < H.size → A1 q → A0 q) (hf : ∀ q, free q → A0 q) (hdg : decode cc pc = .ok (.invokespecial idx, 3))
    (kk : ∀ (u : σ) (H1 : Heap) (locs1 : List Loc), post u → X1 u s H1 → H.size ≤ H1.size → (∀ q : Nat, q < H.size → ¬ A1 q → H1[q]? = H[q]?) → va_S A0 H0 H1 locs1 → W p l e R s m args below meth c H1 locs1 (cells + mc) (slots + ms) Q (F0 m (pc + 3) ls rest)) : W p l e R s m args below meth c H locs cells slots Q (F0 m pc ls st0) :=
  va_callv (va_runIN hF hM ⟨va_cnB k hF.2.2.2.2 (gm hi.1.2.2) rfl h0.1 h0.2 hlk (hF.2.2.2.2 _ hi.1.2.1) hi.2.2 hR, hi.2.1, hF.2.2.2.2 _ hi.1.1⟩ ⟨mvBlind hmv, fun U hU hW => mvPre hmv hX hU hW⟩ rfl hk hsz hst (lv_room hW) hdg hcs) hS hA hf (fun u t H1 locs1 ht hvm hp hB hz hk1 hS1 => kk u H1 locs1 hp (by subst ht; exact hmv1 u t s t.heap hvm.symm hB) hz hk1 hS1)
theorem up_n (f : Nat → Nat) (v : Nat) : va_up f n v n = v := by simp [va_up]
theorem up_lt (f : Nat → Nat) (v : Nat) {j : Nat} (h : j < n) : va_up f n v j = f j := by simp [va_up, Nat.ne_of_lt h]
theorem Ap.grow (h : Ap sm wd lg a n) (hx : ∀ q : Nat, sown sm wd lg a n q → q ≠ x) (hz : ∀ q : Nat, sown sm wd lg a n q → q ≠ z) (hzx : x ≠ z) : Ap sm wd z (va_up a n x) (n + 1) := by
  refine ⟨⟨h.1.1, hz _ (Or.inl rfl), hz _ (Or.inr (Or.inl rfl))⟩, fun k hk => ?_, fun k hk j hj e => ?_⟩
  · by_cases hkn : k = n
    · subst hkn
      rw [up_n]
      exact ⟨Ne.symm (hx _ (Or.inl rfl)), Ne.symm (hx _ (Or.inr (Or.inl rfl))), hzx⟩
    · rw [up_lt _ _ (by omega)]
      have h9 := h.2.1 k (by omega)
      exact ⟨h9.1, h9.2.1, hz _ (Or.inr (Or.inr (Or.inr ⟨k, by omega, rfl⟩)))⟩
  · by_cases hkn : k = n
    · subst hkn
      by_cases hjn : j = k
      · exact hjn.symm
      · rw [up_n, up_lt _ _ (by omega)] at e
        exact absurd e.symm (hx _ (Or.inr (Or.inr (Or.inr ⟨j, by omega, rfl⟩))))
    · by_cases hjn : j = n
      · subst hjn
        rw [up_n, up_lt _ _ (by omega)] at e
        exact absurd e (hx _ (Or.inr (Or.inr (Or.inr ⟨k, by omega, rfl⟩))))
      · rw [up_lt _ _ (by omega), up_lt _ _ (by omega)] at e
        exact h.2.2 k (by omega) j (by omega) e
theorem S0.stG (hF : CallFix p m c cc nL s args wA own0) (h : S0 D cyI cyA sm wd lg a n st wv r s H) (hS : va_S A H0 H locs) (hA : A sm) (hI : IA cyI x 6 g H) (hQ : QA cyA z (n + 1) (fun k => some (va_up a n x k)) H) (hx : ∀ q : Nat, sown sm wd lg a n q → q ≠ x) (hz : ∀ q : Nat, sown sm wd lg a n q → q ≠ z) (hzx : x ≠ z) (hn : n < 16) (hl : Cond.fieldLink own0 idx "MapSongsLaw$Sim" "legs" "[[I" ∈ wA) (hdg : decode cc pc = .ok (.putfield idx, 3))
    (kk : ∀ (H1 : Heap) (locs1 : List Loc), S0 D cyI cyA sm wd z (va_up a n x) (n + 1) st wv (va_up r n g) s H1 → H1.size = H.size → (∀ q : Nat, q ≠ sm → H1[q]? = H[q]?) → va_S A H0 H1 locs1 → W p l e R s m args below meth c H1 locs1 cells slots Q (F0 m (pc + 3) ls rest)) : W p l e R s m args below meth c H locs cells slots Q (F0 m pc ls (.ref z :: .ref sm :: rest)) := by
  refine S0.stL hF h hS hA hQ (r2 := va_up r n g) (fun k hk => ?_) (h.2.2.1.grow hx hz hzx) (by omega) hl hdg kk
  by_cases hkn : k = n
  · subst hkn
    rw [up_n, show va_up r k g k = g by simp [va_up]]
    exact hI
  · rw [up_lt _ _ (by omega), show va_up r n g k = r k by simp [va_up, hkn]]
    exact h.1.2.2.2 k (by omega)
theorem S0.stK {M : Nat} (hF : CallFix p m c cc nL s args wA own0) (h : S0 D cyI cyA sm wd lg a (M + 1) st wv r s H) (hS : va_S A H0 H locs) (hA : A sm) (hQ : QA cyA z M (fun k => some (a k)) H) (hz : ∀ q : Nat, sown sm wd lg a (M + 1) q → q ≠ z) (hl : Cond.fieldLink own0 idx "MapSongsLaw$Sim" "legs" "[[I" ∈ wA) (hdg : decode cc pc = .ok (.putfield idx, 3))
    (kk : ∀ (H1 : Heap) (locs1 : List Loc), S0 D cyI cyA sm wd z a M st wv r s H1 → H1.size = H.size → (∀ q : Nat, q ≠ sm → H1[q]? = H[q]?) → va_S A H0 H1 locs1 → W p l e R s m args below meth c H1 locs1 cells slots Q (F0 m (pc + 3) ls rest)) : W p l e R s m args below meth c H locs cells slots Q (F0 m pc ls (.ref z :: .ref sm :: rest)) := by
  have hAp := h.2.2.1
  refine S0.stL hF h hS hA hQ (fun k hk => h.1.2.2.2 k (by omega)) ⟨⟨hAp.1.1, hz _ (Or.inl rfl), hz _ (Or.inr (Or.inl rfl))⟩, fun k hk => ?_, fun k hk j hj e => hAp.2.2 k (by omega) j (by omega) e⟩ (Nat.le_trans (Nat.le_succ M) h.n16) hl hdg kk
  have h9 := hAp.2.1 k (by omega)
  exact ⟨h9.1, h9.2.1, hz _ (Or.inr (Or.inr (Or.inr ⟨k, by omega, rfl⟩)))⟩
theorem f8_up {f : Nat → Option Nat} {j : Nat} (h : ∀ k : Nat, k < j → f k = some (a k)) : ∀ k : Nat, k < j + 1 → va_up f j (some (a j)) k = some (a k) := by
  intro k hk
  by_cases hkj : k = j
  · subst hkj; simp [va_up]
  · simp only [va_up, if_neg hkj]; exact h k (by omega)
theorem f8_end {f : Nat → Option Nat} {v : Nat} (h : ∀ k : Nat, k < n → f k = some (a k)) : ∀ k : Nat, k < n + 1 → va_up f n (some v) k = some (va_up a n v k) := by
  intro k hk
  by_cases hkj : k = n
  · subst hkj; simp [va_up]
  · simp only [va_up, if_neg hkj]; exact h k (by omega)
theorem words_c {H : Heap} (h : IA cyI x 10 (upd (upd (upd (upd (upd (upd (upd (upd (upd (upd (fun _ => 0) 0 (nI 0)) 1 (nI 1)) 2 (nI 2)) 3 (nI 3)) 4 (nI 4)) 5 (nI 5)) 6 (nI 6)) 7 (nI 7)) 8 (nI 8)) 9 (nI 9)) H) : IA cyI x 10 nI H := h.c (fun k hk => by
  match k, hk with
  | 0, _ => simp [upd]
  | 1, _ => simp [upd]
  | 2, _ => simp [upd]
  | 3, _ => simp [upd]
  | 4, _ => simp [upd]
  | 5, _ => simp [upd]
  | 6, _ => simp [upd]
  | 7, _ => simp [upd]
  | 8, _ => simp [upd]
  | 9, _ => simp [upd])
/-- a row of six numbers -/
def six (x0 x1 x2 x3 x4 x5 : Int32) : Nat → Int32
  | 0 => x0
  | 1 => x1
  | 2 => x2
  | 3 => x3
  | 4 => x4
  | _ => x5
theorem six_c {H : Heap} {x0 x1 x2 x3 x4 x5 : Int32} (h : IA cyI x 6 (upd (upd (upd (upd (upd (upd (fun _ => 0) 0 x0) 1 x1) 2 x2) 3 x3) 4 x4) 5 x5) H) : IA cyI x 6 (six x0 x1 x2 x3 x4 x5) H := h.c (fun k hk => by
  match k, hk with
  | 0, _ => simp [upd, six]
  | 1, _ => simp [upd, six]
  | 2, _ => simp [upd, six]
  | 3, _ => simp [upd, six]
  | 4, _ => simp [upd, six]
  | 5, _ => simp [upd, six])
theorem six_r {f : Nat → Int32} : ∀ i : Nat, i < 6 → six (f 0) (f 1) (f 2) (f 3) (f 4) (f 5) i = f i := by
  intro i hi
  match i, hi with
  | 0, _ => rfl
  | 1, _ => rfl
  | 2, _ => rfl
  | 3, _ => rfl
  | 4, _ => rfl
  | 5, _ => rfl
theorem S0.new {h0 : Nat} {wd lg : Nat} {wv : Nat → Int32} {st : Int32} (hO : OB D h0 [.ref lg, .ref wd, .int st] H) (hI : IA cyI wd 10 wv H) (hQ : QA cyA lg 0 (fun _ => none) H) (hK : KS D cyI cyA s) (h1 : h0 ≠ wd) (h2 : h0 ≠ lg) (h3 : lg ≠ wd) : S0 D cyI cyA h0 wd lg (fun _ => 0) 0 st wv (fun _ _ => 0) s H :=
  ⟨⟨hO, hI, hQ.c (fun k hk => absurd hk (Nat.not_lt_zero _)), fun k hk => absurd hk (Nat.not_lt_zero _)⟩, hK, ⟨⟨h1, h2, Ne.symm h3⟩, fun k hk => absurd hk (Nat.not_lt_zero _), fun k hk => absurd hk (Nat.not_lt_zero _)⟩, Nat.zero_le _⟩
def XIni (D : va_G) (cyI cyA : ClassId) (h0 sz : Nat) : State → Heap → Prop := fun U H => OB D h0 [.null, .null, .int 0] H ∧ KS D cyI cyA U ∧ H.size = sz
theorem XIni.mv {h0 sz : Nat} : Mv (XIni D cyI cyA h0 sz) := fun _ _ _ al h => ⟨h.1, h.2.1.moved al, h.2.2⟩
def XSz (D : va_G) (cyI cyA : ClassId) (sm wd lg : Nat) (a : Nat → Nat) (n : Nat) (st : Int32) (wv : Nat → Int32) (r : Nat → Nat → Int32) (sz : Nat) : State → Heap → Prop := fun U H => S0 D cyI cyA sm wd lg a n st wv r U H ∧ H.size = sz
theorem XSz.mv {sz : Nat} : Mv (XSz D cyI cyA sm wd lg a n st wv r sz) := fun _ _ _ al h => ⟨S0.mv _ _ _ al h.1, h.2⟩
def XWi (D : va_G) (cyI cyA : ClassId) (sm wd lg : Nat) (a : Nat → Nat) (n : Nat) (st : Int32) (wv : Nat → Int32) (r : Nat → Nat → Int32) (v0 : Nat) (g0 : Nat → Int32) (sz : Nat) : State → Heap → Prop := fun U H => S0 D cyI cyA sm wd lg a n st wv r U H ∧ IA cyI v0 6 g0 H ∧ H.size = sz
theorem XWi.mv {v0 sz : Nat} {g0 : Nat → Int32} : Mv (XWi D cyI cyA sm wd lg a n st wv r v0 g0 sz) := fun _ _ _ al h => ⟨S0.mv _ _ _ al h.1, h.2⟩
def YQ (cyA : ClassId) (n : Nat) (f : Nat → Nat) (sz : Nat) (_ : Unit) (z : Nat) : State → Heap → Prop := fun _ H => QA cyA z n (fun k => some (f k)) H ∧ sz ≤ z
theorem YQ.mv {sz : Nat} {u : Unit} {z : Nat} : Mv (YQ cyA n a sz u z) := fun _ _ _ _ h => h
def YCo (D : va_G) (cyI cyA : ClassId) (n : Nat) (st : Int32) (wv : Nat → Int32) (r : Nat → Nat → Int32) (sz : Nat) (u : Nat × Nat × (Nat → Nat)) (z : Nat) : State → Heap → Prop := fun U H => S0 D cyI cyA z u.1 u.2.1 u.2.2 n st wv r U H ∧ ∀ q : Nat, sown z u.1 u.2.1 u.2.2 n q → sz ≤ q
theorem YCo.mv {sz : Nat} {u : Nat × Nat × (Nat → Nat)} {z : Nat} : Mv (YCo D cyI cyA n st wv r sz u z) := fun _ _ _ al h => ⟨S0.mv _ _ _ al h.1, h.2⟩
theorem Mv3 {P : State → Prop} {Q0 : Heap → Prop} {R0 : Heap → Prop} (h : ∀ u U : State, u.vm.Alike U.vm → P u → P U) : Mv (fun U H => R0 H ∧ P U ∧ Q0 H) := fun u U _ al hh => ⟨hh.1, h u U al hh.2.1, hh.2.2⟩
end R23
theorem cjX1_init : CM yX1_init cX1_init 1 0 := ⟨⟨ki_yX1_init, kn_RX1, kd_yX1_init⟩, by decide +kernel⟩

section P23
variable {l : Launch} {D : va_G} {cyI cyZ cyA : ClassId} {q : Nat → Nat} {sm wd lg n N : Nat} {a : Nat → Nat} {st : Int32} {wv : Nat → Int32} {r : Nat → Nat → Int32} {v w : Nat → Nat → Int32} {mk : Nat → Bool}
variable {h0 sz : Nat}
set_option maxHeartbeats 4000000 in
set_option maxRecDepth 100000 in
theorem mX1_init  : Met l yX1_init (wm yX1_init cX1_init 1 none) ({ frames := 1, cells := 2, slots := 10, locals := 12 } : Room) (va_Pc [.ref h0] (fun U => XIni D cyI cyA h0 sz U U.heap)) (va_Qv (fun u : Nat × Nat => sz ≤ u.1 ∧ sz ≤ u.2) (fun u U => (fun (u : Nat × Nat) => (S0 D cyI cyA h0 u.1 u.2 (fun _ => 0) 0 2 nI (fun _ _ => 0) : State → Heap → Prop)) u U U.heap) (fun q => q = h0 ∨ sz ≤ q)) 2 10 (fun q => q = h0 ∨ sz ≤ q) := by
  refine mt (by decide) (Nat.le_of_ble_eq_true rfl) ?_
  intro p ev s m below meth c ls hF hr hlocks hnm hX hl
  have hF : CallFix p m c cX1_init 1 s _ wA RX1 := hF
  obtain ⟨hx, hb, hml, hown, hts⟩ := id hF
  have hX : XIni D cyI cyA h0 sz s s.heap := hX
  have hl : lv_has ls 1 [(0, .ref h0)] := hl
  have hS : va_S (fun q => q = h0 ∨ s.heap.size ≤ q) s.heap s.heap [] := va_S.rf
  obtain ⟨h_h0, hK, hsz⟩ := hX
  subst hsz
  refine lv_aload_n hx hb dX1_init_0 rfl (lv_at hl 0 rfl) ?_
  refine W.objInit hx hb hown (hts _ kl_RX1_1) (hts _ ki_objectInit) (hts _ kd_objectInit) rfl (by rw [hml]; exact hl.1) rfl dX1_init_1 (Nat.le_of_ble_eq_true rfl) (Nat.le_of_ble_eq_true rfl) ?_
  refine W.eq (g2 := F0 m 4 ls []) rfl ?_
  refine lv_aload_n hx hb dX1_init_4 rfl (lv_at hl 0 rfl) ?_
  refine lv_iconst (v := 0) hx hb dX1_init_5 (by decide) ?_
  refine newQr hF hK hS 0 (by decide) rfl kc_RX1_7 (by show _ ≤ 2; omega) (by show _ ≤ 10; omega) dX1_init_6 (fun x1 H hq h_x1 hz ho hS1 => ?_)
  have n_h0_x1 : h0 ≠ x1 := by rw [hq]; exact Nat.ne_of_lt h_h0.lt
  have n_x1_h0 := Ne.symm n_h0_x1
  have hA_x1 : s.heap.size ≤ x1 := by rw [hq]; exact hS.1
  have hS := hS1
  have h_h0 := h_h0.upK ho
  refine putS hF hK h_h0 hS (Or.inl rfl) 0 (by decide) rfl (ty := .array (.array .int)) (by decide +kernel) rfl rfl (by show _ < 3; decide) kf_RX1_9 dX1_init_9 (fun H locs h_h0 hz oq hS => ?_)
  have h_h0 : OB D h0 [.ref x1, .null, .int 0] H := h_h0
  have h_x1 := h_x1.k (oq _ n_x1_h0)
  refine lv_aload_n hx hb dX1_init_12 rfl (lv_at hl 0 rfl) ?_
  refine lv_bipush (v := 10) hx hb dX1_init_13 (by decide) ?_
  refine newIr hF hK hS 10 (by decide) rfl (by show _ ≤ 2; omega) (by show _ ≤ 10; omega) dX1_init_15 (fun x2 H hq h_x2 hz ho hS1 => ?_)
  have n_h0_x2 : h0 ≠ x2 := by rw [hq]; exact Nat.ne_of_lt h_h0.lt
  have n_x2_h0 := Ne.symm n_h0_x2
  have n_x1_x2 : x1 ≠ x2 := by rw [hq]; exact Nat.ne_of_lt h_x1.lt
  have n_x2_x1 := Ne.symm n_x1_x2
  have hA_x2 : s.heap.size ≤ x2 := by rw [hq]; exact hS.1
  have hS := hS1
  have h_h0 := h_h0.upK ho
  have h_x1 := h_x1.upK ho
  refine lv_dup hx hb dX1_init_17 rfl ?_
  refine lv_iconst (v := 0) hx hb dX1_init_18 (by decide) ?_
  refine lv_iconst (v := (nI 0)) hx hb dX1_init_19 (by decide) ?_
  refine stI hF hK h_x2 hS (Or.inr hA_x2) 0 (by decide) (by decide) rfl dX1_init_20 (fun H locs h_x2 hz oq hS => ?_)
  have h_h0 := h_h0.k (oq _ n_h0_x2)
  have h_x1 := h_x1.k (oq _ n_x1_x2)
  refine lv_dup hx hb dX1_init_21 rfl ?_
  refine lv_iconst (v := 1) hx hb dX1_init_22 (by decide) ?_
  refine lv_iconst (v := (nI 1)) hx hb dX1_init_23 (by decide) ?_
  refine stI hF hK h_x2 hS (Or.inr hA_x2) 1 (by decide) (by decide) rfl dX1_init_24 (fun H locs h_x2 hz oq hS => ?_)
  have h_h0 := h_h0.k (oq _ n_h0_x2)
  have h_x1 := h_x1.k (oq _ n_x1_x2)
  refine lv_dup hx hb dX1_init_25 rfl ?_
  refine lv_iconst (v := 2) hx hb dX1_init_26 (by decide) ?_
  refine lv_iconst (v := (nI 2)) hx hb dX1_init_27 (by decide) ?_
  refine stI hF hK h_x2 hS (Or.inr hA_x2) 2 (by decide) (by decide) rfl dX1_init_28 (fun H locs h_x2 hz oq hS => ?_)
  have h_h0 := h_h0.k (oq _ n_h0_x2)
  have h_x1 := h_x1.k (oq _ n_x1_x2)
  refine lv_dup hx hb dX1_init_29 rfl ?_
  refine lv_iconst (v := 3) hx hb dX1_init_30 (by decide) ?_
  refine lv_iconst (v := (nI 3)) hx hb dX1_init_31 (by decide) ?_
  refine stI hF hK h_x2 hS (Or.inr hA_x2) 3 (by decide) (by decide) rfl dX1_init_32 (fun H locs h_x2 hz oq hS => ?_)
  have h_h0 := h_h0.k (oq _ n_h0_x2)
  have h_x1 := h_x1.k (oq _ n_x1_x2)
  refine lv_dup hx hb dX1_init_33 rfl ?_
  refine lv_iconst (v := 4) hx hb dX1_init_34 (by decide) ?_
  refine lv_iconst (v := (nI 4)) hx hb dX1_init_35 (by decide) ?_
  refine stI hF hK h_x2 hS (Or.inr hA_x2) 4 (by decide) (by decide) rfl dX1_init_36 (fun H locs h_x2 hz oq hS => ?_)
  have h_h0 := h_h0.k (oq _ n_h0_x2)
  have h_x1 := h_x1.k (oq _ n_x1_x2)
  refine lv_dup hx hb dX1_init_37 rfl ?_
  refine lv_iconst (v := 5) hx hb dX1_init_38 (by decide) ?_
  refine lv_iconst (v := (nI 5)) hx hb dX1_init_39 (by decide) ?_
  refine stI hF hK h_x2 hS (Or.inr hA_x2) 5 (by decide) (by decide) rfl dX1_init_40 (fun H locs h_x2 hz oq hS => ?_)
  have h_h0 := h_h0.k (oq _ n_h0_x2)
  have h_x1 := h_x1.k (oq _ n_x1_x2)
  refine lv_dup hx hb dX1_init_41 rfl ?_
  refine lv_bipush (v := 6) hx hb dX1_init_42 (by decide) ?_
  refine lv_bipush (v := (nI 6)) hx hb dX1_init_44 (by decide) ?_
  refine stI hF hK h_x2 hS (Or.inr hA_x2) 6 (by decide) (by decide) rfl dX1_init_46 (fun H locs h_x2 hz oq hS => ?_)
  have h_h0 := h_h0.k (oq _ n_h0_x2)
  have h_x1 := h_x1.k (oq _ n_x1_x2)
  refine lv_dup hx hb dX1_init_47 rfl ?_
  refine lv_bipush (v := 7) hx hb dX1_init_48 (by decide) ?_
  refine lv_bipush (v := (nI 7)) hx hb dX1_init_50 (by decide) ?_
  refine stI hF hK h_x2 hS (Or.inr hA_x2) 7 (by decide) (by decide) rfl dX1_init_52 (fun H locs h_x2 hz oq hS => ?_)
  have h_h0 := h_h0.k (oq _ n_h0_x2)
  have h_x1 := h_x1.k (oq _ n_x1_x2)
  refine lv_dup hx hb dX1_init_53 rfl ?_
  refine lv_bipush (v := 8) hx hb dX1_init_54 (by decide) ?_
  refine lv_bipush (v := (nI 8)) hx hb dX1_init_56 (by decide) ?_
  refine stI hF hK h_x2 hS (Or.inr hA_x2) 8 (by decide) (by decide) rfl dX1_init_58 (fun H locs h_x2 hz oq hS => ?_)
  have h_h0 := h_h0.k (oq _ n_h0_x2)
  have h_x1 := h_x1.k (oq _ n_x1_x2)
  refine lv_dup hx hb dX1_init_59 rfl ?_
  refine lv_bipush (v := 9) hx hb dX1_init_60 (by decide) ?_
  refine lv_bipush (v := (nI 9)) hx hb dX1_init_62 (by decide) ?_
  refine stI hF hK h_x2 hS (Or.inr hA_x2) 9 (by decide) (by decide) rfl dX1_init_64 (fun H locs h_x2 hz oq hS => ?_)
  have h_h0 := h_h0.k (oq _ n_h0_x2)
  have h_x1 := h_x1.k (oq _ n_x1_x2)
  refine putS hF hK h_h0 hS (Or.inl rfl) 1 (by decide) rfl (ty := .array .int) (by decide +kernel) rfl rfl (by show _ < 3; decide) kf_RX1_15 dX1_init_65 (fun H locs h_h0 hz oq hS => ?_)
  have h_h0 : OB D h0 [.ref x1, .ref x2, .int 0] H := h_h0
  have h_x1 := h_x1.k (oq _ n_x1_h0)
  have h_x2 := h_x2.k (oq _ n_x2_h0)
  refine lv_aload_n hx hb dX1_init_68 rfl (lv_at hl 0 rfl) ?_
  refine lv_iconst (v := 2) hx hb dX1_init_69 (by decide) ?_
  refine putS hF hK h_h0 hS (Or.inl rfl) 2 (by decide) rfl (ty := .int) (by decide +kernel) rfl rfl (by show _ < 3; decide) kf_RX1_18 dX1_init_70 (fun H locs h_h0 hz oq hS => ?_)
  have h_h0 : OB D h0 [.ref x1, .ref x2, .int 2] H := h_h0
  have h_x1 := h_x1.k (oq _ n_x1_h0)
  have h_x2 := h_x2.k (oq _ n_x2_h0)
  exact W.vret hx hb hr (fun t ht hW => ⟨⟨(x2, x1), rfl, ⟨hA_x2, hA_x1⟩, wEnd S0.mv (S0.new h_h0 (words_c h_x2) h_x1 hK n_h0_x2 n_h0_x1 n_x1_x2) ht hW⟩, hS.F ht⟩) hS.2.2 dX1_init_73
set_option maxHeartbeats 4000000 in
set_option maxRecDepth 100000 in
theorem mX1_with {v0 : Nat} {g0 : Nat → Int32} (hn : n < 16) : Met l yX1_with (wm yX1_with cX1_with 4 (some (.array (.array .int)))) ({ frames := 0, cells := 1, slots := 17, locals := 0 } : Room) (va_Pc [.ref lg, .ref v0] (fun U => XWi D cyI cyA sm wd lg a n st wv r v0 g0 sz U U.heap)) (va_Qr (fun (_ : Unit) => True) (fun u z U => YQ cyA (n + 1) (va_up a n v0) sz u z U U.heap) (fun _ => False)) 1 17 (fun _ => False) := by
  refine mt (by decide) (Nat.le_of_ble_eq_true rfl) ?_
  intro p ev s m below meth c ls hF hr hlocks hnm hX hl
  have hF : CallFix p m c cX1_with 4 s _ wA RX1 := hF
  obtain ⟨hx, hb, hml, hown, hts⟩ := id hF
  have hX : XWi D cyI cyA sm wd lg a n st wv r v0 g0 sz s s.heap := hX
  have hl : lv_has ls 4 [(0, .ref lg), (1, .ref v0)] := hl
  have hS : va_S (fun q => s.heap.size ≤ q) s.heap s.heap [] := va_S.rf
  obtain ⟨hX0, h_v0, hsz⟩ := hX
  subst hsz
  have hX := hX0
  have hn16 := hX.n16
  refine lv_aload_n hx hb dX1_with_0 rfl (lv_at hl 0 rfl) ?_
  refine S0.len hF hX dX1_with_1 ?_
  refine lv_iconst (v := 1) hx hb dX1_with_2 (by decide) ?_
  refine lv_iadd hx hb dX1_with_3 ?_
  refine topI (show ((nI n) + 1) = nI (n + 1) from nI_1 n) ?_
  refine newQr hF hX.2.1 hS (n + 1) (by omega) rfl kc_RX1_7 (by show _ ≤ 1; omega) (by show _ ≤ 17; omega) dX1_with_4 (fun x1 H hq h_x1 hz ho hS1 => ?_)
  have n_v0_x1 : v0 ≠ x1 := by rw [hq]; exact Nat.ne_of_lt h_v0.lt
  have n_x1_v0 := Ne.symm n_v0_x1
  have hA_x1 : s.heap.size ≤ x1 := by rw [hq]; exact hS.1
  have hS := hS1
  have hX := hX0.up hS
  have h_v0 := h_v0.upK ho
  refine lv_astore_n (lv' := [(2, .ref x1), (0, .ref lg), (1, .ref v0)]) hx hb dX1_with_7 rfl hl (by decide) rfl (fun ls hl => ?_)
  refine lv_iconst (v := 0) hx hb dX1_with_8 (by decide) ?_
  refine lv_istore_n (lv' := [(3, .int 0), (2, .ref x1), (0, .ref lg), (1, .ref v0)]) hx hb dX1_with_9 rfl hl (by decide) rfl (fun ls hl => ?_)
  refine W.widen (k := 1) (n := n + 1) (by omega) (by omega) ?_
  refine lpC (σ := Nat) (τ := Nat → Option Nat) (fun j f8 ls H locs => (j ≤ n ∧ ∀ k : Nat, k < j → f8 k = some (a k)) ∧ (S0 D cyI cyA sm wd lg a n st wv r s H) ∧ (IA cyI v0 6 g0 H) ∧ (QA cyA x1 (n + 1) f8 H) ∧ va_S (fun q => s.heap.size ≤ q) s.heap H locs ∧ lv_has ls 4 [(0, .ref lg), (1, .ref v0), (2, .ref x1), (3, .int (nI j))]) (fun j f8 => n - j) (fun j => 1) (fun j => n + 1) (fun j f8 ls H locs hI ih => ?_) (0) (fun _ => none) ⟨⟨Nat.zero_le _, fun k h => absurd h (Nat.not_lt_zero _)⟩, hX, h_v0, h_x1, hS, lv_sub hl [2, 3, 1, 0] rfl⟩
  obtain ⟨hj, hX, h_v0, h_x1, hS, hl⟩ := hI
  refine lv_iload_n hx hb dX1_with_10 rfl (lv_at hl 3 rfl) ?_
  refine lv_aload_n hx hb dX1_with_11 rfl (lv_at hl 0 rfl) ?_
  refine S0.len hF hX dX1_with_12 ?_
  refine lv_icmp_ge (tgt := 28) hx hb dX1_with_13 (by decide) (fun c13 => ?_) (fun c13 => ?_)
  · have c13n : n ≤ j := (nI_leI (a := n) (b := j) (by omega) (by omega)).mp c13
    obtain rfl : n = j := by omega
    refine lv_aload_n hx hb dX1_with_28 rfl (lv_at hl 2 rfl) ?_
    refine lv_aload_n hx hb dX1_with_29 rfl (lv_at hl 0 rfl) ?_
    refine S0.len hF hX dX1_with_30 ?_
    refine lv_aload_n hx hb dX1_with_31 rfl (lv_at hl 1 rfl) ?_
    refine stQ hF hX.2.1 h_x1 h_v0 hS hA_x1 n (by omega) (by omega) rfl dX1_with_32 (fun H locs h_x1 hz oq hS => ?_)
    have hX := hX0.up hS
    have h_v0 := h_v0.k (oq _ n_v0_x1)
    refine lv_aload_n hx hb dX1_with_33 rfl (lv_at hl 2 rfl) ?_
    refine W.widen (k := 1) (n := 17) (by omega) (by omega) ?_
    refine va_forget (fun q hq => hS.2.2 q hq) ?_
    exact W.aret hx hb hr (Or.inr ⟨_, rfl⟩) (Or.inr ⟨_, rfl⟩) (fun t ht hW => ⟨⟨(), _, rfl, trivial, ⟨by show QA cyA x1 _ _ t.heap; rw [ht]; exact h_x1.c (f8_end hj.2), hA_x1⟩⟩, sF hS ht⟩) (fun q hq => absurd hq List.not_mem_nil) dX1_with_34
  · have c13n : ¬ n ≤ j := fun h9 => c13 ((nI_leI (a := n) (b := j) (by omega) (by omega)).mpr h9)
    refine lv_aload_n hx hb dX1_with_16 rfl (lv_at hl 2 rfl) ?_
    refine lv_iload_n hx hb dX1_with_17 rfl (lv_at hl 3 rfl) ?_
    refine lv_aload_n hx hb dX1_with_18 rfl (lv_at hl 0 rfl) ?_
    refine lv_iload_n hx hb dX1_with_19 rfl (lv_at hl 3 rfl) ?_
    refine S0.ldA hF hX j (by omega) rfl dX1_with_20 ?_
    refine stQ hF hX.2.1 h_x1 (hX.1.2.2.2 j (by omega)) hS hA_x1 j (by omega) (by omega) rfl dX1_with_21 (fun H locs h_x1 hz oq hS => ?_)
    have hX := hX0.up hS
    have h_v0 := h_v0.k (oq _ n_v0_x1)
    refine lv_iinc (v := (nI (j + 1))) (lv' := [(3, .int (nI (j + 1))), (0, .ref lg), (1, .ref v0), (2, .ref x1)]) hx hb dX1_with_22 hl (k := 3) rfl (nI_1 _) (by decide) rfl (fun ls hl => ?_)
    refine lv_goto (tgt := 10) hx hb dX1_with_25 (by decide) ?_
    refine W.widen (k := 1) (n := n + 1) (by omega) (by omega) ?_
    exact ih (j + 1) (va_up f8 j (some (a j))) ls H locs (by omega) ⟨⟨by omega, f8_up hj.2⟩, hX, h_v0, h_x1, hS, by exact lv_sub hl [1, 2, 3, 0] rfl⟩
set_option maxHeartbeats 4000000 in
set_option maxRecDepth 100000 in
theorem mX1_less {M : Nat} : Met l yX1_less (wm yX1_less cX1_less 3 (some (.array (.array .int)))) ({ frames := 0, cells := 1, slots := 16, locals := 0 } : Room) (va_Pc [.ref lg] (fun U => XSz D cyI cyA sm wd lg a (M + 1) st wv r sz U U.heap)) (va_Qr (fun (_ : Unit) => True) (fun u z U => YQ cyA M a sz u z U U.heap) (fun _ => False)) 1 16 (fun _ => False) := by
  refine mt (by decide) (Nat.le_of_ble_eq_true rfl) ?_
  intro p ev s m below meth c ls hF hr hlocks hnm hX hl
  have hF : CallFix p m c cX1_less 3 s _ wA RX1 := hF
  obtain ⟨hx, hb, hml, hown, hts⟩ := id hF
  have hX : XSz D cyI cyA sm wd lg a (M + 1) st wv r sz s s.heap := hX
  have hl : lv_has ls 3 [(0, .ref lg)] := hl
  have hS : va_S (fun q => s.heap.size ≤ q) s.heap s.heap [] := va_S.rf
  obtain ⟨hX0, hsz⟩ := hX
  subst hsz
  have hX := hX0
  have hn16 := hX.n16
  refine lv_aload_n hx hb dX1_less_0 rfl (lv_at hl 0 rfl) ?_
  refine S0.len hF hX dX1_less_1 ?_
  refine lv_iconst (v := 1) hx hb dX1_less_2 (by decide) ?_
  refine lv_isub hx hb dX1_less_3 ?_
  refine topI (show ((nI (M + 1)) - 1) = nI M from nI_pred M) ?_
  refine newQr hF hX.2.1 hS M (by omega) rfl kc_RX1_7 (by show _ ≤ 1; omega) (by show _ ≤ 16; omega) dX1_less_4 (fun x1 H hq h_x1 hz ho hS1 => ?_)
  have hA_x1 : s.heap.size ≤ x1 := by rw [hq]; exact hS.1
  have hS := hS1
  have hX := hX0.up hS
  refine lv_astore_n (lv' := [(1, .ref x1), (0, .ref lg)]) hx hb dX1_less_7 rfl hl (by decide) rfl (fun ls hl => ?_)
  refine lv_iconst (v := 0) hx hb dX1_less_8 (by decide) ?_
  refine lv_istore_n (lv' := [(2, .int 0), (1, .ref x1), (0, .ref lg)]) hx hb dX1_less_9 rfl hl (by decide) rfl (fun ls hl => ?_)
  refine W.widen (k := 1) (n := M) (by omega) (by omega) ?_
  refine lpC (σ := Nat) (τ := Nat → Option Nat) (fun j f8 ls H locs => (j ≤ M ∧ ∀ k : Nat, k < j → f8 k = some (a k)) ∧ (S0 D cyI cyA sm wd lg a (M + 1) st wv r s H) ∧ (QA cyA x1 M f8 H) ∧ va_S (fun q => s.heap.size ≤ q) s.heap H locs ∧ lv_has ls 3 [(0, .ref lg), (1, .ref x1), (2, .int (nI j))]) (fun j f8 => M - j) (fun j => 1) (fun j => M) (fun j f8 ls H locs hI ih => ?_) (0) (fun _ => none) ⟨⟨Nat.zero_le _, fun k h => absurd h (Nat.not_lt_zero _)⟩, hX, h_x1, hS, lv_sub hl [2, 1, 0] rfl⟩
  obtain ⟨hj, hX, h_x1, hS, hl⟩ := hI
  refine lv_iload_n hx hb dX1_less_10 rfl (lv_at hl 2 rfl) ?_
  refine lv_aload_n hx hb dX1_less_11 rfl (lv_at hl 1 rfl) ?_
  refine lenQ hF hX.2.1 h_x1 dX1_less_12 ?_
  refine lv_icmp_ge (tgt := 28) hx hb dX1_less_13 (by decide) (fun c13 => ?_) (fun c13 => ?_)
  · have c13n : M ≤ j := (nI_leI (a := M) (b := j) (by omega) (by omega)).mp c13
    obtain rfl : M = j := by omega
    refine lv_aload_n hx hb dX1_less_28 rfl (lv_at hl 1 rfl) ?_
    refine W.widen (k := 1) (n := 16) (by omega) (by omega) ?_
    refine va_forget (fun q hq => hS.2.2 q hq) ?_
    exact W.aret hx hb hr (Or.inr ⟨_, rfl⟩) (Or.inr ⟨_, rfl⟩) (fun t ht hW => ⟨⟨(), _, rfl, trivial, ⟨by show QA cyA x1 _ _ t.heap; rw [ht]; exact h_x1.c (fun k hk => hj.2 k hk), hA_x1⟩⟩, sF hS ht⟩) (fun q hq => absurd hq List.not_mem_nil) dX1_less_29
  · have c13n : ¬ M ≤ j := fun h9 => c13 ((nI_leI (a := M) (b := j) (by omega) (by omega)).mpr h9)
    refine lv_aload_n hx hb dX1_less_16 rfl (lv_at hl 1 rfl) ?_
    refine lv_iload_n hx hb dX1_less_17 rfl (lv_at hl 2 rfl) ?_
    refine lv_aload_n hx hb dX1_less_18 rfl (lv_at hl 0 rfl) ?_
    refine lv_iload_n hx hb dX1_less_19 rfl (lv_at hl 2 rfl) ?_
    refine S0.ldA hF hX j (by omega) rfl dX1_less_20 ?_
    refine stQ hF hX.2.1 h_x1 (hX.1.2.2.2 j (by omega)) hS hA_x1 j (by omega) (by omega) rfl dX1_less_21 (fun H locs h_x1 hz oq hS => ?_)
    have hX := hX0.up hS
    refine lv_iinc (v := (nI (j + 1))) (lv' := [(2, .int (nI (j + 1))), (0, .ref lg), (1, .ref x1)]) hx hb dX1_less_22 hl (k := 2) rfl (nI_1 _) (by decide) rfl (fun ls hl => ?_)
    refine lv_goto (tgt := 10) hx hb dX1_less_25 (by decide) ?_
    refine W.widen (k := 1) (n := M) (by omega) (by omega) ?_
    exact ih (j + 1) (va_up f8 j (some (a j))) ls H locs (by omega) ⟨⟨by omega, f8_up hj.2⟩, hX, h_x1, hS, by exact lv_sub hl [1, 2, 0] rfl⟩
end P23
end
section
section R24
variable {sm wd lg n x z B : Nat} {a : Nat → Nat} {st by1 : Int32} {r r2 : Nat → Nat → Int32} {v : Nat → Nat → Int32} {mk : Nat → Bool} {N k : Nat} {b : Bool}
theorem sownG (h : ∀ q : Nat, sown sm wd lg a n q → B ≤ q) (hx : B ≤ x) (hz : B ≤ z) : ∀ q : Nat, sown sm wd z (va_up a n x) (n + 1) q → B ≤ q := by
  intro q hq
  rcases hq with e | e | e | ⟨k, hk, e⟩
  · exact h q (Or.inl e)
  · exact h q (Or.inr (Or.inl e))
  · rw [e]; exact hz
  · by_cases hkn : k = n
    · subst hkn
      rw [e, up_n]; exact hx
    · rw [up_lt _ _ (by omega)] at e
      exact h q (Or.inr (Or.inr (Or.inr ⟨k, by omega, e⟩)))
theorem rowsG (h : ∀ k : Nat, k < n → ∀ i : Nat, i < 6 → r2 k i = r k i) : ∀ k : Nat, k < n + 1 → ∀ i : Nat, i < 6 → va_up r2 n (six (r n 0) (r n 1) (r n 2) (r n 3) (r n 4) (r n 5)) k i = r k i := by
  intro k hk i hi
  by_cases hkn : k = n
  · subst hkn
    rw [show va_up r2 k (six (r k 0) (r k 1) (r k 2) (r k 3) (r k 4) (r k 5)) k = six (r k 0) (r k 1) (r k 2) (r k 3) (r k 4) (r k 5) by simp [va_up]]
    exact six_r i hi
  · rw [show va_up r2 n (six (r n 0) (r n 1) (r n 2) (r n 3) (r n 4) (r n 5)) k = r2 k by simp [va_up, hkn]]
    exact h k (by omega) i hi
set_option maxRecDepth 100000 in
theorem fin2 : ∀ a, a < 25 → ∀ e, e < 7 → ∀ s, s < 4 → (if nb (nI a) ((nI e - 3) * nI (s + 1)) = nI a + (nI e - 3) * nI (s + 1) then (0 : Int32) else 1) = b2i (lv9 (nI a + (nI e - 3) * nI (s + 1))) := by decide +kernel
theorem fold_if (h : Ok N st v) (k : Nat) : (if nt (v 0) st (k + 1) = nt (v 0) st k + v 0 k * st then (0 : Int32) else 1) = b2i (fold1 v st k) := by
  obtain ⟨s, hs, e⟩ := h.2.1
  obtain ⟨e9, he, ev⟩ := h.2.2.1 k
  subst e
  obtain ⟨a, ha, en⟩ := nt_rng h hs k
  have h9 := fin2 a ha e9 he s hs
  unfold fold1
  rw [show nt (v 0) (nI (s + 1)) (k + 1) = nb (nt (v 0) (nI (s + 1)) k) (v 0 k * nI (s + 1)) from rfl, en, ev]
  exact h9
theorem sg_row (h : Ok N st v) (hr : ∀ i : Nat, i < 3 → r k i = v i k) (h5 : (b = true ∧ mk k = false) ∨ (b = false ∧ r k 5 = b2i (mk k))) : ∀ i : Nat, i < 6 → sgR (v 0) st b r k i = rowV v st mk k i := by
  intro i hi
  match i, hi with
  | 0, _ => exact hr 0 (by decide)
  | 1, _ => exact hr 1 (by decide)
  | 2, _ => exact hr 2 (by decide)
  | 3, _ => rfl
  | 4, _ => exact fold_if h k
  | 5, _ =>
    rcases h5 with ⟨e, h9⟩ | ⟨e, h9⟩ <;> subst e
    · show (0 : Int32) = b2i (mk k)
      rw [h9]; rfl
    · exact h9
theorem open_unm : ctB (amb v by1 (fun _ => false)) N = unm v (v 3) by1 N := by
  have e : amb v by1 (fun _ => false) = umP v (v 3) by1 := by
    funext k
    unfold amb
    simp only [Bool.not_false, Bool.true_and]
    rfl
  unfold unm
  rw [e]
theorem y8_up {f g : Nat → Int32} {j : Nat} (h : ∀ i : Nat, i < j → f i = g i) : ∀ i : Nat, i < j + 1 → upd f j (g j) i = g i := by
  intro i hi
  by_cases hij : i = j
  · subst hij; simp [upd]
  · simp only [upd, if_neg hij]; exact h i (by omega)
end R24

section P24
variable {l : Launch} {D : va_G} {cyI cyZ cyA : ClassId} {q : Nat → Nat} {sm wd lg n N : Nat} {a : Nat → Nat} {st : Int32} {wv : Nat → Int32} {r : Nat → Nat → Int32} {v w : Nat → Nat → Int32} {mk : Nat → Bool}
variable {sz : Nat}
set_option maxHeartbeats 4000000 in
set_option maxRecDepth 100000 in
theorem mX1_copy  : Met l yX1_copy (wm yX1_copy cX1_copy 6 (some (.object "MapSongsLaw$Sim"))) ({ frames := 2, cells := 40, slots := 400, locals := 32 } : Room) (va_Pc [.ref sm] (fun U => XSz D cyI cyA sm wd lg a n st wv r sz U U.heap)) (va_Qr (fun (_ : Nat × Nat × (Nat → Nat)) => True) (fun u z U => YCo D cyI cyA n st wv r sz u z U U.heap) (fun _ => False)) 40 400 (fun _ => False) := by
  refine mt (by decide) (Nat.le_of_ble_eq_true rfl) ?_
  intro p ev s m below meth c ls hF hr hlocks hnm hX hl
  have hF : CallFix p m c cX1_copy 6 s _ wA RX1 := hF
  obtain ⟨hx, hb, hml, hown, hts⟩ := id hF
  have hX : XSz D cyI cyA sm wd lg a n st wv r sz s s.heap := hX
  have hl : lv_has ls 6 [(0, .ref sm)] := hl
  have hS : va_S (fun q => s.heap.size ≤ q) s.heap s.heap [] := va_S.rf
  obtain ⟨hX0, hsz⟩ := hX
  subst hsz
  have hX := hX0
  have hn16 := hX.n16
  refine newS hF hX.2.1 hS kc_RX1_10 (by show _ ≤ 40; omega) (by show _ ≤ 400; omega) dX1_copy_0 (fun x1 H hq h_x1 hz ho hS1 => ?_)
  have hA_x1 : s.heap.size ≤ x1 := by rw [hq]; exact hS.1
  have hS := hS1
  have hX := hX0.up hS
  refine lv_dup hx hb dX1_copy_3 rfl ?_
  have hsz1 := hS.1
  refine wIv (mc := 2) (ms := 10) (b := x1) (As := []) (rest := [.ref x1]) hF (mX1_init (D := D) (cyI := cyI) (cyA := cyA) (h0 := x1) (sz := _)) XIni.mv (fun _ => S0.mv) ⟨h_x1, hX.2.1, rfl⟩ cjX1_init kl_RX1_22 ⟨rfl, rfl⟩ ⟨Nat.le_of_ble_eq_true rfl, Nat.le_of_ble_eq_true rfl⟩ rfl hl.1 rfl (Nat.le_of_ble_eq_true rfl) ⟨(by show _ ≤ 40; omega), (by show _ ≤ 400; omega)⟩ hS (fun q _ h => h.elim (fun e => by rw [e]; exact hA_x1) (fun h => Nat.le_trans hS.1 h)) (fun q h => h.elim (fun e => by rw [e]; exact hA_x1) (fun h => Nat.le_trans hS.1 h)) dX1_copy_4 (fun u9 H locs hp9 hN hz hk hS => ?_)
  obtain ⟨wd2, lg2⟩ := u9
  have hN : S0 D cyI cyA x1 wd2 lg2 (fun _ => 0) 0 2 nI (fun _ _ => 0) s H := hN
  have hwd2 : s.heap.size ≤ wd2 := Nat.le_trans hsz1 hp9.1
  have hlg2 : s.heap.size ≤ lg2 := Nat.le_trans hsz1 hp9.2
  have hX := hX0.up hS
  refine lv_astore_n (lv' := [(1, .ref x1), (0, .ref sm)]) hx hb dX1_copy_7 rfl hl (by decide) rfl (fun ls hl => ?_)
  refine lv_aload_n hx hb dX1_copy_8 rfl (lv_at hl 0 rfl) ?_
  refine lv_aload_n hx hb dX1_copy_9 rfl (lv_at hl 1 rfl) ?_
  refine S0.gS hF hX kf_RX1_18 dX1_copy_10 ?_
  refine S0.stS hF hN hS hA_x1 kf_RX1_18 dX1_copy_13 (fun H locs hN hz oq hS => ?_)
  have hX := hX0.up hS
  refine lv_iconst (v := 0) hx hb dX1_copy_16 (by decide) ?_
  refine lv_istore_n (lv' := [(2, .int 0), (1, .ref x1), (0, .ref sm)]) hx hb dX1_copy_17 rfl hl (by decide) rfl (fun ls hl => ?_)
  refine W.widen (k := 3) (n := 13) (by omega) (by omega) ?_
  refine lpC (σ := Nat) (τ := Nat → Int32) (fun j y8 ls H locs => (j ≤ 10 ∧ ∀ i : Nat, i < j → y8 i = wv i) ∧ (S0 D cyI cyA sm wd lg a n st wv r s H) ∧ (S0 D cyI cyA x1 wd2 lg2 (fun _ => 0) 0 st y8 (fun _ _ => 0) s H) ∧ va_S (fun q => s.heap.size ≤ q) s.heap H locs ∧ lv_has ls 6 [(0, .ref sm), (1, .ref x1), (2, .int (nI j))]) (fun j y8 => 10 - j) (fun j => 3) (fun j => 13) (fun j y8 ls H locs hI ih => ?_) (0) nI ⟨⟨Nat.zero_le _, fun k h => absurd h (Nat.not_lt_zero _)⟩, hX, hN, hS, lv_sub hl [2, 1, 0] rfl⟩
  obtain ⟨hj, hX, hN, hS, hl⟩ := hI
  refine lv_iload_n hx hb dX1_copy_18 rfl (lv_at hl 2 rfl) ?_
  refine lv_bipush (v := 10) hx hb dX1_copy_19 (by decide) ?_
  refine lv_icmp_ge (tgt := 42) hx hb dX1_copy_21 (by decide) (fun c21 => ?_) (fun c21 => ?_)
  · have c21n : 10 ≤ j := (nI_leI (a := 10) (b := j) (by omega) (by omega)).mp c21
    have hN := hN.cg (wv2 := wv) (r2 := (fun _ _ => 0)) (fun k hk => hj.2 k (by omega)) (fun _ _ _ _ => rfl)
    have hfr : ∀ q : Nat, sown x1 wd2 lg2 (fun _ => 0) 0 q → s.heap.size ≤ q := fun q h9 => by
      rcases h9 with e | e | e | ⟨k9, hk9, _⟩
      · rw [e]; exact hA_x1
      · rw [e]; exact hwd2
      · rw [e]; exact hlg2
      · exact absurd hk9 (Nat.not_lt_zero _)
    refine lv_aload_n hx hb dX1_copy_42 rfl (lv_at hl 0 rfl) ?_
    refine S0.gL hF hX kf_RX1_9 dX1_copy_43 ?_
    refine lv_astore_n (lv' := [(2, .ref lg), (0, .ref sm), (1, .ref x1)]) hx hb dX1_copy_46 rfl hl (by decide) rfl (fun ls hl => ?_)
    refine lv_aload_n hx hb dX1_copy_47 rfl (lv_at hl 0 rfl) ?_
    refine S0.len hF hX dX1_copy_48 ?_
    refine lv_istore_n (lv' := [(3, .int (nI n)), (2, .ref lg), (0, .ref sm), (1, .ref x1)]) hx hb dX1_copy_49 rfl hl (by decide) rfl (fun ls hl => ?_)
    refine lv_iconst (v := 0) hx hb dX1_copy_50 (by decide) ?_
    refine lv_istore (lv' := [(4, .int 0), (3, .int (nI n)), (2, .ref lg), (0, .ref sm), (1, .ref x1)]) hx hb dX1_copy_51 hl (by decide) rfl (fun ls hl => ?_)
    refine W.widen (k := 3 + 2 * 0) (n := 13 + 23 * 0) (by omega) (by omega) ?_
    refine lpC (σ := Nat) (τ := Nat × (Nat → Nat) × (Nat → Nat → Int32)) (fun k u8 ls H locs => (k ≤ n ∧ (∀ k9 : Nat, k9 < k → ∀ i : Nat, i < 6 → u8.2.2 k9 i = r k9 i) ∧ ∀ q : Nat, sown x1 wd2 u8.1 u8.2.1 k q → s.heap.size ≤ q) ∧ (S0 D cyI cyA sm wd lg a n st wv r s H) ∧ (S0 D cyI cyA x1 wd2 u8.1 u8.2.1 k st wv u8.2.2 s H) ∧ va_S (fun q => s.heap.size ≤ q) s.heap H locs ∧ lv_has ls 6 [(0, .ref sm), (1, .ref x1), (2, .ref lg), (3, .int (nI n)), (4, .int (nI k))]) (fun k u8 => n - k) (fun k => 3 + 2 * k) (fun k => 13 + 23 * k) (fun k u8 ls H locs hI ih2 => ?_) (0) (lg2, (fun _ => 0), (fun _ _ => 0)) ⟨⟨Nat.zero_le _, fun k h => absurd h (Nat.not_lt_zero _), hfr⟩, hX, hN, hS, lv_sub hl [3, 4, 2, 1, 0] rfl⟩
    obtain ⟨hj2, hX, hN, hS, hl⟩ := hI
    refine lv_iload hx hb dX1_copy_53 (lv_at hl 4 rfl) ?_
    refine lv_iload_n hx hb dX1_copy_55 rfl (lv_at hl 3 rfl) ?_
    refine lv_icmp_ge (tgt := 128) hx hb dX1_copy_56 (by decide) (fun c56 => ?_) (fun c56 => ?_)
    · have c56n : n ≤ k := (nI_leI (a := n) (b := k) (by omega) (by omega)).mp c56
      obtain rfl : n = k := by omega
      refine lv_aload_n hx hb dX1_copy_128 rfl (lv_at hl 1 rfl) ?_
      refine W.widen (k := 40) (n := 400) (by omega) (by omega) ?_
      refine va_forget (fun q hq => hS.2.2 q hq) ?_
      exact W.aret hx hb hr (Or.inl ⟨_, rfl⟩) (Or.inr ⟨_, rfl⟩) (fun t ht hW => ⟨⟨(wd2, u8.1, u8.2.1), _, rfl, trivial, ⟨wEnd S0.mv (hN.cg (fun _ _ => rfl) hj2.2.1) ht hW, hj2.2.2⟩⟩, sF hS ht⟩) (fun q hq => absurd hq List.not_mem_nil) dX1_copy_129
    · have c56n : ¬ n ≤ k := fun h9 => c56 ((nI_leI (a := n) (b := k) (by omega) (by omega)).mpr h9)
      refine lv_aload_n hx hb dX1_copy_59 rfl (lv_at hl 2 rfl) ?_
      refine lv_iload hx hb dX1_copy_60 (lv_at hl 4 rfl) ?_
      refine S0.ldA hF hX k (by omega) rfl dX1_copy_62 ?_
      refine lv_astore (lv' := [(5, .ref (a k)), (0, .ref sm), (1, .ref x1), (2, .ref lg), (3, .int (nI n)), (4, .int (nI k))]) hx hb dX1_copy_63 hl (by decide) rfl (fun ls hl => ?_)
      refine lv_aload_n hx hb dX1_copy_65 rfl (lv_at hl 2 rfl) ?_
      refine lv_aload_n hx hb dX1_copy_66 rfl (lv_at hl 2 rfl) ?_
      refine S0.gL hF hN kf_RX1_9 dX1_copy_67 ?_
      refine lv_bipush (v := 6) hx hb dX1_copy_70 (by decide) ?_
      refine newIr hF hX.2.1 hS 6 (by decide) rfl (by show _ ≤ 40; omega) (by show _ ≤ 400; omega) dX1_copy_72 (fun x2 H hq h_x2 hz ho hS1 => ?_)
      have nN_x2 : ∀ q : Nat, sown x1 wd2 u8.1 u8.2.1 k q → q ≠ x2 := fun q h9 => by rw [hq]; exact Nat.ne_of_lt (hN.lt h9)
      have hA_x2 : s.heap.size ≤ x2 := by rw [hq]; exact hS.1
      have hS := hS1
      have hX := hX0.up hS
      have hN := hN.upK ho
      refine lv_dup hx hb dX1_copy_74 rfl ?_
      refine lv_iconst (v := 0) hx hb dX1_copy_75 (by decide) ?_
      refine lv_aload hx hb dX1_copy_76 (lv_at hl 0 rfl) ?_
      refine lv_iconst (v := 0) hx hb dX1_copy_78 (by decide) ?_
      refine S0.ldR hF hX k (by omega) 0 (by decide) rfl dX1_copy_79 ?_
      refine stI hF hX.2.1 h_x2 hS hA_x2 0 (by decide) (by decide) rfl dX1_copy_80 (fun H locs h_x2 hz oq hS => ?_)
      have hX := hX0.up hS
      have hN := hN.kept (fun q h9 => oq q (nN_x2 q h9))
      refine lv_dup hx hb dX1_copy_81 rfl ?_
      refine lv_iconst (v := 1) hx hb dX1_copy_82 (by decide) ?_
      refine lv_aload hx hb dX1_copy_83 (lv_at hl 0 rfl) ?_
      refine lv_iconst (v := 1) hx hb dX1_copy_85 (by decide) ?_
      refine S0.ldR hF hX k (by omega) 1 (by decide) rfl dX1_copy_86 ?_
      refine stI hF hX.2.1 h_x2 hS hA_x2 1 (by decide) (by decide) rfl dX1_copy_87 (fun H locs h_x2 hz oq hS => ?_)
      have hX := hX0.up hS
      have hN := hN.kept (fun q h9 => oq q (nN_x2 q h9))
      refine lv_dup hx hb dX1_copy_88 rfl ?_
      refine lv_iconst (v := 2) hx hb dX1_copy_89 (by decide) ?_
      refine lv_aload hx hb dX1_copy_90 (lv_at hl 0 rfl) ?_
      refine lv_iconst (v := 2) hx hb dX1_copy_92 (by decide) ?_
      refine S0.ldR hF hX k (by omega) 2 (by decide) rfl dX1_copy_93 ?_
      refine stI hF hX.2.1 h_x2 hS hA_x2 2 (by decide) (by decide) rfl dX1_copy_94 (fun H locs h_x2 hz oq hS => ?_)
      have hX := hX0.up hS
      have hN := hN.kept (fun q h9 => oq q (nN_x2 q h9))
      refine lv_dup hx hb dX1_copy_95 rfl ?_
      refine lv_iconst (v := 3) hx hb dX1_copy_96 (by decide) ?_
      refine lv_aload hx hb dX1_copy_97 (lv_at hl 0 rfl) ?_
      refine lv_iconst (v := 3) hx hb dX1_copy_99 (by decide) ?_
      refine S0.ldR hF hX k (by omega) 3 (by decide) rfl dX1_copy_100 ?_
      refine stI hF hX.2.1 h_x2 hS hA_x2 3 (by decide) (by decide) rfl dX1_copy_101 (fun H locs h_x2 hz oq hS => ?_)
      have hX := hX0.up hS
      have hN := hN.kept (fun q h9 => oq q (nN_x2 q h9))
      refine lv_dup hx hb dX1_copy_102 rfl ?_
      refine lv_iconst (v := 4) hx hb dX1_copy_103 (by decide) ?_
      refine lv_aload hx hb dX1_copy_104 (lv_at hl 0 rfl) ?_
      refine lv_iconst (v := 4) hx hb dX1_copy_106 (by decide) ?_
      refine S0.ldR hF hX k (by omega) 4 (by decide) rfl dX1_copy_107 ?_
      refine stI hF hX.2.1 h_x2 hS hA_x2 4 (by decide) (by decide) rfl dX1_copy_108 (fun H locs h_x2 hz oq hS => ?_)
      have hX := hX0.up hS
      have hN := hN.kept (fun q h9 => oq q (nN_x2 q h9))
      refine lv_dup hx hb dX1_copy_109 rfl ?_
      refine lv_iconst (v := 5) hx hb dX1_copy_110 (by decide) ?_
      refine lv_aload hx hb dX1_copy_111 (lv_at hl 0 rfl) ?_
      refine lv_iconst (v := 5) hx hb dX1_copy_113 (by decide) ?_
      refine S0.ldR hF hX k (by omega) 5 (by decide) rfl dX1_copy_114 ?_
      refine stI hF hX.2.1 h_x2 hS hA_x2 5 (by decide) (by decide) rfl dX1_copy_115 (fun H locs h_x2 hz oq hS => ?_)
      have hX := hX0.up hS
      have hN := hN.kept (fun q h9 => oq q (nN_x2 q h9))
      have h_x2 := six_c h_x2
      have hlt9 := fun (q : Nat) (h9 : sown x1 wd2 u8.1 u8.2.1 k q) => hN.lt h9
      have hltx := h_x2.lt
      have hszz := hS.1
      refine wSr (mc := 1) (ms := 17) (As := [.ref u8.1, .ref x2]) (rest := [.ref x1]) hF (mX1_with (v0 := x2) (g0 := six (r k 0) (r k 1) (r k 2) (r k 3) (r k 4) (r k 5)) (show k < 16 by omega)) XWi.mv (fun _ _ => YQ.mv) ⟨hN, h_x2, rfl⟩ jyX1_with kl_RX1_23 ⟨rfl, rfl⟩ ⟨Nat.le_of_ble_eq_true rfl, Nat.le_of_ble_eq_true rfl⟩ rfl hl.1 rfl (Nat.le_of_ble_eq_true rfl) ⟨by show _ + 1 ≤ 40; omega, by show _ + 17 ≤ 400; omega⟩ hS (fun _ _ h => h.elim) (fun _ h => h.elim) dX1_copy_116 (fun u9 x3 H locs hp9 hB9 hz hk hS => ?_)
      have ho : ∀ q : Nat, q < _ → H[q]? = _ := fun q h9 => hk q h9 (fun h => h)
      have hX := hX0.up hS
      have hN := hN.upK ho
      have h_x2 := h_x2.upK ho
      have hnz : ∀ q : Nat, sown x1 wd2 u8.1 u8.2.1 k q → q ≠ x3 := fun q h9 => Nat.ne_of_lt (Nat.lt_of_lt_of_le (hlt9 q h9) hB9.2)
      have hnx : x2 ≠ x3 := Nat.ne_of_lt (Nat.lt_of_lt_of_le hltx hB9.2)
      have hAz : s.heap.size ≤ x3 := Nat.le_trans hszz hB9.2
      refine S0.stG hF hN hS hA_x1 h_x2 hB9.1 nN_x2 hnz hnx (by omega) kf_RX1_9 dX1_copy_119 (fun H locs hN hz oq hS => ?_)
      have hX := hX0.up hS
      refine lv_iinc (v := (nI (k + 1))) (lv' := [(4, .int (nI (k + 1))), (5, .ref (a k)), (0, .ref sm), (1, .ref x1), (2, .ref lg), (3, .int (nI n))]) hx hb dX1_copy_122 hl (k := 5) rfl (nI_1 _) (by decide) rfl (fun ls hl => ?_)
      refine lv_goto (tgt := 53) hx hb dX1_copy_125 (by decide) ?_
      refine W.widen (k := 3 + 2 * (k + 1)) (n := 13 + 23 * (k + 1)) (by omega) (by omega) ?_
      exact ih2 (k + 1) (x3, (va_up u8.2.1 k x2), (va_up u8.2.2 k (six (r k 0) (r k 1) (r k 2) (r k 3) (r k 4) (r k 5)))) ls H locs (by omega) ⟨⟨by omega, rowsG hj2.2.1, sownG hj2.2.2 hA_x2 hAz⟩, hX, hN, hS, by exact lv_sub hl [2, 3, 4, 5, 0] rfl⟩
  · have c21n : ¬ 10 ≤ j := fun h9 => c21 ((nI_leI (a := 10) (b := j) (by omega) (by omega)).mpr h9)
    refine lv_aload_n hx hb dX1_copy_24 rfl (lv_at hl 1 rfl) ?_
    refine S0.gW hF hN kf_RX1_15 dX1_copy_25 ?_
    refine lv_iload_n hx hb dX1_copy_28 rfl (lv_at hl 2 rfl) ?_
    refine lv_aload_n hx hb dX1_copy_29 rfl (lv_at hl 0 rfl) ?_
    refine S0.gW hF hX kf_RX1_15 dX1_copy_30 ?_
    refine lv_iload_n hx hb dX1_copy_33 rfl (lv_at hl 2 rfl) ?_
    refine S0.ldW hF hX j (by omega) rfl dX1_copy_34 ?_
    refine S0.stW hF hN hS hwd2 j (by omega) rfl dX1_copy_35 (fun H locs hN hz oq hS => ?_)
    have hX := hX0.up hS
    refine lv_iinc (v := (nI (j + 1))) (lv' := [(2, .int (nI (j + 1))), (0, .ref sm), (1, .ref x1)]) hx hb dX1_copy_36 hl (k := 2) rfl (nI_1 _) (by decide) rfl (fun ls hl => ?_)
    refine lv_goto (tgt := 18) hx hb dX1_copy_39 (by decide) ?_
    refine W.widen (k := 3) (n := 13) (by omega) (by omega) ?_
    exact ih (j + 1) (upd y8 j (wv j)) ls H locs (by omega) ⟨⟨by omega, y8_up hj.2⟩, hX, hN, hS, by exact lv_sub hl [1, 2, 0] rfl⟩
set_option maxHeartbeats 4000000 in
set_option maxRecDepth 100000 in
theorem mX1_openBy (hok : Ok N st v) (y : Nat) (hy : y < 4) : Met l yX1_openBy (wm yX1_openBy cX1_openBy 3 (some .int)) ({ frames := 4, cells := 56, slots := 432, locals := 89 } : Room) (va_Pc [.ref sm, .int (nI (y + 1))] (fun U => S0 D cyI cyA sm wd lg a N st (v 3) (rowV v st mk) U U.heap)) (va_Qi (fun r9 (_ : Unit) => r9 = unm v (v 3) (nI (y + 1)) N) (fun u U => (fun (_ : Unit) => (fun _ _ => True : State → Heap → Prop)) u U U.heap) (fun _ => False)) 56 432 (fun _ => False) := by
  refine mt (by decide) (Nat.le_of_ble_eq_true rfl) ?_
  intro p ev s m below meth c ls hF hr hlocks hnm hX hl
  have hF : CallFix p m c cX1_openBy 3 s _ wA RX1 := hF
  obtain ⟨hx, hb, hml, hown, hts⟩ := id hF
  have hX : S0 D cyI cyA sm wd lg a N st (v 3) (rowV v st mk) s s.heap := hX
  have hl : lv_has ls 3 [(0, .ref sm), (1, .int (nI (y + 1)))] := hl
  have hS : va_S (fun q => s.heap.size ≤ q) s.heap s.heap [] := va_S.rf
  have hX0 := hX
  have hn16 := hX.n16
  have hok2 : Ok N (nI (y + 1)) v := ⟨hok.1, ⟨y, hy, rfl⟩, hok.2.2⟩
  refine lv_aload_n hx hb dX1_openBy_0 rfl (lv_at hl 0 rfl) ?_
  refine wVr (mc := 40) (ms := 400) (As := []) (rest := []) hF (mX1_copy (sz := s.heap.size)) XSz.mv (fun _ _ => YCo.mv) ⟨hX, rfl⟩ hX.rc jyX1_copy kl_RX1_45 ⟨rfl, rfl⟩ ⟨Nat.le_of_ble_eq_true rfl, Nat.le_of_ble_eq_true rfl⟩ rfl hl.1 rfl (Nat.le_of_ble_eq_true rfl) ⟨by show _ + 40 ≤ 56; omega, by show _ + 400 ≤ 432; omega⟩ hS (fun _ _ h => h.elim) (fun _ h => h.elim) dX1_openBy_1 (fun u9 x1 H locs hp9 hB9 hz hk hS => ?_)
  have ho : ∀ q : Nat, q < _ → H[q]? = _ := fun q h9 => hk q h9 (fun h => h)
  have hX := hX0.up hS
  have hN := hB9.1
  have hfr := hB9.2
  refine lv_astore_n (lv' := [(2, .ref x1), (0, .ref sm), (1, .int (nI (y + 1)))]) hx hb dX1_openBy_4 rfl hl (by decide) rfl (fun ls hl => ?_)
  refine lv_aload_n hx hb dX1_openBy_5 rfl (lv_at hl 0 rfl) ?_
  refine lv_iload_n hx hb dX1_openBy_6 rfl (lv_at hl 2 rfl) ?_
  refine S0.stS hF hN hS (hfr _ (Or.inl rfl)) kf_RX1_18 dX1_openBy_7 (fun H locs hN hz oq hS => ?_)
  have hX := hX0.up hS
  refine lv_aload_n hx hb dX1_openBy_10 rfl (lv_at hl 0 rfl) ?_
  refine lv_iconst (v := (b2i true)) hx hb dX1_openBy_11 (by decide) ?_
  refine wVv (mc := 0) (ms := 0) (As := [.int (b2i true)]) (rest := []) hF (mX1_sing (v 0) (fun _ _ => rfl) true) S0.mv (fun _ => S0.mv) hN hN.rc jyX1_sing kl_RX1_49 ⟨rfl, rfl⟩ ⟨Nat.le_of_ble_eq_true rfl, Nat.le_of_ble_eq_true rfl⟩ rfl hl.1 rfl (Nat.le_of_ble_eq_true rfl) ⟨by show _ + 0 ≤ 56; omega, by show _ + 0 ≤ 432; omega⟩ hS (fun q _ h => hfr q (Or.inr (Or.inr (Or.inr h)))) (fun q h => hfr q (Or.inr (Or.inr (Or.inr h)))) dX1_openBy_12 (fun u8 H locs hp9 hB9 hz hk hS => ?_)
  have hN := S0.cg hB9 (wv2 := v 3) (r2 := rowV v (nI (y + 1)) (fun _ => false)) (fun _ _ => rfl) (fun k hk => sg_row hok2 (fun i hi => by match i, hi with | 0, _ => rfl | 1, _ => rfl | 2, _ => rfl) (Or.inl ⟨rfl, rfl⟩))
  have hX := hX0.up hS
  refine lv_aload_n hx hb dX1_openBy_15 rfl (lv_at hl 0 rfl) ?_
  refine wVi (mc := 16) (ms := 32) (As := []) (rest := []) hF (mX1_open hok2) S0.mv (fun _ => Mv.const) hN hN.rc jyX1_open kl_RX1_53 ⟨rfl, rfl⟩ ⟨Nat.le_of_ble_eq_true rfl, Nat.le_of_ble_eq_true rfl⟩ rfl hl.1 rfl (Nat.le_of_ble_eq_true rfl) ⟨by show _ + 16 ≤ 56; omega, by show _ + 32 ≤ 432; omega⟩ hS (fun _ _ h => h.elim) (fun _ h => h.elim) dX1_openBy_16 (fun r9 u9 H locs hp9 hB9 hz hk hS => ?_)
  have ho : ∀ q : Nat, q < _ → H[q]? = _ := fun q h9 => hk q h9 (fun h => h)
  have hX := hX0.up hS
  have hN := hN.upK ho
  subst hp9
  refine W.widen (k := 56) (n := 432) (by omega) (by omega) ?_
  refine va_forget (fun q hq => hS.2.2 q hq) ?_
  exact W.iret hx hb hr (fun t ht hW => ⟨⟨_, (), rfl, open_unm, trivial⟩, sF hS ht⟩) (fun q hq => absurd hq List.not_mem_nil) dX1_openBy_19
end P24
end
section
/-! THROWS: what a throw needs of the state, the start of a method that throws, calls of such ones -/
abbrev exNs : List String := ["java/lang/RuntimeException", "java/lang/Exception"]
/-- a picture that the machine's own changes leave, the Strings' entries among them -/
def Wm (X : State → Heap → Prop) : Prop := ∀ (u U : State) (H : Heap), (U.vm = u.vm ∨ u.WarmedH U.vm) → X u H → X U H
theorem Mv.wm {X : State → Heap → Prop} (h : Mv X) : Wm X := fun u U H a hX => h u U H (a.elim (fun e => by rw [e]; exact Vm.Alike.refl _) (fun e => e.alike)) hX
theorem Wm.and {X Y : State → Heap → Prop} (h1 : Wm X) (h2 : Wm Y) : Wm (fun U H => X U H ∧ Y U H) := fun u U H a h => ⟨h1 u U H a h.1, h2 u U H a h.2⟩
theorem wmBlind {X : State → Heap → Prop} {av : List Value} (h : Wm X) : FrameBlind (va_Pc av (fun U => X U U.heap)) := by
  intro a U g mk q
  exact ⟨q.1, h U (U.calling g mk a) U.heap (Or.inl rfl) q.2⟩
theorem wmPre {X : State → Heap → Prop} {s U : State} {H : Heap} {av : List Value} (h : Wm X) (hX : X s H) (hU : U.heap = H) (hW : s.WarmedH U.vm) : va_Pc av (fun U => X U U.heap) av.toArray U := by
  refine ⟨rfl, ?_⟩
  show X U U.heap
  rw [hU]
  exact h s U H (Or.inr hW) hX
/-- the words of a throw that are no good ones -/
def exW : List Cond := [.castable "java/lang/IllegalArgumentException" "java/lang/IllegalArgumentException", .castable "java/lang/IllegalStateException" "java/lang/IllegalStateException", .castable "java/lang/IndexOutOfBoundsException" "java/lang/IndexOutOfBoundsException",
  .declares (Bundle.initS "java/lang/RuntimeException"), .declares (Bundle.initS "java/lang/Exception"), .declares (Bundle.initS Bundle.tN)]
/-- the texts -/
def exT : Nat → String
  | 213 => "there is no such leg" | 57 => "a landmark is 0 to 9" | 208 => "a turn is -3 to 3" | 48 => "a length is 1 to 9" | 64 => "a way has at most 16 legs"
  | 70 => "there is no leg" | 84 => "a word is 0 to 9" | 86 => "a step is 1 to 4" | 142 => "the verse is not ambiguous" | _ => "to mend to are 1 to 1000000 ways"
def exI : List Nat := [213, 57, 208, 48, 64, 70, 84, 86, 142, 148]
/-- what a throw needs: the two statics, the words, the texts -/
def TH (A : Nat → Prop) (U : State) (H : Heap) : Prop :=
  (vx_Zq Bundle.tN "UNASSIGNED_STACK" Bundle.steD A U H ∧ vx_Zq Bundle.tN "SUPPRESSED_SENTINEL" Bundle.listD A U H) ∧ (∀ w ∈ exW, w.before #[] U = true) ∧ ∀ k ∈ exI, ∃ a, vk_R RX0 k (exT k) a U
theorem TH.wm {A : Nat → Prop} : Wm (TH A) := by
  intro u U H h hX
  obtain ⟨⟨h1, h2⟩, h3, h4⟩ := hX
  have hA : u.vm.Alike U.vm := h.elim (fun e => by rw [e]; exact Vm.Alike.refl _) (fun e => e.alike)
  refine ⟨⟨h1.moved hA, h2.moved hA⟩, fun w hw => ?_, fun k hk => ?_⟩
  · have h9 := h3 w hw
    have hW9 : ∀ x : Cond, x.onTables = true → x.before #[] (u.setVm U.vm) = true → x.before #[] U = true := fun x hx hb => va_tabs hx (rfl : (u.setVm U.vm).vm = U.vm) hb
    simp only [exW, List.mem_cons, List.not_mem_nil, or_false] at hw
    rcases hw with e | e | e | e | e | e <;> subst e
    · exact hW9 _ rfl (by rw [Cond.castable_setVm hA]; exact h9)
    · exact hW9 _ rfl (by rw [Cond.castable_setVm hA]; exact h9)
    · exact hW9 _ rfl (by rw [Cond.castable_setVm hA]; exact h9)
    · exact hW9 _ rfl (by rw [Cond.declares_setVm hA]; exact h9)
    · exact hW9 _ rfl (by rw [Cond.declares_setVm hA]; exact h9)
    · exact hW9 _ rfl (by rw [Cond.declares_setVm hA]; exact h9)
  · obtain ⟨a, ha⟩ := h4 k hk
    exact ⟨a, h.elim (fun e => vk_R.same e ha) (fun e => vk_R.warm e ha)⟩
theorem TH.kept {A : Nat → Prop} {U : State} {H H1 : Heap} (h : TH A U H) (hq : ∀ a : Nat, a < H.size → ¬ A a → H1[a]? = H[a]?) : TH A U H1 := ⟨⟨h.1.1.kept hq, h.1.2.kept hq⟩, h.2⟩
theorem TH.narrow {A B : Nat → Prop} {U : State} {H : Heap} (h : TH A U H) (hAB : ∀ q, B q → A q) : TH B U H := ⟨⟨h.1.1.narrow hAB, h.1.2.narrow hAB⟩, h.2⟩
theorem exG0 : ∀ w ∈ (vx_atS RX0 50 "java/lang/IllegalArgumentException" exNs).filter goodWord, w ∈ lw_tbl := by decide +kernel
theorem exG1 : ∀ w ∈ (vx_atS RX0 66 "java/lang/IllegalStateException" exNs).filter goodWord, w ∈ lw_tbl := by decide +kernel
theorem exG2 : ∀ w ∈ (vx_atS RX0 212 "java/lang/IndexOutOfBoundsException" exNs).filter goodWord, w ∈ lw_tbl := by decide +kernel
theorem exB0 : ∀ w ∈ (vx_atS RX0 50 "java/lang/IllegalArgumentException" exNs).filter (fun w => !goodWord w), w ∈ exW := by decide +kernel
theorem exB1 : ∀ w ∈ (vx_atS RX0 66 "java/lang/IllegalStateException" exNs).filter (fun w => !goodWord w), w ∈ exW := by decide +kernel
theorem exB2 : ∀ w ∈ (vx_atS RX0 212 "java/lang/IndexOutOfBoundsException" exNs).filter (fun w => !goodWord w), w ∈ exW := by decide +kernel
theorem exO0 : ∀ w ∈ Cond.classLink RX0 46 "java/lang/IllegalArgumentException" :: Cond.initialized "java/lang/IllegalArgumentException" :: vx_atS RX0 50 "java/lang/IllegalArgumentException" exNs, vx_ot w = true := by decide +kernel
theorem exO1 : ∀ w ∈ Cond.classLink RX0 62 "java/lang/IllegalStateException" :: Cond.initialized "java/lang/IllegalStateException" :: vx_atS RX0 66 "java/lang/IllegalStateException" exNs, vx_ot w = true := by decide +kernel
theorem exO2 : ∀ w ∈ Cond.classLink RX0 210 "java/lang/IndexOutOfBoundsException" :: Cond.initialized "java/lang/IndexOutOfBoundsException" :: vx_atS RX0 212 "java/lang/IndexOutOfBoundsException" exNs, vx_ot w = true := by decide +kernel
theorem exHat {args : Array Value} {s : State} {L : List Cond} (hts : ∀ w ∈ wA, w.before args s = true) (hg : ∀ w ∈ L.filter goodWord, w ∈ lw_tbl) (hb : ∀ w ∈ L.filter (fun w => !goodWord w), w ∈ exW) (hw : ∀ w ∈ exW, w.before #[] s = true) : ∀ w ∈ L, w.before args s = true :=
  vx_hat (fun w h => hts w (List.mem_filter.mpr ⟨hg w h, (List.mem_filter.mp h).2⟩)) hb (fun w h => by
    have h9 := hw w h
    simp only [exW, List.mem_cons, List.not_mem_nil, or_false] at h
    rcases h with e | e | e | e | e | e <;> subst e <;> exact va_tabs rfl rfl h9)
/-- what a method that always throws owes: E, and the picture X1 behind; nothing old is written -/
abbrev XQ : Array Value → State → Outcome → State → Prop := fun a => va_Qv (fun _ : Unit => False) (fun _ _ => True) (fun _ => False) a
abbrev XC (E : String) (X1 : State → Heap → Prop) : String → State → State → Prop := vx_X (fun _ : Unit => True) (fun E9 _ t => E9 = E ∧ X1 t t.heap) (fun _ => False)
abbrev XM (l : Launch) (y : MethodName) (cc : ByteArray) (n : Nat) (r : Option FieldType) (rm : Room) (av : List Value) (X : State → Heap → Prop) (E : String) (X1 : State → Heap → Prop) : Prop :=
  vx_Met l y (wm y cc n r) rm (va_Pc av (fun U => X U U.heap)) XQ (XC E X1) 1 6 (fun _ => False)
theorem mtx {l : Launch} {y : MethodName} {cc : ByteArray} {maxL : Nat} {ret : Option FieldType} {rm : Room} {av : List Value} {X : State → Heap → Prop} {E : String} {X1 : State → Heap → Prop}
    (hy : plainName y.cls = true) (hsz : (lg_sl av).length ≤ maxL)
    (body : ∀ (p : Program) (e : Env) (s : State) (m : MethodId) (below : List Frame) (meth : Method) (c : Code) (ls : Array Slot), CallFix p m c cc maxL s av.toArray wA y.cls → meth.locks = false → (∀ x ∈ c.exceptionTable.toList, False) → X s s.heap → lv_has ls maxL (lv_args 0 av) →
      W p l e rm s m av.toArray below meth c s.heap [] 0 0 (vx_MQ below XQ (XC E X1) av.toArray s 1 6 (fun _ => False)) (F0 m 0 ls [])) : XM l y cc maxL ret rm av X E X1 := by
  refine vx_ofW (cc := cc) (maxL := maxL) (ret := ret) hy rfl ?_
  intro p e s m args below meth c s₁ B hml ht hv
  obtain ⟨rfl, hp⟩ := hv
  have hts := atoms_spec (ws := wm y cc maxL ret) B.pre
  have hl := lv_entry av hsz
  rw [lg_entry_eq]
  exact body p e s m below meth c _ ⟨B.exec, B.bytes, hml, findClass_of_methodNamed B.named, fun w h => hts w (List.mem_cons_of_mem _ h)⟩ B.notSynchronized ht hp hl
section THR
variable {p : Program} {l : Launch} {e : Env} {R : Room} {s : State} {m : MethodId} {args : Array Value} {below : List Frame} {meth : Method} {c : Code} {H : Heap} {locs : List Loc} {cells slots : Nat} {Q : State → Prop}
variable {cc : ByteArray} {nL pc idx k maxL : Nat} {ls : Array Slot} {own C E : String} {y : MethodName} {bytes : ByteArray} {ret : Option FieldType} {rm : Room} {b : Addr} {As rest st0 : List Value} {X X1 : State → Heap → Prop} {A0 : Nat → Prop} {H0 : Heap} {av : List Value}
abbrev KX (p : Program) (l : Launch) (e : Env) (R : Room) (s : State) (m : MethodId) (args : Array Value) (below : List Frame) (meth : Method) (c : Code) (H : Heap) (cells slots : Nat) (Q : State → Prop) (pc : Nat) (ls : Array Slot) (rest : List Value) (A0 : Nat → Prop) (H0 : Heap) (E : String) (X1 : State → Heap → Prop) : Prop :=
  ∀ (ce : Cell) (q9 : Addr) (H1 : Heap) (locs1 : List Loc), X1 s H1 → H.size ≤ H1.size → (∀ q : Nat, q < H.size → H1[q]? = H[q]?) → va_S A0 H0 H1 locs1 → H1[q9]? = some ce → ce.vm = .none → s.vm.findClass E = some ce.cls → vx_W p l e R s m args below meth c H1 locs1 (cells + 1) (slots + 6) Q (F0 m pc ls rest) q9
theorem xV (hF : CallFix p m c cc nL s args wA own) (hM : XM l y bytes maxL ret rm (.ref b :: As) X E X1) (hmv : Wm X) (hmv1 : Mv X1) (hX : X s H) (hrc : Rc C b s H) (hi : IM C y bytes maxL ret k) (hlk : Cond.methodLink own idx y ∈ wA)
    (h0 : rm.cells = 1 ∧ rm.slots = 6) (hR : rm.frames + 1 ≤ R.frames ∧ 8 + (maxL + 11) + rm.locals ≤ R.locals) (hk : As.length = k) (hsz : ls.size = nL) (hst : st0 = As.reverse ++ .ref b :: rest) (hW : (rest.map fun v => v.category).sum ≤ 8) (hcs : cells + 1 ≤ R.cells ∧ slots + 6 ≤ R.slots) (hS : va_S A0 H0 H locs) (hdg : decode cc pc = .ok (.invokevirtual idx, 3))
    (kx : KX p l e R s m args below meth c H cells slots Q pc ls rest A0 H0 E X1) : W p l e R s m args below meth c H locs cells slots Q (F0 m pc ls st0) :=
  vx_callv (vx_runV hF hM (cwV k hF.2.2.2.2 (gV hlk hi.1) rfl h0.1 h0.2 hi.2 hR) ⟨wmBlind hmv, hrc, fun U hU hW => wmPre hmv hX hU hW⟩ rfl hk hsz hst (lv_room hW) hdg hcs) hS (fun _ _ h => h.elim) (fun _ h => h.elim) (fun _ _ h => h.elim)
    (fun E9 ce q9 _ t H1 locs1 ht hvm _ hB hz hk1 hS1 hce hcv hcl => by
      obtain ⟨rfl, hB⟩ := hB
      subst ht
      exact kx ce q9 t.heap locs1 (hmv1 t s t.heap hvm.symm hB) hz (fun q hq => hk1 q hq (fun h => h)) hS1 hce hcv hcl)
    (fun _ _ _ _ _ _ h => h.elim)
theorem xS (hF : CallFix p m c cc nL s args wA own) (hM : XM l y bytes maxL ret rm As X E X1) (hmv : Wm X) (hmv1 : Mv X1) (hX : X s H) (hi : SM y bytes maxL ret k) (hlk : Cond.methodLink own idx y ∈ wA)
    (h0 : rm.cells = 1 ∧ rm.slots = 6) (hR : rm.frames + 1 ≤ R.frames ∧ 8 + (maxL + 11) + rm.locals ≤ R.locals) (hk : As.length = k) (hsz : ls.size = nL) (hst : st0 = As.reverse ++ rest) (hW : (rest.map fun v => v.category).sum ≤ 8) (hcs : cells + 1 ≤ R.cells ∧ slots + 6 ≤ R.slots) (hS : va_S A0 H0 H locs) (hdg : decode cc pc = .ok (.invokestatic idx, 3))
    (kx : KX p l e R s m args below meth c H cells slots Q pc ls rest A0 H0 E X1) : W p l e R s m args below meth c H locs cells slots Q (F0 m pc ls st0) :=
  vx_callv (vx_runS hF hM (va_cwS k hF.2.2.2.2 (gS hlk hi.1) rfl h0.1 h0.2 hi.2 hR) ⟨wmBlind hmv, fun U hU hW => wmPre hmv hX hU hW⟩ rfl hk hsz hst (lv_room hW) hdg hcs) hS (fun _ _ h => h.elim) (fun _ h => h.elim) (fun _ _ h => h.elim)
    (fun E9 ce q9 _ t H1 locs1 ht hvm _ hB hz hk1 hS1 hce hcv hcl => by
      obtain ⟨rfl, hB⟩ := hB
      subst ht
      exact kx ce q9 t.heap locs1 (hmv1 t s t.heap hvm.symm hB) hz (fun q hq => hk1 q hq (fun h => h)) hS1 hce hcv hcl)
    (fun _ _ _ _ _ _ h => h.elim)
/-- it goes on to the caller -/
theorem xOut (ht : ∀ x ∈ c.exceptionTable.toList, False) (hlocks : meth.locks = false) (hmv1 : Mv X1) (hf : cells ≤ 0 ∧ slots ≤ 0) : KX p l e R s m args below meth c H cells slots (vx_MQ below XQ (XC E X1) args s 1 6 (fun _ => False)) pc ls rest (fun _ => False) s.heap E X1 := by
  intro ce q9 H1 locs1 hX hz hk hS hce hcv hcl
  exact vx_out (fun x hx => (ht x hx).elim) hlocks hce hcv hcl (fun t ht9 hA => ⟨(), trivial, ⟨rfl, by rw [ht9]; exact hmv1 s t H1 hA hX⟩, hS.F ht9⟩) hS.2.2 (by omega) (by omega)
/-- a throw of its own -/
theorem xThrow (hF : CallFix p m c cc nL s args wA RX0) (hl : l.stackTraces = false) (hTH : TH (fun _ => False) s s.heap) (ht : ∀ x ∈ c.exceptionTable.toList, False) (hlocks : meth.locks = false) (hmv1 : Mv X1) (hX : X1 s H) (hX1 : ∀ H1 : Heap, H.size ≤ H1.size → (∀ q : Nat, q < H.size → H1[q]? = H[q]?) → X1 s H1) (hS : va_S (fun _ => False) s.heap H locs) (hsz : ls.size = nL)
    {ik is ic : Nat} (hcls : Bundle.fit E = true) (hk : Cond.classLink RX0 ik E ∈ wA) (hini : Cond.initialized E ∈ wA) (hg : ∀ w ∈ (vx_atS RX0 ic E exNs).filter goodWord, w ∈ lw_tbl) (hb9 : ∀ w ∈ (vx_atS RX0 ic E exNs).filter (fun w => !goodWord w), w ∈ exW)
    (ho : ∀ w ∈ Cond.classLink RX0 ik E :: Cond.initialized E :: vx_atS RX0 ic E exNs, vx_ot w = true) (his : is ∈ exI)
    (d0 : decode cc pc = .ok (.new ik, 3)) (d3 : decode cc (pc + 3) = .ok (.dup, 1)) (d4 : decode cc (pc + 4) = .ok (.ldc is, 2)) (d6 : decode cc (pc + 6) = .ok (.invokespecial ic, 3)) (d9 : decode cc (pc + 9) = .ok (.athrow, 1))
    (hR : 5 < R.frames ∧ (rest.map fun v => v.category).sum + 82 ≤ R.locals ∧ cells + 1 ≤ R.cells ∧ slots + 6 ≤ R.slots) (hf : cells ≤ 0 ∧ slots ≤ 0) :
    W p l e R s m args below meth c H locs cells slots (vx_MQ below XQ (XC E X1) args s 1 6 (fun _ => False)) (F0 m pc ls rest) := by
  obtain ⟨hx, hb, hml, hown, hts⟩ := hF
  obtain ⟨sa, hstr⟩ := hTH.2.2 is his
  exact vx_throwS hx hb hl hown hcls (by decide +kernel) (hts _ hk) (hts _ hini) hstr (exHat hts hg hb9 hTH.2.1) ho hTH.1.1 hTH.1.2 hS (hsz.trans hml.symm) d0 d3 d4 d6 d9 (fun x h9 => (ht x h9).elim) hR.1 hR.2.1 hR.2.2.1 hR.2.2.2 hlocks
    (fun t hA hz hk1 => ⟨(), trivial, ⟨rfl, hmv1 s t t.heap hA (hX1 t.heap hz hk1)⟩, ⟨Nat.le_trans hS.1 hz, fun q h1 h2 => by rw [hk1 q (Nat.lt_of_lt_of_le h1 hS.1)]; exact hS.2.1 q h1 h2⟩⟩) hS.2.2 (by omega) (by omega)
end THR

section P30
variable {l : Launch} {D : va_G} {cyI cyZ : ClassId} {q : Nat → Nat} {N K : Nat} {n st th md : Int32} {v w : Nat → Nat → Int32} {mk : Nat → Bool}
set_option maxHeartbeats 4000000 in
set_option maxRecDepth 100000 in
theorem tX0_mend2 (hsT : l.stackTraces = false) (hok : Ok N st v) (hde : Der N st v w) (i : Nat) (hi : i < N) (hb9 : amb v st mk i = false) : XM l yX0_mend cX0_mend 2 (some .int) ({ frames := 6, cells := 1, slots := 6, locals := 110 } : Room) [.ref (q 0), .int (nI i)] (fun U H => C0 D cyI cyZ q (nI N) st v mk w U H ∧ TH (fun _ => False) U H) "java/lang/IllegalStateException" (fun _ _ => True) := by
  refine mtx (by decide) (Nat.le_of_ble_eq_true rfl) ?_
  intro p ev s m below meth c ls hF hlocks ht hX hl
  have hF : CallFix p m c cX0_mend 2 s _ wA RX0 := hF
  obtain ⟨hx, hb, hml, hown, hts⟩ := id hF
  have hTH : TH (fun _ => False) s s.heap := hX.2
  have hX : C0 D cyI cyZ q (nI N) st v mk w s s.heap := hX.1
  have hl : lv_has ls 2 [(0, .ref (q 0)), (1, .int (nI i))] := hl
  have hS : va_S (fun _ => False) s.heap s.heap [] := va_S.rf
  have hN := hok.1
  refine lv_aload_n hx hb dX0_mend_0 rfl (lv_at hl 0 rfl) ?_
  refine lv_iload_n hx hb dX0_mend_1 rfl (lv_at hl 1 rfl) ?_
  refine cVv (As := [.int (nI i)]) (rest := []) hF (mX0_checkLeg i (by omega) (by omega)) C0.mv hX (C0.rc hX) jyX0_checkLeg kl_RX0_72 ⟨rfl, rfl⟩ ⟨Nat.le_of_ble_eq_true rfl, Nat.le_of_ble_eq_true rfl⟩ rfl hl.1 rfl (Nat.le_of_ble_eq_true rfl) ⟨Nat.zero_le _, Nat.zero_le _⟩ dX0_mend_2 ?_
  refine lv_aload_n hx hb dX0_mend_5 rfl (lv_at hl 0 rfl) ?_
  refine lv_iload_n hx hb dX0_mend_6 rfl (lv_at hl 1 rfl) ?_
  refine cVi (As := [.int (nI i)]) (rest := []) hF (mX0_isAmbiguous hok hde i (by omega)) C0.mv hX (C0.rc hX) jyX0_isAmbiguous kl_RX0_139 ⟨rfl, rfl⟩ ⟨Nat.le_of_ble_eq_true rfl, Nat.le_of_ble_eq_true rfl⟩ rfl hl.1 rfl (Nat.le_of_ble_eq_true rfl) ⟨Nat.zero_le _, Nat.zero_le _⟩ dX0_mend_7 (fun r hr9 => ?_)
  subst hr9
  refine lv_if_ne (tgt := 23) hx hb dX0_mend_10 (by decide) (fun c10 => ?_) (fun c10 => ?_)
  · have c10b := b2i_t c10
    exact absurd hb9 (by rw [c10b]; decide)
  · have c10b := b2i_f c10
    exact xThrow hF hsT hTH ht hlocks Mv.const trivial (fun _ _ _ => trivial) hS hl.1 (ik := 62) (is := 142) (ic := 66) (by decide +kernel) kc_RX0_62 kn_IllegalStateException exG1 exB1 exO1 (by decide) dX0_mend_13 dX0_mend_16 dX0_mend_17 dX0_mend_19 dX0_mend_22 ⟨Nat.le_of_ble_eq_true rfl, Nat.le_of_ble_eq_true rfl, Nat.le_of_ble_eq_true rfl, Nat.le_of_ble_eq_true rfl⟩ ⟨Nat.le_refl _, Nat.le_refl _⟩
end P30
/-! WRAPPERS of the law: methods with an exception table -/
def wmW (y : MethodName) (c : ByteArray) (n : Nat) (r : Option FieldType) (hh : List (Nat × Nat × Nat × Nat)) : List Cond := .codeWith y c n r hh :: wA
theorem gmW {y : MethodName} {c : ByteArray} {n : Nat} {r : Option FieldType} {hh : List (Nat × Nat × Nat × Nat)} (h : Cond.codeWith y c n r hh ∈ wA) : GoodIn wA (wmW y c n r hh) := by
  intro w hw
  rcases List.mem_cons.mp hw with e | hw
  · rw [e]; exact gA _ h
  · exact gA _ hw
abbrev SMW (y : MethodName) (c : ByteArray) (n : Nat) (r : Option FieldType) (hh : List (Nat × Nat × Nat × Nat)) (k : Nat) : Prop :=
  (Cond.static y ∈ wA ∧ Cond.initialized y.cls ∈ wA ∧ Cond.codeWith y c n r hh ∈ wA) ∧ (y.cls ≠ "java/lang/invoke/MethodHandle" ∧ y.cls ≠ "java/lang/invoke/VarHandle" ∧ (parseMethodDescriptor y.desc).map (fun d => d.parameters.length) = some k)
theorem gSW {own : String} {idx : Nat} {y : MethodName} {c : ByteArray} {n : Nat} {r : Option FieldType} {hh : List (Nat × Nat × Nat × Nat)} (h1 : Cond.methodLink own idx y ∈ wA) (h : Cond.static y ∈ wA ∧ Cond.initialized y.cls ∈ wA ∧ Cond.codeWith y c n r hh ∈ wA) : GoodIn wA (va_wsS own idx y (wmW y c n r hh)) := by
  intro w hw
  unfold va_wsS at hw
  rcases List.mem_append.mp hw with hw | hw
  · simp only [List.mem_cons, List.not_mem_nil, or_false] at hw
    rcases hw with e | e | e <;> rw [e]
    · exact gA _ h1
    · exact gA _ h.1
    · exact gA _ h.2.1
  · exact gmW h.2.2 _ hw
theorem mtW {l : Launch} {y : MethodName} {cc : ByteArray} {maxL : Nat} {ret : Option FieldType} {hh : List (Nat × Nat × Nat × Nat)} {rm : Room} {av : List Value} {Pre : State → Prop} {Qc : Array Value → State → Outcome → State → Prop} {mc ms : Nat} {free : Addr → Prop}
    (hy : plainName y.cls = true) (hsz : (lg_sl av).length ≤ maxL)
    (body : ∀ (p : Program) (e : Env) (s : State) (m : MethodId) (below : List Frame) (meth : Method) (c : Code) (ls : Array Slot), CallFix p m c cc maxL s av.toArray wA y.cls → meth.sig.returnType = ret → meth.locks = false → c.exceptionTable.toList = tableOf hh → Pre s → lv_has ls maxL (lv_args 0 av) →
      W p l e rm s m av.toArray below meth c s.heap [] 0 0 (MQ below Qc av.toArray s mc ms free) (F0 m 0 ls [])) : Met l y (wmW y cc maxL ret hh) rm (va_Pc av Pre) Qc mc ms free := by
  refine va_MetW (cc := cc) (maxL := maxL) (ret := ret) (hh := hh) hy rfl ?_
  intro p e s m args below meth c s₁ B hml hv
  obtain ⟨rfl, hp⟩ := hv
  have hts := atoms_spec (ws := wmW y cc maxL ret hh) B.pre
  have hl := lv_entry av hsz
  rw [lg_entry_eq]
  exact body p e s m below meth c _ ⟨B.exec, B.bytes, hml, findClass_of_methodNamed B.named, fun w h => hts w (List.mem_cons_of_mem _ h)⟩ B.returns B.notSynchronized (vx_table (x := y) B (hts _ List.mem_cons_self)) hp hl

section LAWR
variable {p : Program} {l : Launch} {e : Env} {R : Room} {s : State} {m : MethodId} {args : Array Value} {below : List Frame} {meth : Method} {c : Code} {H : Heap} {locs : List Loc} {cells slots : Nat} {Q : State → Prop}
variable {cc : ByteArray} {nL pc idx k maxL : Nat} {ls : Array Slot} {own : String} {y : MethodName} {bytes : ByteArray} {ret : Option FieldType} {hh : List (Nat × Nat × Nat × Nat)} {rm : Room} {As rest st0 : List Value} {X : State → Heap → Prop}
variable {σ : Type} {X1 : σ → State → Heap → Prop} {Y1 : σ → Nat → State → Heap → Prop} {A0 A1 : Nat → Prop} {H0 : Heap} {mc ms : Nat} {free : Addr → Prop}
theorem exCast {w : Cond} (hw : w ∈ exW) {A : Nat → Prop} (h : TH A s H) (hon : w.onTables = true) : w.before args s = true := va_tabs hon rfl (h.2.1 w hw)

theorem wSWi {post : Int32 → σ → Prop} (hF : CallFix p m c cc nL s args wA own) (hM : Met l y (wmW y bytes maxL ret hh) rm (va_Pc As (fun U => X U U.heap)) (va_Qi post (fun u U => X1 u U U.heap) A1) mc ms free) (hmv : Wm X) (hmv1 : ∀ u, Mv (X1 u)) (hX : X s H) (hi : SMW y bytes maxL ret hh k) (hlk : Cond.methodLink own idx y ∈ wA)
    (h0 : rm.cells = mc ∧ rm.slots = ms) (hR : rm.frames + 1 ≤ R.frames ∧ 8 + (maxL + 11) + rm.locals ≤ R.locals) (hk : As.length = k) (hsz : ls.size = nL) (hst : st0 = As.reverse ++ rest) (hW : (rest.map fun v => v.category).sum ≤ 8) (hcs : cells + mc ≤ R.cells ∧ slots + ms ≤ R.slots) (hS : va_S A0 H0 H locs) (hA : ∀ q, q < H.size → A1 q → A0 q) (hf : ∀ q, free q → A0 q) (hdg : decode cc pc = .ok (.invokestatic idx, 3))
    (kk : ∀ (r : Int32) (u : σ) (H1 : Heap) (locs1 : List Loc), post r u → X1 u s H1 → H.size ≤ H1.size → (∀ q : Nat, q < H.size → ¬ A1 q → H1[q]? = H[q]?) → va_S A0 H0 H1 locs1 → W p l e R s m args below meth c H1 locs1 (cells + mc) (slots + ms) Q (F0 m (pc + 3) ls (.int r :: rest))) : W p l e R s m args below meth c H locs cells slots Q (F0 m pc ls st0) :=
  va_calli (vx_runSW hF hM (vx_cwSW k hF.2.2.2.2 (gSW hlk hi.1) rfl h0.1 h0.2 hi.2 hR) ⟨wmBlind hmv, fun U hU hW => wmPre hmv hX hU hW⟩ rfl hk hsz hst (lv_room hW) hdg hcs) hS hA hf
    (fun r u t H1 locs1 ht hvm hp hB hz hk1 hS1 => kk r u H1 locs1 hp (by subst ht; exact hmv1 u t s t.heap hvm.symm hB) hz hk1 hS1)

theorem wSrW {post : σ → Prop} (hF : CallFix p m c cc nL s args wA own) (hM : Met l y (wm y bytes maxL ret) rm (va_Pc As (fun U => X U U.heap)) (va_Qr post (fun u a U => Y1 u a U U.heap) A1) mc ms free) (hmv : Wm X) (hmv1 : ∀ u a, Mv (Y1 u a)) (hX : X s H) (hi : SM y bytes maxL ret k) (hlk : Cond.methodLink own idx y ∈ wA)
    (h0 : rm.cells = mc ∧ rm.slots = ms) (hR : rm.frames + 1 ≤ R.frames ∧ 8 + (maxL + 11) + rm.locals ≤ R.locals) (hk : As.length = k) (hsz : ls.size = nL) (hst : st0 = As.reverse ++ rest) (hW : (rest.map fun v => v.category).sum ≤ 8) (hcs : cells + mc ≤ R.cells ∧ slots + ms ≤ R.slots) (hS : va_S A0 H0 H locs) (hA : ∀ q, q < H.size → A1 q → A0 q) (hf : ∀ q, free q → A0 q) (hdg : decode cc pc = .ok (.invokestatic idx, 3))
    (kk : ∀ (u : σ) (ra : Nat) (H1 : Heap) (locs1 : List Loc), post u → Y1 u ra s H1 → H.size ≤ H1.size → (∀ q : Nat, q < H.size → ¬ A1 q → H1[q]? = H[q]?) → va_S A0 H0 H1 locs1 → W p l e R s m args below meth c H1 locs1 (cells + mc) (slots + ms) Q (F0 m (pc + 3) ls (.ref ra :: rest))) : W p l e R s m args below meth c H locs cells slots Q (F0 m pc ls st0) :=
  va_callr (va_runS hF hM (va_cwS k hF.2.2.2.2 (gS hlk hi.1) rfl h0.1 h0.2 hi.2 hR) ⟨wmBlind hmv, fun U hU hW => wmPre hmv hX hU hW⟩ rfl hk hsz hst (lv_room hW) hdg hcs) hS hA hf (fun u ra t H1 locs1 ht hvm hp hB hz hk1 hS1 => kk u ra H1 locs1 hp (by subst ht; exact hmv1 u ra t s t.heap hvm.symm hB) hz hk1 hS1)
end LAWR
end
section
/-! WHAT STAYS OF A SONG: numbers in their ranges; a mark is on a verse of several readings -/
def Inv (N : Nat) (st : Int32) (v : Nat → Nat → Int32) (mk : Nat → Bool) : Prop := Ok N st v ∧ (∀ k : Nat, k < N → ∃ x : Nat, x < 9 ∧ v 1 k = nI (x + 1)) ∧ (∀ i : Nat, i < 10 → ∃ x : Nat, x < 10 ∧ v 3 i = nI x) ∧ ∀ k : Nat, k < N → mk k = true → 1 < rdn v st k
section INV
variable {N M k e j x y : Nat} {st : Int32} {v v2 w : Nat → Nat → Int32} {mk mk2 : Nat → Bool}
theorem rdn_cong (h0 : ∀ i : Nat, i ≤ k → v2 0 i = v 0 i) (h2 : v2 2 k = v 2 k) (h3 : v2 3 = v 3) : rdn v2 st k = rdn v st k := by
  unfold rdn wd
  rw [h2, h3, h0 k (Nat.le_refl k), nt_cong (fun i hi => h0 i (by omega))]
theorem addV_lt (t ln m : Int32) {i : Nat} (hk : k < N) : addV v N t ln m i k = v i k := by
  have hn := Nat.ne_of_lt hk
  unfold addV
  by_cases h2 : i = 2
  · subst h2; simp [va_up, upd, hn]
  · by_cases h1 : i = 1
    · subst h1; simp [va_up, upd, hn]
    · by_cases h0 : i = 0
      · subst h0; simp [va_up, upd, hn]
      · simp [va_up, h2, h1, h0]
theorem addV_0 (t ln m : Int32) : addV v N t ln m 0 N = t := by unfold addV; simp [va_up, upd]
theorem addV_1 (t ln m : Int32) : addV v N t ln m 1 N = ln := by unfold addV; simp [va_up, upd]
theorem addV_2 (t ln m : Int32) : addV v N t ln m 2 N = m := by unfold addV; simp [va_up, upd]
theorem addV_3 (t ln m : Int32) : addV v N t ln m 3 = v 3 := by unfold addV; simp [va_up]
theorem Inv.add (h : Inv N st v mk) (hN : N < 16) (he : e < 7) (hx : x < 9) (hj : j < 10) : Inv (N + 1) st (addV v N (nI e - 3) (nI (x + 1)) (nI j)) (va_up mk N false) := by
  refine ⟨addV_ok h.1 hN he hj, fun k hk => ?_, fun i hi => ?_, fun k hk hm => ?_⟩
  · by_cases hkN : k = N
    · subst hkN
      exact ⟨x, hx, addV_1 _ _ _⟩
    · rw [addV_lt _ _ _ (by omega)]
      exact h.2.1 k (by omega)
  · rw [addV_3]; exact h.2.2.1 i hi
  · by_cases hkN : k = N
    · subst hkN
      simp [va_up] at hm
    · rw [rdn_cong (v := v) (fun i hi => addV_lt _ _ _ (by omega)) (addV_lt _ _ _ (by omega)) (addV_3 _ _ _)]
      exact h.2.2.2 k (by omega) (by simpa [va_up, hkN] using hm)
theorem Inv.strike (h : Inv (M + 1) st v mk) : Inv M st v mk :=
  ⟨⟨Nat.le_trans (Nat.le_succ M) h.1.1, h.1.2⟩, fun k hk => h.2.1 k (by omega), h.2.2.1, fun k hk => h.2.2.2 k (by omega)⟩
theorem Inv.bend (h : Inv N st v mk) (he : e < 7) (i : Nat) (hm : ∀ k, k < N → mk2 k = false) : Inv N st (va_up v 0 (upd (v 0) i (nI e - 3))) mk2 :=
  ⟨bend_ok h.1 he, fun k hk => h.2.1 k hk, h.2.2.1, fun k hk h9 => by rw [hm k hk] at h9; cases h9⟩
theorem Inv.word (h : Inv N st v mk) (hx : x < 10) (i : Nat) (hm : ∀ k, k < N → mk2 k = false) : Inv N st (va_up v 3 (upd (v 3) i (nI x))) mk2 := by
  refine ⟨h.1, fun k hk => h.2.1 k hk, fun k hk => ?_, fun k hk h9 => by rw [hm k hk] at h9; cases h9⟩
  have e1 : (va_up v 3 (upd (v 3) i (nI x))) 3 k = upd (v 3) i (nI x) k := by simp [va_up]
  rw [e1]
  by_cases hki : k = i
  · exact ⟨x, hx, by simp [upd, hki]⟩
  · simp only [upd, if_neg hki]
    exact h.2.2.1 k hk
theorem Inv.step (h : Inv N st v mk) (hy : y < 4) (hm : ∀ k, k < N → mk2 k = false) : Inv N (nI (y + 1)) v mk2 :=
  ⟨⟨h.1.1, ⟨y, hy, rfl⟩, h.1.2.2⟩, h.2.1, h.2.2.1, fun k hk h9 => by rw [hm k hk] at h9; cases h9⟩
theorem Inv.mend (h : Inv N st v mk) (ha : amb v st mk k = true) : Inv N st v (va_up mk k true) := by
  refine ⟨h.1, h.2.1, h.2.2.1, fun i hi h9 => ?_⟩
  by_cases hik : i = k
  · subst hik
    exact (amb_iff.mp ha).2
  · exact h.2.2.2 i hi (by simpa [va_up, hik] using h9)
theorem Inv.cong (h : Inv N st v mk) (hm : ∀ k, k < N → mk k = mk2 k) : Inv N st v mk2 := ⟨h.1, h.2.1, h.2.2.1, fun k hk h9 => h.2.2.2 k hk (by rw [hm k hk]; exact h9)⟩
theorem rowV_mk (h : ∀ k : Nat, k < N → mk k = mk2 k) : ∀ k : Nat, k < N → ∀ i : Nat, i < 6 → rowV v st mk k i = rowV v st mk2 k i := by
  intro k hk i hi
  match i, hi with
  | 0, _ => rfl
  | 1, _ => rfl
  | 2, _ => rfl
  | 3, _ => rfl
  | 4, _ => rfl
  | 5, _ =>
    show b2i (mk k) = b2i (mk2 k)
    rw [h k hk]
/-- a remainder of a number that is not negative -/
theorem bel {n : Nat} (h0 : 0 < n) (h1 : n ≤ 1000) (z : Int32) : ∃ i : Nat, i < n ∧ (z &&& 2147483647) - (z &&& 2147483647) / nI n * nI n = nI i := by
  have h2 : 0 ≤ (z &&& 2147483647).toInt := by
    have e1 : (z &&& 2147483647).toInt = (z.toBitVec &&& 2147483647#32).toInt := rfl
    have e2 : (z.toBitVec &&& 2147483647#32).toNat ≤ 2147483647 := by
      rw [BitVec.toNat_and]
      exact Nat.and_le_right
    rw [e1, BitVec.toInt_eq_toNat_of_lt (by omega)]
    omega
  have h3 : ((z &&& 2147483647) - (z &&& 2147483647) / nI n * nI n).toInt = (z &&& 2147483647).toInt.tmod n := by
    rw [rem_toInt, nI_toInt (by omega)]
  rw [Int.tmod_eq_emod_of_nonneg h2] at h3
  have h4 := Int.emod_nonneg (z &&& 2147483647).toInt (b := (n : Int)) (by omega)
  have h5 := Int.emod_lt_of_pos (z &&& 2147483647).toInt (b := (n : Int)) (by omega)
  refine ⟨((z &&& 2147483647).toInt % n).toNat, by omega, Int32.toInt_inj.mp ?_⟩
  rw [h3, nI_toInt (by omega)]
  omega
theorem nI_1l (n : Nat) : 1 + nI n = nI (n + 1) := by rw [nI_succ, Int32.add_comm]
theorem lenL {x : Nat} (hx : x < 9) : ¬ nI (x + 1) < 1 ∧ nI (x + 1) ≤ 9 := by
  match x, hx with
  | 0, _ => decide
  | 1, _ => decide
  | 2, _ => decide
  | 3, _ => decide
  | 4, _ => decide
  | 5, _ => decide
  | 6, _ => decide
  | 7, _ => decide
  | 8, _ => decide
end INV
/-! THE TWO SONGS -/
def LX (D : va_G) (cyI cyZ cyA : ClassId) (q : Nat → Nat) (sm wd B N : Nat) (st : Int32) (v : Nat → Nat → Int32) (mk : Nat → Bool) (w : Nat → Nat → Int32) (lg : Nat) (a : Nat → Nat) : State → Heap → Prop := fun U H =>
  (C0 D cyI cyZ q (nI N) st v mk w U H ∧ S0 D cyI cyA sm wd lg a N st (v 3) (rowV v st mk) U H) ∧ (Inv N st v mk ∧ Der N st v w) ∧ (∀ z, own 10 q z → B ≤ z) ∧ (∀ z, sown sm wd lg a N z → B ≤ z) ∧ ∀ z, own 10 q z → ¬ sown sm wd lg a N z
def LW (D : va_G) (cyI cyZ cyA : ClassId) (q : Nat → Nat) (sm wd B : Nat) : State → Heap → Prop := fun U H => ∃ (N : Nat) (st : Int32) (v : Nat → Nat → Int32) (mk : Nat → Bool) (w : Nat → Nat → Int32) (lg : Nat) (a : Nat → Nat), LX D cyI cyZ cyA q sm wd B N st v mk w lg a U H
theorem LW.mv {D : va_G} {cyI cyZ cyA : ClassId} {q : Nat → Nat} {sm wd B : Nat} : Mv (LW D cyI cyZ cyA q sm wd B) := fun _ _ _ al ⟨N9, s9, v9, m9, w9, l9, a9, h⟩ => ⟨N9, s9, v9, m9, w9, l9, a9, ⟨C0.mv _ _ _ al h.1.1, S0.mv _ _ _ al h.1.2⟩, h.2⟩
def XA (D : va_G) (cyI cyZ cyA : ClassId) (q : Nat → Nat) (sm wd B t1 t2 : Nat) : State → Heap → Prop := fun U H => LW D cyI cyZ cyA q sm wd B U H ∧ ST t1 t2 (fun z => B ≤ z) U H ∧ TH (fun z => B ≤ z) U H ∧ B ≤ H.size
theorem XA.wm {D : va_G} {cyI cyZ cyA : ClassId} {q : Nat → Nat} {sm wd B t1 t2 : Nat} : Wm (XA D cyI cyZ cyA q sm wd B t1 t2) := fun u U H al h => ⟨LW.mv.wm u U H al h.1, ST.mv.wm u U H al h.2.1, TH.wm u U H al h.2.2.1, h.2.2.2⟩
end
