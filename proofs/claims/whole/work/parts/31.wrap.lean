/-! WRAPPERS of the law: methods with an exception table -/
def wmW (y : MethodName) (c : ByteArray) (n : Nat) (r : Option FieldType) (hh : List (Nat × Nat × Nat × Nat)) : List Cond := .codeWith y c n r hh :: wA
theorem gmW {y : MethodName} {c : ByteArray} {n : Nat} {r : Option FieldType} {hh : List (Nat × Nat × Nat × Nat)} (h : Cond.codeWith y c n r hh ∈ wA) : GoodIn wA (wmW y c n r hh) := by
  intro w hw
  rcases List.mem_cons.mp hw with e | hw
  · rw [e]; exact gA _ h
  · exact gA _ hw
abbrev SMW (y : MethodName) (c : ByteArray) (n : Nat) (r : Option FieldType) (hh : List (Nat × Nat × Nat × Nat)) (k : Nat) : Prop :=
  (Cond.static y ∈ wA ∧ Cond.initialized y.cls ∈ wA ∧ Cond.codeWith y c n r hh ∈ wA) ∧ (y.cls ≠ "java/lang/invoke/MethodHandle" ∧ y.cls ≠ "java/lang/invoke/VarHandle" ∧ (parseMethodDescriptor y.desc).map (fun d => d.parameters.length) = some k)
theorem gSW {own : String} {idx : Nat} {y : MethodName} {c : ByteArray} {n : Nat} {r : Option FieldType} {hh : List (Nat × Nat × Nat × Nat)} (h1 : Cond.methodLink own idx y ∈ wA) (h : Cond.static y ∈ wA ∧ Cond.initialized y.cls ∈ wA ∧ Cond.codeWith y c n r hh ∈ wA) : GoodIn wA (va_wsS own idx y (wmW y c n r hh)) := by
  intro w hw
  unfold va_wsS at hw
  rcases List.mem_append.mp hw with hw | hw
  · simp only [List.mem_cons, List.not_mem_nil, or_false] at hw
    rcases hw with e | e | e <;> rw [e]
    · exact gA _ h1
    · exact gA _ h.1
    · exact gA _ h.2.1
  · exact gmW h.2.2 _ hw
theorem mtW {l : Launch} {y : MethodName} {cc : ByteArray} {maxL : Nat} {ret : Option FieldType} {hh : List (Nat × Nat × Nat × Nat)} {rm : Room} {av : List Value} {Pre : State → Prop} {Qc : Array Value → State → Outcome → State → Prop} {mc ms : Nat} {free : Addr → Prop}
    (hy : plainName y.cls = true) (hsz : (lg_sl av).length ≤ maxL)
    (body : ∀ (p : Program) (e : Env) (s : State) (m : MethodId) (below : List Frame) (meth : Method) (c : Code) (ls : Array Slot), CallFix p m c cc maxL s av.toArray wA y.cls → meth.sig.returnType = ret → meth.locks = false → c.exceptionTable.toList = tableOf hh → Pre s → lv_has ls maxL (lv_args 0 av) →
      W p l e rm s m av.toArray below meth c s.heap [] 0 0 (MQ below Qc av.toArray s mc ms free) (F0 m 0 ls [])) : Met l y (wmW y cc maxL ret hh) rm (va_Pc av Pre) Qc mc ms free := by
  refine va_MetW (cc := cc) (maxL := maxL) (ret := ret) (hh := hh) hy rfl ?_
  intro p e s m args below meth c s₁ B hml hv
  obtain ⟨rfl, hp⟩ := hv
  have hts := atoms_spec (ws := wmW y cc maxL ret hh) B.pre
  have hl := lv_entry av hsz
  rw [lg_entry_eq]
  exact body p e s m below meth c _ ⟨B.exec, B.bytes, hml, findClass_of_methodNamed B.named, fun w h => hts w (List.mem_cons_of_mem _ h)⟩ B.returns B.notSynchronized (vx_table (x := y) B (hts _ List.mem_cons_self)) hp hl
theorem one1 {x : Nat × va_E} {i : Nat} {y : Nat × va_E} (h : ([x] : va_W)[i]? = some y) : i = 0 := by
  cases i with
  | zero => rfl
  | succ i => simp at h
/-- the array that a wrapper answers into -/
def O1 (D : va_G) (cyL : ClassId) (o : Nat) (f : Nat → Int64) : State → Heap → Prop := fun U H => va_P D vwCl [(o, .inl (cyL, 1, .inr (.inl f)))] H ∧ va_K D vwCl [(cyL, .long)] U
/-- the exceptions' classes differ -/
def NC (U : State) (_ : Heap) : Prop := va_Nc "java/lang/IllegalStateException" "java/lang/IllegalArgumentException" U ∧ va_Nc "java/lang/IllegalArgumentException" "java/lang/IndexOutOfBoundsException" U ∧ va_Nc "java/lang/IllegalStateException" "java/lang/IndexOutOfBoundsException" U
theorem NC.mv : Mv NC := fun _ _ _ a h => ⟨h.1.moved a, h.2.1.moved a, h.2.2.moved a⟩
section WRP
variable {p : Program} {l : Launch} {e : Env} {R : Room} {s : State} {m : MethodId} {args : Array Value} {below : List Frame} {meth : Method} {c : Code} {H : Heap} {locs : List Loc} {cells slots : Nat} {Q : State → Prop}
variable {cc : ByteArray} {nL pc o : Nat} {ls : Array Slot} {own0 E : String} {rest : List Value} {D : va_G} {cyL : ClassId} {f : Nat → Int64} {A : Nat → Prop} {H0 : Heap}
theorem O1.mv : Mv (O1 D cyL o f) := fun _ _ _ a h => ⟨h.1, va_K.moved a h.2⟩
theorem O1.lt (h : O1 D cyL o f s H) : o < H.size := (h.1 0 _ rfl).lt
theorem O1.kept {H1 : Heap} (h : O1 D cyL o f s H) (hk : H1[o]? = H[o]?) : O1 D cyL o f s H1 := by
  refine ⟨fun k r hr => ?_, h.2⟩
  refine (h.1 k r hr).kept ?_
  cases k with
  | zero => cases hr; exact hk
  | succ k => simp at hr
theorem O1.st (hF : CallFix p m c cc nL s args wA own0) (hO : O1 D cyL o f s H) (hS : va_S A H0 H locs) (hA : A o) {x : Int64} (hdg : decode cc pc = .ok (.lastore, 1))
    (kk : ∀ (f1 : Nat → Int64) (H1 : Heap) (locs1 : List Loc), f1 0 = x → O1 D cyL o f1 s H1 → H1.size = H.size → (∀ a : Nat, a ≠ o → H1[a]? = H[a]?) → va_S A H0 H1 locs1 → W p l e R s m args below meth c H1 locs1 cells slots Q (F0 m (pc + 1) ls rest)) : W p l e R s m args below meth c H locs cells slots Q (F0 m pc ls (.long x :: .int 0 :: .ref o :: rest)) := by
  refine W.last hF.1 hF.2.1 (hO.1 0 _ rfl) ((hO.2.2 0 _ rfl).1 1 (fun j => .long (f j))) (fun q => by cases q) (by show ¬ ((0 : Int32) < 0 ∨ (arrV _ _ _).slots.size ≤ _); rw [arrV_size]; show ¬ ((0 : Int32) < 0 ∨ 1 ≤ (0 : Int32).toNatClampNeg); decide) rfl rfl hdg fun H1 e z oq => ?_
  have hD : va_D (fun a => a = o) [(o, (.inl (cyL, 1, .inr (.inl f)) : va_E))] := ⟨fun i j x y hx hy _ => (one1 hx).trans (one1 hy).symm, fun k r hr => by
    cases k with
    | zero => cases hr; rfl
    | succ k => simp at hr⟩
  refine kk (vp_updL f (0 : Int32).toNatClampNeg x) H1 _ rfl ⟨va_P.set (p := 0) hO.1 hD rfl (e := .inl (cyL, 1, .inr (.inl (vp_updL f (0 : Int32).toNatClampNeg x)))) ?_ oq, hO.2⟩ z oq (hS.put z oq hA)
  show H1[o]? = some (vp_cell _ _)
  rw [e]
  generalize (0 : Int32).toNatClampNeg = k0
  rw [vp_cell_l, vp_cell_l, arrV_store]
  congr 2
  funext q
  by_cases hq : q = k0
  · subst hq
    simp [updV, vp_updL]
  · simp [updV, vp_updL, hq]
theorem exCast {w : Cond} (hw : w ∈ exW) {A : Nat → Prop} (h : TH A s H) (hon : w.onTables = true) : w.before args s = true := va_tabs hon rfl (h.2.1 w hw)
end WRP

theorem jyL_addLeg : SMW yL_addLeg cL_addLeg 6 (some .int) [(0, 12, 15, 13), (0, 12, 19, 15)] 5 := ⟨⟨ks_yL_addLeg, kn_RL, kd_yL_addLeg⟩, by decide +kernel⟩
theorem jyL_strikeLeg : SMW yL_strikeLeg cL_strikeLeg 3 (some .int) [(0, 8, 11, 15)] 2 := ⟨⟨ks_yL_strikeLeg, kn_RL, kd_yL_strikeLeg⟩, by decide +kernel⟩
theorem jyL_bend : SMW yL_bend cL_bend 5 (some .int) [(0, 10, 13, 25), (0, 10, 17, 13)] 4 := ⟨⟨ks_yL_bend, kn_RL, kd_yL_bend⟩, by decide +kernel⟩
theorem jyL_setWord : SMW yL_setWord cL_setWord 5 (some .int) [(0, 10, 13, 25), (0, 10, 17, 13)] 4 := ⟨⟨ks_yL_setWord, kn_RL, kd_yL_setWord⟩, by decide +kernel⟩
theorem jyL_setStep : SMW yL_setStep cL_setStep 4 (some .int) [(0, 9, 12, 13)] 3 := ⟨⟨ks_yL_setStep, kn_RL, kd_yL_setStep⟩, by decide +kernel⟩
theorem jyL_turnOf : SMW yL_turnOf cL_turnOf 4 (some .int) [(0, 9, 12, 25)] 3 := ⟨⟨ks_yL_turnOf, kn_RL, kd_yL_turnOf⟩, by decide +kernel⟩
theorem jyL_headingOf : SMW yL_headingOf cL_headingOf 4 (some .int) [(0, 9, 12, 25)] 3 := ⟨⟨ks_yL_headingOf, kn_RL, kd_yL_headingOf⟩, by decide +kernel⟩
theorem jyL_landmarkOf : SMW yL_landmarkOf cL_landmarkOf 4 (some .int) [(0, 9, 12, 25)] 3 := ⟨⟨ks_yL_landmarkOf, kn_RL, kd_yL_landmarkOf⟩, by decide +kernel⟩
theorem jyL_noteOf : SMW yL_noteOf cL_noteOf 4 (some .int) [(0, 9, 12, 25)] 3 := ⟨⟨ks_yL_noteOf, kn_RL, kd_yL_noteOf⟩, by decide +kernel⟩
theorem jyL_isFolded : SMW yL_isFolded cL_isFolded 4 (some .int) [(0, 16, 19, 25)] 3 := ⟨⟨ks_yL_isFolded, kn_RL, kd_yL_isFolded⟩, by decide +kernel⟩
theorem jyL_wordIn : SMW yL_wordIn cL_wordIn 4 (some .int) [(0, 9, 12, 25)] 3 := ⟨⟨ks_yL_wordIn, kn_RL, kd_yL_wordIn⟩, by decide +kernel⟩
theorem jyL_wordOf : SMW yL_wordOf cL_wordOf 4 (some .int) [(0, 9, 12, 25)] 3 := ⟨⟨ks_yL_wordOf, kn_RL, kd_yL_wordOf⟩, by decide +kernel⟩
theorem jyL_sungWith : SMW yL_sungWith cL_sungWith 4 (some .int) [(0, 9, 12, 25)] 3 := ⟨⟨ks_yL_sungWith, kn_RL, kd_yL_sungWith⟩, by decide +kernel⟩
theorem jyL_readings : SMW yL_readings cL_readings 4 (some .int) [(0, 9, 12, 25)] 3 := ⟨⟨ks_yL_readings, kn_RL, kd_yL_readings⟩, by decide +kernel⟩
theorem jyL_rightReading : SMW yL_rightReading cL_rightReading 4 (some .int) [(0, 9, 12, 25)] 3 := ⟨⟨ks_yL_rightReading, kn_RL, kd_yL_rightReading⟩, by decide +kernel⟩
theorem jyL_isAmbiguous : SMW yL_isAmbiguous cL_isAmbiguous 4 (some .int) [(0, 16, 19, 25)] 3 := ⟨⟨ks_yL_isAmbiguous, kn_RL, kd_yL_isAmbiguous⟩, by decide +kernel⟩
theorem jyL_isMended : SMW yL_isMended cL_isMended 4 (some .int) [(0, 16, 19, 25)] 3 := ⟨⟨ks_yL_isMended, kn_RL, kd_yL_isMended⟩, by decide +kernel⟩
theorem jyL_mend : SMW yL_mend cL_mend 4 (some .int) [(0, 9, 12, 25), (0, 9, 15, 15)] 3 := ⟨⟨ks_yL_mend, kn_RL, kd_yL_mend⟩, by decide +kernel⟩
theorem jyL_mendTo : SMW yL_mendTo cL_mendTo 4 (some .int) [(0, 9, 12, 13)] 3 := ⟨⟨ks_yL_mendTo, kn_RL, kd_yL_mendTo⟩, by decide +kernel⟩
theorem jyL_ambiguousWith : SMW yL_ambiguousWith cL_ambiguousWith 5 (some .int) [(0, 10, 13, 25)] 4 := ⟨⟨ks_yL_ambiguousWith, kn_RL, kd_yL_ambiguousWith⟩, by decide +kernel⟩
theorem jyL_bestWord : SMW yL_bestWord cL_bestWord 4 (some .int) [(0, 9, 12, 25)] 3 := ⟨⟨ks_yL_bestWord, kn_RL, kd_yL_bestWord⟩, by decide +kernel⟩
section P31
variable {l : Launch} {D : va_G} {cyI cyZ : ClassId} {q : Nat → Nat} {N K : Nat} {n st th md : Int32} {v w : Nat → Nat → Int32} {mk : Nat → Bool}
variable {cyL : ClassId} {o : Nat} {f : Nat → Int64} {t1 t2 : Nat}
set_option maxHeartbeats 4000000 in
set_option maxRecDepth 100000 in
theorem gL_addLeg (hok : Ok N st v) (hde : Der N st v w) (e j : Nat) (ln : Int32) (he : e < 7) (hl1 : ¬ ln < 1) (hl9 : ln ≤ 9) (hj10 : j < 10) (hN16 : N < 16) (ho : ¬ own 10 q o) : Met l yL_addLeg (wmW yL_addLeg cL_addLeg 6 (some .int) [(0, 12, 15, 13), (0, 12, 19, 15)]) ({ frames := 4, cells := 0, slots := 0, locals := 89 } : Room) (va_Pc [.ref (q 0), .int (nI e - 3), .int ln, .int (nI j), .ref o] (fun U => (fun U H => (C0 D cyI cyZ q (nI N) st v mk w U H ∧ (ST t1 t2 (own 10 q)) U H) ∧ O1 D cyL o f U H : State → Heap → Prop) U U.heap)) (va_Qi (fun (r : Int32) (u : (Nat → Int64) × (Nat → Nat → Int32)) => r = 0 ∧ ∃ r9 : Int32, u.1 0 = Int32.toInt64 r9 ∧ (fun (r : Int32) (u : Nat → Nat → Int32) => r = nI N ∧ Der (N + 1) st (addV v N (nI e - 3) ln (nI j)) u) r9 u.2) (fun u U => (fun (u : (Nat → Int64) × (Nat → Nat → Int32)) => (fun U H => (fun (u : Nat → Nat → Int32) => (C0 D cyI cyZ q (nI (N + 1)) st (addV v N (nI e - 3) ln (nI j)) (va_up mk N false) u : State → Heap → Prop)) u.2 U H ∧ O1 D cyL o u.1 U H : State → Heap → Prop)) u U U.heap) (fun a => own 10 q a ∨ a = o)) 0 0 (fun a => own 10 q a ∨ a = o) := by
  refine mtW (by decide) (Nat.le_of_ble_eq_true rfl) ?_
  intro p ev s m below meth c ls hF hr hlocks htab hX hl
  have hF : CallFix p m c cL_addLeg 6 s _ wA RL := hF
  obtain ⟨hx, hb, hml, hown, hts⟩ := id hF
  have hl : lv_has ls 6 [(0, .ref (q 0)), (1, .int (nI e - 3)), (2, .int ln), (3, .int (nI j)), (4, .ref o)] := hl
  have hO : O1 D cyL o f s s.heap := hX.2
  have hZ0 : (ST t1 t2 (own 10 q)) s s.heap := hX.1.2
  have hX : C0 D cyI cyZ q (nI N) st v mk w s s.heap := hX.1.1
  have hS : va_S (fun a => own 10 q a ∨ a = o) s.heap s.heap [] := va_S.rf
  refine lv_aload hx hb dL_addLeg_0 (lv_at hl 4 rfl) ?_
  refine lv_iconst (v := 0) hx hb dL_addLeg_2 (by decide) ?_
  refine lv_aload_n hx hb dL_addLeg_3 rfl (lv_at hl 0 rfl) ?_
  refine lv_iload_n hx hb dL_addLeg_4 rfl (lv_at hl 1 rfl) ?_
  refine lv_iload_n hx hb dL_addLeg_5 rfl (lv_at hl 2 rfl) ?_
  refine lv_iload_n hx hb dL_addLeg_6 rfl (lv_at hl 3 rfl) ?_
  refine wVi (As := [.int (nI e - 3), .int ln, .int (nI j)]) (rest := [.int 0, .ref o]) hF (mX0_addLeg hok hde e j ln he hl1 hl9 hj10 hN16) (Mv.and C0.mv ST.mv) (fun _ => C0.mv) ⟨hX, hZ0⟩ hX.rc jyX0_addLeg kl_RL_7 ⟨rfl, rfl⟩ ⟨Nat.le_of_ble_eq_true rfl, Nat.le_of_ble_eq_true rfl⟩ rfl hl.1 rfl (Nat.le_of_ble_eq_true rfl) ⟨Nat.zero_le _, Nat.zero_le _⟩ hS (fun _ _ h => Or.inl h) (fun _ h => Or.inl h) dL_addLeg_7 (fun r u H locs hp hX hz hk hS => ?_)
  have hO := O1.kept hO (hk o hO.lt ho)
  refine lv_i2l hx hb dL_addLeg_10 rfl ?_
  refine O1.st hF hO hS (Or.inr rfl) dL_addLeg_11 (fun f H locs hf0 hO hz9 oq hS => ?_)
  have hX := C0.kept hX (fun a ha => oq a (fun h9 => ho (h9 ▸ ha)))
  refine lv_goto (tgt := 23) hx hb dL_addLeg_12 (by decide) ?_
  refine lv_iconst (v := 0) hx hb dL_addLeg_23 (by decide) ?_
  exact W.iret hx hb hr (fun t ht hW => ⟨⟨_, (f, u), rfl, ⟨rfl, r, hf0, hp⟩, wEnd (Mv.and C0.mv O1.mv) ⟨hX, hO⟩ ht hW⟩, hS.F ht⟩) hS.2.2 dL_addLeg_24
set_option maxHeartbeats 4000000 in
set_option maxRecDepth 100000 in
theorem gL_strikeLeg (M : Nat) (hM : M < 16) (ho : ¬ own 10 q o) : Met l yL_strikeLeg (wmW yL_strikeLeg cL_strikeLeg 3 (some .int) [(0, 8, 11, 15)]) ({ frames := 1, cells := 0, slots := 0, locals := 20 } : Room) (va_Pc [.ref (q 0), .ref o] (fun U => (fun U H => (C0 D cyI cyZ q (nI (M + 1)) st v mk w U H) ∧ O1 D cyL o f U H : State → Heap → Prop) U U.heap)) (va_Qi (fun (r : Int32) (u : (Nat → Int64) × (Unit)) => r = 0 ∧ ∃ r9 : Int32, u.1 0 = Int32.toInt64 r9 ∧ (fun (r : Int32) (u : Unit) => r = v 2 M) r9 u.2) (fun u U => (fun (u : (Nat → Int64) × (Unit)) => (fun U H => (fun (u : Unit) => (C0 D cyI cyZ q (nI M) st v mk w : State → Heap → Prop)) u.2 U H ∧ O1 D cyL o u.1 U H : State → Heap → Prop)) u U U.heap) (fun a => own 10 q a ∨ a = o)) 0 0 (fun a => own 10 q a ∨ a = o) := by
  refine mtW (by decide) (Nat.le_of_ble_eq_true rfl) ?_
  intro p ev s m below meth c ls hF hr hlocks htab hX hl
  have hF : CallFix p m c cL_strikeLeg 3 s _ wA RL := hF
  obtain ⟨hx, hb, hml, hown, hts⟩ := id hF
  have hl : lv_has ls 3 [(0, .ref (q 0)), (1, .ref o)] := hl
  have hO : O1 D cyL o f s s.heap := hX.2
  have hX : C0 D cyI cyZ q (nI (M + 1)) st v mk w s s.heap := hX.1
  have hS : va_S (fun a => own 10 q a ∨ a = o) s.heap s.heap [] := va_S.rf
  refine lv_aload_n hx hb dL_strikeLeg_0 rfl (lv_at hl 1 rfl) ?_
  refine lv_iconst (v := 0) hx hb dL_strikeLeg_1 (by decide) ?_
  refine lv_aload_n hx hb dL_strikeLeg_2 rfl (lv_at hl 0 rfl) ?_
  refine wVi (As := []) (rest := [.int 0, .ref o]) hF (mX0_strikeLeg M hM) C0.mv (fun _ => C0.mv) hX hX.rc jyX0_strikeLeg kl_RL_17 ⟨rfl, rfl⟩ ⟨Nat.le_of_ble_eq_true rfl, Nat.le_of_ble_eq_true rfl⟩ rfl hl.1 rfl (Nat.le_of_ble_eq_true rfl) ⟨Nat.zero_le _, Nat.zero_le _⟩ hS (fun _ _ h => Or.inl h) (fun _ h => Or.inl h) dL_strikeLeg_3 (fun r u H locs hp hX hz hk hS => ?_)
  have hO := O1.kept hO (hk o hO.lt ho)
  refine lv_i2l hx hb dL_strikeLeg_6 rfl ?_
  refine O1.st hF hO hS (Or.inr rfl) dL_strikeLeg_7 (fun f H locs hf0 hO hz9 oq hS => ?_)
  have hX := C0.kept hX (fun a ha => oq a (fun h9 => ho (h9 ▸ ha)))
  refine lv_goto (tgt := 14) hx hb dL_strikeLeg_8 (by decide) ?_
  refine lv_iconst (v := 0) hx hb dL_strikeLeg_14 (by decide) ?_
  exact W.iret hx hb hr (fun t ht hW => ⟨⟨_, (f, u), rfl, ⟨rfl, r, hf0, hp⟩, wEnd (Mv.and C0.mv O1.mv) ⟨hX, hO⟩ ht hW⟩, hS.F ht⟩) hS.2.2 dL_strikeLeg_15
set_option maxHeartbeats 4000000 in
set_option maxRecDepth 100000 in
theorem gL_bend (hok : Ok N st v) (hde : Der N st v w) (i e : Nat) (hi : i < N) (he : e < 7) (ho : ¬ own 10 q o) : Met l yL_bend (wmW yL_bend cL_bend 5 (some .int) [(0, 10, 13, 25), (0, 10, 17, 13)]) ({ frames := 4, cells := 0, slots := 0, locals := 88 } : Room) (va_Pc [.ref (q 0), .int (nI i), .int (nI e - 3), .ref o] (fun U => (fun U H => (C0 D cyI cyZ q (nI N) st v mk w U H ∧ (ST t1 t2 (own 10 q)) U H) ∧ O1 D cyL o f U H : State → Heap → Prop) U U.heap)) (va_Qi (fun (r : Int32) (u : (Nat → Int64) × ((Nat → Bool) × (Nat → Nat → Int32))) => r = 0 ∧ ∃ r9 : Int32, u.1 0 = Int32.toInt64 r9 ∧ (fun (r : Int32) (u : (Nat → Bool) × (Nat → Nat → Int32)) => r = v 0 i ∧ (∀ k, k < N → u.1 k = false) ∧ Der N st (va_up v 0 (upd (v 0) i (nI e - 3))) u.2) r9 u.2) (fun u U => (fun (u : (Nat → Int64) × ((Nat → Bool) × (Nat → Nat → Int32))) => (fun U H => (fun (u : (Nat → Bool) × (Nat → Nat → Int32)) => (C0 D cyI cyZ q (nI N) st (va_up v 0 (upd (v 0) i (nI e - 3))) u.1 u.2 : State → Heap → Prop)) u.2 U H ∧ O1 D cyL o u.1 U H : State → Heap → Prop)) u U U.heap) (fun a => own 10 q a ∨ a = o)) 0 0 (fun a => own 10 q a ∨ a = o) := by
  refine mtW (by decide) (Nat.le_of_ble_eq_true rfl) ?_
  intro p ev s m below meth c ls hF hr hlocks htab hX hl
  have hF : CallFix p m c cL_bend 5 s _ wA RL := hF
  obtain ⟨hx, hb, hml, hown, hts⟩ := id hF
  have hl : lv_has ls 5 [(0, .ref (q 0)), (1, .int (nI i)), (2, .int (nI e - 3)), (3, .ref o)] := hl
  have hO : O1 D cyL o f s s.heap := hX.2
  have hZ0 : (ST t1 t2 (own 10 q)) s s.heap := hX.1.2
  have hX : C0 D cyI cyZ q (nI N) st v mk w s s.heap := hX.1.1
  have hS : va_S (fun a => own 10 q a ∨ a = o) s.heap s.heap [] := va_S.rf
  refine lv_aload_n hx hb dL_bend_0 rfl (lv_at hl 3 rfl) ?_
  refine lv_iconst (v := 0) hx hb dL_bend_1 (by decide) ?_
  refine lv_aload_n hx hb dL_bend_2 rfl (lv_at hl 0 rfl) ?_
  refine lv_iload_n hx hb dL_bend_3 rfl (lv_at hl 1 rfl) ?_
  refine lv_iload_n hx hb dL_bend_4 rfl (lv_at hl 2 rfl) ?_
  refine wVi (As := [.int (nI i), .int (nI e - 3)]) (rest := [.int 0, .ref o]) hF (mX0_bend hok hde i e hi he) (Mv.and C0.mv ST.mv) (fun _ => C0.mv) ⟨hX, hZ0⟩ hX.rc jyX0_bend kl_RL_21 ⟨rfl, rfl⟩ ⟨Nat.le_of_ble_eq_true rfl, Nat.le_of_ble_eq_true rfl⟩ rfl hl.1 rfl (Nat.le_of_ble_eq_true rfl) ⟨Nat.zero_le _, Nat.zero_le _⟩ hS (fun _ _ h => Or.inl h) (fun _ h => Or.inl h) dL_bend_5 (fun r u H locs hp hX hz hk hS => ?_)
  have hO := O1.kept hO (hk o hO.lt ho)
  refine lv_i2l hx hb dL_bend_8 rfl ?_
  refine O1.st hF hO hS (Or.inr rfl) dL_bend_9 (fun f H locs hf0 hO hz9 oq hS => ?_)
  have hX := C0.kept hX (fun a ha => oq a (fun h9 => ho (h9 ▸ ha)))
  refine lv_goto (tgt := 21) hx hb dL_bend_10 (by decide) ?_
  refine lv_iconst (v := 0) hx hb dL_bend_21 (by decide) ?_
  exact W.iret hx hb hr (fun t ht hW => ⟨⟨_, (f, u), rfl, ⟨rfl, r, hf0, hp⟩, wEnd (Mv.and C0.mv O1.mv) ⟨hX, hO⟩ ht hW⟩, hS.F ht⟩) hS.2.2 dL_bend_22
set_option maxHeartbeats 4000000 in
set_option maxRecDepth 100000 in
theorem gL_setWord (hN : N ≤ 16) (j x : Nat) (hj10 : j < 10) (hx10 : x < 10) (ho : ¬ own 10 q o) : Met l yL_setWord (wmW yL_setWord cL_setWord 5 (some .int) [(0, 10, 13, 25), (0, 10, 17, 13)]) ({ frames := 3, cells := 0, slots := 0, locals := 63 } : Room) (va_Pc [.ref (q 0), .int (nI j), .int (nI x), .ref o] (fun U => (fun U H => (C0 D cyI cyZ q (nI N) st v mk w U H) ∧ O1 D cyL o f U H : State → Heap → Prop) U U.heap)) (va_Qi (fun (r : Int32) (u : (Nat → Int64) × (Nat → Bool)) => r = 0 ∧ ∃ r9 : Int32, u.1 0 = Int32.toInt64 r9 ∧ (fun (r : Int32) (u : Nat → Bool) => r = v 3 j ∧ (∀ k, k < N → u k = false)) r9 u.2) (fun u U => (fun (u : (Nat → Int64) × (Nat → Bool)) => (fun U H => (fun (u : Nat → Bool) => (C0 D cyI cyZ q (nI N) st (va_up v 3 (upd (v 3) j (nI x))) u w : State → Heap → Prop)) u.2 U H ∧ O1 D cyL o u.1 U H : State → Heap → Prop)) u U U.heap) (fun a => own 10 q a ∨ a = o)) 0 0 (fun a => own 10 q a ∨ a = o) := by
  refine mtW (by decide) (Nat.le_of_ble_eq_true rfl) ?_
  intro p ev s m below meth c ls hF hr hlocks htab hX hl
  have hF : CallFix p m c cL_setWord 5 s _ wA RL := hF
  obtain ⟨hx, hb, hml, hown, hts⟩ := id hF
  have hl : lv_has ls 5 [(0, .ref (q 0)), (1, .int (nI j)), (2, .int (nI x)), (3, .ref o)] := hl
  have hO : O1 D cyL o f s s.heap := hX.2
  have hX : C0 D cyI cyZ q (nI N) st v mk w s s.heap := hX.1
  have hS : va_S (fun a => own 10 q a ∨ a = o) s.heap s.heap [] := va_S.rf
  refine lv_aload_n hx hb dL_setWord_0 rfl (lv_at hl 3 rfl) ?_
  refine lv_iconst (v := 0) hx hb dL_setWord_1 (by decide) ?_
  refine lv_aload_n hx hb dL_setWord_2 rfl (lv_at hl 0 rfl) ?_
  refine lv_iload_n hx hb dL_setWord_3 rfl (lv_at hl 1 rfl) ?_
  refine lv_iload_n hx hb dL_setWord_4 rfl (lv_at hl 2 rfl) ?_
  refine wVi (As := [.int (nI j), .int (nI x)]) (rest := [.int 0, .ref o]) hF (mX0_setWord hN j x hj10 hx10) C0.mv (fun _ => C0.mv) hX hX.rc jyX0_setWord kl_RL_27 ⟨rfl, rfl⟩ ⟨Nat.le_of_ble_eq_true rfl, Nat.le_of_ble_eq_true rfl⟩ rfl hl.1 rfl (Nat.le_of_ble_eq_true rfl) ⟨Nat.zero_le _, Nat.zero_le _⟩ hS (fun _ _ h => Or.inl h) (fun _ h => Or.inl h) dL_setWord_5 (fun r u H locs hp hX hz hk hS => ?_)
  have hO := O1.kept hO (hk o hO.lt ho)
  refine lv_i2l hx hb dL_setWord_8 rfl ?_
  refine O1.st hF hO hS (Or.inr rfl) dL_setWord_9 (fun f H locs hf0 hO hz9 oq hS => ?_)
  have hX := C0.kept hX (fun a ha => oq a (fun h9 => ho (h9 ▸ ha)))
  refine lv_goto (tgt := 21) hx hb dL_setWord_10 (by decide) ?_
  refine lv_iconst (v := 0) hx hb dL_setWord_21 (by decide) ?_
  exact W.iret hx hb hr (fun t ht hW => ⟨⟨_, (f, u), rfl, ⟨rfl, r, hf0, hp⟩, wEnd (Mv.and C0.mv O1.mv) ⟨hX, hO⟩ ht hW⟩, hS.F ht⟩) hS.2.2 dL_setWord_22
set_option maxHeartbeats 4000000 in
set_option maxRecDepth 100000 in
theorem gL_setStep (hok : Ok N st v) (x : Nat) (hx4 : x < 4) (ho : ¬ own 10 q o) : Met l yL_setStep (wmW yL_setStep cL_setStep 4 (some .int) [(0, 9, 12, 13)]) ({ frames := 4, cells := 0, slots := 0, locals := 87 } : Room) (va_Pc [.ref (q 0), .int (nI (x + 1)), .ref o] (fun U => (fun U H => (C0 D cyI cyZ q (nI N) st v mk w U H ∧ (ST t1 t2 (own 10 q)) U H) ∧ O1 D cyL o f U H : State → Heap → Prop) U U.heap)) (va_Qi (fun (r : Int32) (u : (Nat → Int64) × ((Nat → Bool) × (Nat → Nat → Int32))) => r = 0 ∧ ∃ r9 : Int32, u.1 0 = Int32.toInt64 r9 ∧ (fun (r : Int32) (u : (Nat → Bool) × (Nat → Nat → Int32)) => r = st ∧ (∀ k, k < N → u.1 k = false) ∧ Der N (nI (x + 1)) v u.2) r9 u.2) (fun u U => (fun (u : (Nat → Int64) × ((Nat → Bool) × (Nat → Nat → Int32))) => (fun U H => (fun (u : (Nat → Bool) × (Nat → Nat → Int32)) => (C0 D cyI cyZ q (nI N) (nI (x + 1)) v u.1 u.2 : State → Heap → Prop)) u.2 U H ∧ O1 D cyL o u.1 U H : State → Heap → Prop)) u U U.heap) (fun a => own 10 q a ∨ a = o)) 0 0 (fun a => own 10 q a ∨ a = o) := by
  refine mtW (by decide) (Nat.le_of_ble_eq_true rfl) ?_
  intro p ev s m below meth c ls hF hr hlocks htab hX hl
  have hF : CallFix p m c cL_setStep 4 s _ wA RL := hF
  obtain ⟨hx, hb, hml, hown, hts⟩ := id hF
  have hl : lv_has ls 4 [(0, .ref (q 0)), (1, .int (nI (x + 1))), (2, .ref o)] := hl
  have hO : O1 D cyL o f s s.heap := hX.2
  have hZ0 : (ST t1 t2 (own 10 q)) s s.heap := hX.1.2
  have hX : C0 D cyI cyZ q (nI N) st v mk w s s.heap := hX.1.1
  have hS : va_S (fun a => own 10 q a ∨ a = o) s.heap s.heap [] := va_S.rf
  refine lv_aload_n hx hb dL_setStep_0 rfl (lv_at hl 2 rfl) ?_
  refine lv_iconst (v := 0) hx hb dL_setStep_1 (by decide) ?_
  refine lv_aload_n hx hb dL_setStep_2 rfl (lv_at hl 0 rfl) ?_
  refine lv_iload_n hx hb dL_setStep_3 rfl (lv_at hl 1 rfl) ?_
  refine wVi (As := [.int (nI (x + 1))]) (rest := [.int 0, .ref o]) hF (mX0_setStep hok x hx4) (Mv.and C0.mv ST.mv) (fun _ => C0.mv) ⟨hX, hZ0⟩ hX.rc jyX0_setStep kl_RL_30 ⟨rfl, rfl⟩ ⟨Nat.le_of_ble_eq_true rfl, Nat.le_of_ble_eq_true rfl⟩ rfl hl.1 rfl (Nat.le_of_ble_eq_true rfl) ⟨Nat.zero_le _, Nat.zero_le _⟩ hS (fun _ _ h => Or.inl h) (fun _ h => Or.inl h) dL_setStep_4 (fun r u H locs hp hX hz hk hS => ?_)
  have hO := O1.kept hO (hk o hO.lt ho)
  refine lv_i2l hx hb dL_setStep_7 rfl ?_
  refine O1.st hF hO hS (Or.inr rfl) dL_setStep_8 (fun f H locs hf0 hO hz9 oq hS => ?_)
  have hX := C0.kept hX (fun a ha => oq a (fun h9 => ho (h9 ▸ ha)))
  refine lv_goto (tgt := 15) hx hb dL_setStep_9 (by decide) ?_
  refine lv_iconst (v := 0) hx hb dL_setStep_15 (by decide) ?_
  exact W.iret hx hb hr (fun t ht hW => ⟨⟨_, (f, u), rfl, ⟨rfl, r, hf0, hp⟩, wEnd (Mv.and C0.mv O1.mv) ⟨hX, hO⟩ ht hW⟩, hS.F ht⟩) hS.2.2 dL_setStep_16
set_option maxHeartbeats 4000000 in
set_option maxRecDepth 100000 in
theorem gL_turnOf (hok : Ok N st v) (hde : Der N st v w) (i : Nat) (hi : i < N) : Met l yL_turnOf (wmW yL_turnOf cL_turnOf 4 (some .int) [(0, 9, 12, 25)]) ({ frames := 2, cells := 0, slots := 0, locals := 42 } : Room) (va_Pc [.ref (q 0), .int (nI i), .ref o] (fun U => (fun U H => (C0 D cyI cyZ q (nI N) st v mk w U H) ∧ O1 D cyL o f U H : State → Heap → Prop) U U.heap)) (va_Qi (fun (r : Int32) (u : Nat → Int64) => r = 0 ∧ u 0 = Int32.toInt64 (v 0 i)) (fun u U => (fun (u : Nat → Int64) => (O1 D cyL o u : State → Heap → Prop)) u U U.heap) (fun a => a = o)) 0 0 (fun a => a = o) := by
  refine mtW (by decide) (Nat.le_of_ble_eq_true rfl) ?_
  intro p ev s m below meth c ls hF hr hlocks htab hX hl
  have hF : CallFix p m c cL_turnOf 4 s _ wA RL := hF
  obtain ⟨hx, hb, hml, hown, hts⟩ := id hF
  have hl : lv_has ls 4 [(0, .ref (q 0)), (1, .int (nI i)), (2, .ref o)] := hl
  have hO : O1 D cyL o f s s.heap := hX.2
  have hX : C0 D cyI cyZ q (nI N) st v mk w s s.heap := hX.1
  have hS : va_S (fun a => a = o) s.heap s.heap [] := va_S.rf
  refine lv_aload_n hx hb dL_turnOf_0 rfl (lv_at hl 2 rfl) ?_
  refine lv_iconst (v := 0) hx hb dL_turnOf_1 (by decide) ?_
  refine lv_aload_n hx hb dL_turnOf_2 rfl (lv_at hl 0 rfl) ?_
  refine lv_iload_n hx hb dL_turnOf_3 rfl (lv_at hl 1 rfl) ?_
  refine cVi (As := [.int (nI i)]) (rest := [.int 0, .ref o]) hF (mX0_turnOf hok hde i hi) C0.mv hX hX.rc jyX0_turnOf kl_RL_34 ⟨rfl, rfl⟩ ⟨Nat.le_of_ble_eq_true rfl, Nat.le_of_ble_eq_true rfl⟩ rfl hl.1 rfl (Nat.le_of_ble_eq_true rfl) ⟨Nat.zero_le _, Nat.zero_le _⟩ dL_turnOf_4 (fun r hr9 => ?_)
  rw [hr9]
  refine lv_i2l hx hb dL_turnOf_7 rfl ?_
  refine O1.st hF hO hS rfl dL_turnOf_8 (fun f H locs hf0 hO hz9 oq hS => ?_)
  refine lv_goto (tgt := 15) hx hb dL_turnOf_9 (by decide) ?_
  refine lv_iconst (v := 0) hx hb dL_turnOf_15 (by decide) ?_
  exact W.iret hx hb hr (fun t ht hW => ⟨⟨_, f, rfl, ⟨rfl, hf0⟩, wEnd O1.mv hO ht hW⟩, hS.F ht⟩) hS.2.2 dL_turnOf_16
set_option maxHeartbeats 4000000 in
set_option maxRecDepth 100000 in
theorem gL_headingOf (hok : Ok N st v) (hde : Der N st v w) (i : Nat) (hi : i < N) : Met l yL_headingOf (wmW yL_headingOf cL_headingOf 4 (some .int) [(0, 9, 12, 25)]) ({ frames := 2, cells := 0, slots := 0, locals := 42 } : Room) (va_Pc [.ref (q 0), .int (nI i), .ref o] (fun U => (fun U H => (C0 D cyI cyZ q (nI N) st v mk w U H) ∧ O1 D cyL o f U H : State → Heap → Prop) U U.heap)) (va_Qi (fun (r : Int32) (u : Nat → Int64) => r = 0 ∧ u 0 = Int32.toInt64 (hd (v 0) (i + 1))) (fun u U => (fun (u : Nat → Int64) => (O1 D cyL o u : State → Heap → Prop)) u U U.heap) (fun a => a = o)) 0 0 (fun a => a = o) := by
  refine mtW (by decide) (Nat.le_of_ble_eq_true rfl) ?_
  intro p ev s m below meth c ls hF hr hlocks htab hX hl
  have hF : CallFix p m c cL_headingOf 4 s _ wA RL := hF
  obtain ⟨hx, hb, hml, hown, hts⟩ := id hF
  have hl : lv_has ls 4 [(0, .ref (q 0)), (1, .int (nI i)), (2, .ref o)] := hl
  have hO : O1 D cyL o f s s.heap := hX.2
  have hX : C0 D cyI cyZ q (nI N) st v mk w s s.heap := hX.1
  have hS : va_S (fun a => a = o) s.heap s.heap [] := va_S.rf
  refine lv_aload_n hx hb dL_headingOf_0 rfl (lv_at hl 2 rfl) ?_
  refine lv_iconst (v := 0) hx hb dL_headingOf_1 (by decide) ?_
  refine lv_aload_n hx hb dL_headingOf_2 rfl (lv_at hl 0 rfl) ?_
  refine lv_iload_n hx hb dL_headingOf_3 rfl (lv_at hl 1 rfl) ?_
  refine cVi (As := [.int (nI i)]) (rest := [.int 0, .ref o]) hF (mX0_headingOf hok hde i hi) C0.mv hX hX.rc jyX0_headingOf kl_RL_37 ⟨rfl, rfl⟩ ⟨Nat.le_of_ble_eq_true rfl, Nat.le_of_ble_eq_true rfl⟩ rfl hl.1 rfl (Nat.le_of_ble_eq_true rfl) ⟨Nat.zero_le _, Nat.zero_le _⟩ dL_headingOf_4 (fun r hr9 => ?_)
  rw [hr9]
  refine lv_i2l hx hb dL_headingOf_7 rfl ?_
  refine O1.st hF hO hS rfl dL_headingOf_8 (fun f H locs hf0 hO hz9 oq hS => ?_)
  refine lv_goto (tgt := 15) hx hb dL_headingOf_9 (by decide) ?_
  refine lv_iconst (v := 0) hx hb dL_headingOf_15 (by decide) ?_
  exact W.iret hx hb hr (fun t ht hW => ⟨⟨_, f, rfl, ⟨rfl, hf0⟩, wEnd O1.mv hO ht hW⟩, hS.F ht⟩) hS.2.2 dL_headingOf_16
set_option maxHeartbeats 4000000 in
set_option maxRecDepth 100000 in
theorem gL_landmarkOf (hok : Ok N st v) (hde : Der N st v w) (i : Nat) (hi : i < N) : Met l yL_landmarkOf (wmW yL_landmarkOf cL_landmarkOf 4 (some .int) [(0, 9, 12, 25)]) ({ frames := 2, cells := 0, slots := 0, locals := 42 } : Room) (va_Pc [.ref (q 0), .int (nI i), .ref o] (fun U => (fun U H => (C0 D cyI cyZ q (nI N) st v mk w U H) ∧ O1 D cyL o f U H : State → Heap → Prop) U U.heap)) (va_Qi (fun (r : Int32) (u : Nat → Int64) => r = 0 ∧ u 0 = Int32.toInt64 (v 2 i)) (fun u U => (fun (u : Nat → Int64) => (O1 D cyL o u : State → Heap → Prop)) u U U.heap) (fun a => a = o)) 0 0 (fun a => a = o) := by
  refine mtW (by decide) (Nat.le_of_ble_eq_true rfl) ?_
  intro p ev s m below meth c ls hF hr hlocks htab hX hl
  have hF : CallFix p m c cL_landmarkOf 4 s _ wA RL := hF
  obtain ⟨hx, hb, hml, hown, hts⟩ := id hF
  have hl : lv_has ls 4 [(0, .ref (q 0)), (1, .int (nI i)), (2, .ref o)] := hl
  have hO : O1 D cyL o f s s.heap := hX.2
  have hX : C0 D cyI cyZ q (nI N) st v mk w s s.heap := hX.1
  have hS : va_S (fun a => a = o) s.heap s.heap [] := va_S.rf
  refine lv_aload_n hx hb dL_landmarkOf_0 rfl (lv_at hl 2 rfl) ?_
  refine lv_iconst (v := 0) hx hb dL_landmarkOf_1 (by decide) ?_
  refine lv_aload_n hx hb dL_landmarkOf_2 rfl (lv_at hl 0 rfl) ?_
  refine lv_iload_n hx hb dL_landmarkOf_3 rfl (lv_at hl 1 rfl) ?_
  refine cVi (As := [.int (nI i)]) (rest := [.int 0, .ref o]) hF (mX0_landmarkOf hok hde i hi) C0.mv hX hX.rc jyX0_landmarkOf kl_RL_40 ⟨rfl, rfl⟩ ⟨Nat.le_of_ble_eq_true rfl, Nat.le_of_ble_eq_true rfl⟩ rfl hl.1 rfl (Nat.le_of_ble_eq_true rfl) ⟨Nat.zero_le _, Nat.zero_le _⟩ dL_landmarkOf_4 (fun r hr9 => ?_)
  rw [hr9]
  refine lv_i2l hx hb dL_landmarkOf_7 rfl ?_
  refine O1.st hF hO hS rfl dL_landmarkOf_8 (fun f H locs hf0 hO hz9 oq hS => ?_)
  refine lv_goto (tgt := 15) hx hb dL_landmarkOf_9 (by decide) ?_
  refine lv_iconst (v := 0) hx hb dL_landmarkOf_15 (by decide) ?_
  exact W.iret hx hb hr (fun t ht hW => ⟨⟨_, f, rfl, ⟨rfl, hf0⟩, wEnd O1.mv hO ht hW⟩, hS.F ht⟩) hS.2.2 dL_landmarkOf_16
set_option maxHeartbeats 4000000 in
set_option maxRecDepth 100000 in
theorem gL_noteOf (hok : Ok N st v) (hde : Der N st v w) (i : Nat) (hi : i < N) : Met l yL_noteOf (wmW yL_noteOf cL_noteOf 4 (some .int) [(0, 9, 12, 25)]) ({ frames := 2, cells := 0, slots := 0, locals := 42 } : Room) (va_Pc [.ref (q 0), .int (nI i), .ref o] (fun U => (fun U H => (C0 D cyI cyZ q (nI N) st v mk w U H) ∧ O1 D cyL o f U H : State → Heap → Prop) U U.heap)) (va_Qi (fun (r : Int32) (u : Nat → Int64) => r = 0 ∧ u 0 = Int32.toInt64 (nt (v 0) st (i + 1))) (fun u U => (fun (u : Nat → Int64) => (O1 D cyL o u : State → Heap → Prop)) u U U.heap) (fun a => a = o)) 0 0 (fun a => a = o) := by
  refine mtW (by decide) (Nat.le_of_ble_eq_true rfl) ?_
  intro p ev s m below meth c ls hF hr hlocks htab hX hl
  have hF : CallFix p m c cL_noteOf 4 s _ wA RL := hF
  obtain ⟨hx, hb, hml, hown, hts⟩ := id hF
  have hl : lv_has ls 4 [(0, .ref (q 0)), (1, .int (nI i)), (2, .ref o)] := hl
  have hO : O1 D cyL o f s s.heap := hX.2
  have hX : C0 D cyI cyZ q (nI N) st v mk w s s.heap := hX.1
  have hS : va_S (fun a => a = o) s.heap s.heap [] := va_S.rf
  refine lv_aload_n hx hb dL_noteOf_0 rfl (lv_at hl 2 rfl) ?_
  refine lv_iconst (v := 0) hx hb dL_noteOf_1 (by decide) ?_
  refine lv_aload_n hx hb dL_noteOf_2 rfl (lv_at hl 0 rfl) ?_
  refine lv_iload_n hx hb dL_noteOf_3 rfl (lv_at hl 1 rfl) ?_
  refine cVi (As := [.int (nI i)]) (rest := [.int 0, .ref o]) hF (mX0_noteOf hok hde i hi) C0.mv hX hX.rc jyX0_noteOf kl_RL_43 ⟨rfl, rfl⟩ ⟨Nat.le_of_ble_eq_true rfl, Nat.le_of_ble_eq_true rfl⟩ rfl hl.1 rfl (Nat.le_of_ble_eq_true rfl) ⟨Nat.zero_le _, Nat.zero_le _⟩ dL_noteOf_4 (fun r hr9 => ?_)
  rw [hr9]
  refine lv_i2l hx hb dL_noteOf_7 rfl ?_
  refine O1.st hF hO hS rfl dL_noteOf_8 (fun f H locs hf0 hO hz9 oq hS => ?_)
  refine lv_goto (tgt := 15) hx hb dL_noteOf_9 (by decide) ?_
  refine lv_iconst (v := 0) hx hb dL_noteOf_15 (by decide) ?_
  exact W.iret hx hb hr (fun t ht hW => ⟨⟨_, f, rfl, ⟨rfl, hf0⟩, wEnd O1.mv hO ht hW⟩, hS.F ht⟩) hS.2.2 dL_noteOf_16
set_option maxHeartbeats 4000000 in
set_option maxRecDepth 100000 in
theorem gL_isFolded (hok : Ok N st v) (hde : Der N st v w) (i : Nat) (hi : i < N) : Met l yL_isFolded (wmW yL_isFolded cL_isFolded 4 (some .int) [(0, 16, 19, 25)]) ({ frames := 2, cells := 0, slots := 0, locals := 42 } : Room) (va_Pc [.ref (q 0), .int (nI i), .ref o] (fun U => (fun U H => (C0 D cyI cyZ q (nI N) st v mk w U H) ∧ O1 D cyL o f U H : State → Heap → Prop) U U.heap)) (va_Qi (fun (r : Int32) (u : Nat → Int64) => r = 0 ∧ u 0 = Int32.toInt64 (b2i (fold1 v st i))) (fun u U => (fun (u : Nat → Int64) => (O1 D cyL o u : State → Heap → Prop)) u U U.heap) (fun a => a = o)) 0 0 (fun a => a = o) := by
  refine mtW (by decide) (Nat.le_of_ble_eq_true rfl) ?_
  intro p ev s m below meth c ls hF hr hlocks htab hX hl
  have hF : CallFix p m c cL_isFolded 4 s _ wA RL := hF
  obtain ⟨hx, hb, hml, hown, hts⟩ := id hF
  have hl : lv_has ls 4 [(0, .ref (q 0)), (1, .int (nI i)), (2, .ref o)] := hl
  have hO : O1 D cyL o f s s.heap := hX.2
  have hX : C0 D cyI cyZ q (nI N) st v mk w s s.heap := hX.1
  have hS : va_S (fun a => a = o) s.heap s.heap [] := va_S.rf
  refine lv_aload_n hx hb dL_isFolded_0 rfl (lv_at hl 2 rfl) ?_
  refine lv_iconst (v := 0) hx hb dL_isFolded_1 (by decide) ?_
  refine lv_aload_n hx hb dL_isFolded_2 rfl (lv_at hl 0 rfl) ?_
  refine lv_iload_n hx hb dL_isFolded_3 rfl (lv_at hl 1 rfl) ?_
  refine cVi (As := [.int (nI i)]) (rest := [.int 0, .ref o]) hF (mX0_isFolded hok hde i hi) C0.mv hX hX.rc jyX0_isFolded kl_RL_46 ⟨rfl, rfl⟩ ⟨Nat.le_of_ble_eq_true rfl, Nat.le_of_ble_eq_true rfl⟩ rfl hl.1 rfl (Nat.le_of_ble_eq_true rfl) ⟨Nat.zero_le _, Nat.zero_le _⟩ dL_isFolded_4 (fun r hr9 => ?_)
  rw [hr9]
  refine lv_if_eq (tgt := 14) hx hb dL_isFolded_7 (by decide) (fun c7 => ?_) (fun c7 => ?_)
  · have c7b := b2i_f c7
    refine lv_lconst (v := 0) hx hb dL_isFolded_14 (by decide) ?_
    refine O1.st hF hO hS rfl dL_isFolded_15 (fun f H locs hf0 hO hz9 oq hS => ?_)
    refine lv_goto (tgt := 22) hx hb dL_isFolded_16 (by decide) ?_
    refine lv_iconst (v := 0) hx hb dL_isFolded_22 (by decide) ?_
    exact W.iret hx hb hr (fun t ht hW => ⟨⟨_, f, rfl, ⟨rfl, (by rw [hf0, c7b]; decide)⟩, wEnd O1.mv hO ht hW⟩, hS.F ht⟩) hS.2.2 dL_isFolded_23
  · have c7b := b2i_t c7
    refine lv_lconst (v := 1) hx hb dL_isFolded_10 (by decide) ?_
    refine lv_goto (tgt := 15) hx hb dL_isFolded_11 (by decide) ?_
    refine O1.st hF hO hS rfl dL_isFolded_15 (fun f H locs hf0 hO hz9 oq hS => ?_)
    refine lv_goto (tgt := 22) hx hb dL_isFolded_16 (by decide) ?_
    refine lv_iconst (v := 0) hx hb dL_isFolded_22 (by decide) ?_
    exact W.iret hx hb hr (fun t ht hW => ⟨⟨_, f, rfl, ⟨rfl, (by rw [hf0, c7b]; decide)⟩, wEnd O1.mv hO ht hW⟩, hS.F ht⟩) hS.2.2 dL_isFolded_23
set_option maxHeartbeats 4000000 in
set_option maxRecDepth 100000 in
theorem gL_wordIn (hok : Ok N st v) (hde : Der N st v w) (i : Nat) (hi : i < N) : Met l yL_wordIn (wmW yL_wordIn cL_wordIn 4 (some .int) [(0, 9, 12, 25)]) ({ frames := 2, cells := 0, slots := 0, locals := 42 } : Room) (va_Pc [.ref (q 0), .int (nI i), .ref o] (fun U => (fun U H => (C0 D cyI cyZ q (nI N) st v mk w U H) ∧ O1 D cyL o f U H : State → Heap → Prop) U U.heap)) (va_Qi (fun (r : Int32) (u : Nat → Int64) => r = 0 ∧ u 0 = Int32.toInt64 (wd v i)) (fun u U => (fun (u : Nat → Int64) => (O1 D cyL o u : State → Heap → Prop)) u U U.heap) (fun a => a = o)) 0 0 (fun a => a = o) := by
  refine mtW (by decide) (Nat.le_of_ble_eq_true rfl) ?_
  intro p ev s m below meth c ls hF hr hlocks htab hX hl
  have hF : CallFix p m c cL_wordIn 4 s _ wA RL := hF
  obtain ⟨hx, hb, hml, hown, hts⟩ := id hF
  have hl : lv_has ls 4 [(0, .ref (q 0)), (1, .int (nI i)), (2, .ref o)] := hl
  have hO : O1 D cyL o f s s.heap := hX.2
  have hX : C0 D cyI cyZ q (nI N) st v mk w s s.heap := hX.1
  have hS : va_S (fun a => a = o) s.heap s.heap [] := va_S.rf
  refine lv_aload_n hx hb dL_wordIn_0 rfl (lv_at hl 2 rfl) ?_
  refine lv_iconst (v := 0) hx hb dL_wordIn_1 (by decide) ?_
  refine lv_aload_n hx hb dL_wordIn_2 rfl (lv_at hl 0 rfl) ?_
  refine lv_iload_n hx hb dL_wordIn_3 rfl (lv_at hl 1 rfl) ?_
  refine cVi (As := [.int (nI i)]) (rest := [.int 0, .ref o]) hF (mX0_wordIn hok hde i hi) C0.mv hX hX.rc jyX0_wordIn kl_RL_50 ⟨rfl, rfl⟩ ⟨Nat.le_of_ble_eq_true rfl, Nat.le_of_ble_eq_true rfl⟩ rfl hl.1 rfl (Nat.le_of_ble_eq_true rfl) ⟨Nat.zero_le _, Nat.zero_le _⟩ dL_wordIn_4 (fun r hr9 => ?_)
  rw [hr9]
  refine lv_i2l hx hb dL_wordIn_7 rfl ?_
  refine O1.st hF hO hS rfl dL_wordIn_8 (fun f H locs hf0 hO hz9 oq hS => ?_)
  refine lv_goto (tgt := 15) hx hb dL_wordIn_9 (by decide) ?_
  refine lv_iconst (v := 0) hx hb dL_wordIn_15 (by decide) ?_
  exact W.iret hx hb hr (fun t ht hW => ⟨⟨_, f, rfl, ⟨rfl, hf0⟩, wEnd O1.mv hO ht hW⟩, hS.F ht⟩) hS.2.2 dL_wordIn_16
set_option maxHeartbeats 4000000 in
set_option maxRecDepth 100000 in
theorem gL_wordOf (j : Nat) (hj : j < 10) : Met l yL_wordOf (wmW yL_wordOf cL_wordOf 4 (some .int) [(0, 9, 12, 25)]) ({ frames := 3, cells := 0, slots := 0, locals := 61 } : Room) (va_Pc [.ref (q 0), .int (nI j), .ref o] (fun U => (fun U H => (C0 D cyI cyZ q (nI N) st v mk w U H) ∧ O1 D cyL o f U H : State → Heap → Prop) U U.heap)) (va_Qi (fun (r : Int32) (u : Nat → Int64) => r = 0 ∧ u 0 = Int32.toInt64 (v 3 j)) (fun u U => (fun (u : Nat → Int64) => (O1 D cyL o u : State → Heap → Prop)) u U U.heap) (fun a => a = o)) 0 0 (fun a => a = o) := by
  refine mtW (by decide) (Nat.le_of_ble_eq_true rfl) ?_
  intro p ev s m below meth c ls hF hr hlocks htab hX hl
  have hF : CallFix p m c cL_wordOf 4 s _ wA RL := hF
  obtain ⟨hx, hb, hml, hown, hts⟩ := id hF
  have hl : lv_has ls 4 [(0, .ref (q 0)), (1, .int (nI j)), (2, .ref o)] := hl
  have hO : O1 D cyL o f s s.heap := hX.2
  have hX : C0 D cyI cyZ q (nI N) st v mk w s s.heap := hX.1
  have hS : va_S (fun a => a = o) s.heap s.heap [] := va_S.rf
  refine lv_aload_n hx hb dL_wordOf_0 rfl (lv_at hl 2 rfl) ?_
  refine lv_iconst (v := 0) hx hb dL_wordOf_1 (by decide) ?_
  refine lv_aload_n hx hb dL_wordOf_2 rfl (lv_at hl 0 rfl) ?_
  refine lv_iload_n hx hb dL_wordOf_3 rfl (lv_at hl 1 rfl) ?_
  refine cVi (As := [.int (nI j)]) (rest := [.int 0, .ref o]) hF (mX0_wordOf j hj) C0.mv hX hX.rc jyX0_wordOf kl_RL_53 ⟨rfl, rfl⟩ ⟨Nat.le_of_ble_eq_true rfl, Nat.le_of_ble_eq_true rfl⟩ rfl hl.1 rfl (Nat.le_of_ble_eq_true rfl) ⟨Nat.zero_le _, Nat.zero_le _⟩ dL_wordOf_4 (fun r hr9 => ?_)
  rw [hr9]
  refine lv_i2l hx hb dL_wordOf_7 rfl ?_
  refine O1.st hF hO hS rfl dL_wordOf_8 (fun f H locs hf0 hO hz9 oq hS => ?_)
  refine lv_goto (tgt := 15) hx hb dL_wordOf_9 (by decide) ?_
  refine lv_iconst (v := 0) hx hb dL_wordOf_15 (by decide) ?_
  exact W.iret hx hb hr (fun t ht hW => ⟨⟨_, f, rfl, ⟨rfl, hf0⟩, wEnd O1.mv hO ht hW⟩, hS.F ht⟩) hS.2.2 dL_wordOf_16
set_option maxHeartbeats 4000000 in
set_option maxRecDepth 100000 in
theorem gL_sungWith (hok : Ok N st v) (hde : Der N st v w) (x : Nat) (hx10 : x < 10) : Met l yL_sungWith (wmW yL_sungWith cL_sungWith 4 (some .int) [(0, 9, 12, 25)]) ({ frames := 3, cells := 0, slots := 0, locals := 63 } : Room) (va_Pc [.ref (q 0), .int (nI x), .ref o] (fun U => (fun U H => (C0 D cyI cyZ q (nI N) st v mk w U H) ∧ O1 D cyL o f U H : State → Heap → Prop) U U.heap)) (va_Qi (fun (r : Int32) (u : Nat → Int64) => r = 0 ∧ u 0 = Int32.toInt64 (sung v (nI x) N)) (fun u U => (fun (u : Nat → Int64) => (O1 D cyL o u : State → Heap → Prop)) u U U.heap) (fun a => a = o)) 0 0 (fun a => a = o) := by
  refine mtW (by decide) (Nat.le_of_ble_eq_true rfl) ?_
  intro p ev s m below meth c ls hF hr hlocks htab hX hl
  have hF : CallFix p m c cL_sungWith 4 s _ wA RL := hF
  obtain ⟨hx, hb, hml, hown, hts⟩ := id hF
  have hl : lv_has ls 4 [(0, .ref (q 0)), (1, .int (nI x)), (2, .ref o)] := hl
  have hO : O1 D cyL o f s s.heap := hX.2
  have hX : C0 D cyI cyZ q (nI N) st v mk w s s.heap := hX.1
  have hS : va_S (fun a => a = o) s.heap s.heap [] := va_S.rf
  refine lv_aload_n hx hb dL_sungWith_0 rfl (lv_at hl 2 rfl) ?_
  refine lv_iconst (v := 0) hx hb dL_sungWith_1 (by decide) ?_
  refine lv_aload_n hx hb dL_sungWith_2 rfl (lv_at hl 0 rfl) ?_
  refine lv_iload_n hx hb dL_sungWith_3 rfl (lv_at hl 1 rfl) ?_
  refine cVi (As := [.int (nI x)]) (rest := [.int 0, .ref o]) hF (mX0_sungWith hok hde x hx10) C0.mv hX hX.rc jyX0_sungWith kl_RL_56 ⟨rfl, rfl⟩ ⟨Nat.le_of_ble_eq_true rfl, Nat.le_of_ble_eq_true rfl⟩ rfl hl.1 rfl (Nat.le_of_ble_eq_true rfl) ⟨Nat.zero_le _, Nat.zero_le _⟩ dL_sungWith_4 (fun r hr9 => ?_)
  rw [hr9]
  refine lv_i2l hx hb dL_sungWith_7 rfl ?_
  refine O1.st hF hO hS rfl dL_sungWith_8 (fun f H locs hf0 hO hz9 oq hS => ?_)
  refine lv_goto (tgt := 15) hx hb dL_sungWith_9 (by decide) ?_
  refine lv_iconst (v := 0) hx hb dL_sungWith_15 (by decide) ?_
  exact W.iret hx hb hr (fun t ht hW => ⟨⟨_, f, rfl, ⟨rfl, hf0⟩, wEnd O1.mv hO ht hW⟩, hS.F ht⟩) hS.2.2 dL_sungWith_16
set_option maxHeartbeats 4000000 in
set_option maxRecDepth 100000 in
theorem gL_readings (hok : Ok N st v) (hde : Der N st v w) (i : Nat) (hi : i < N) : Met l yL_readings (wmW yL_readings cL_readings 4 (some .int) [(0, 9, 12, 25)]) ({ frames := 4, cells := 0, slots := 0, locals := 89 } : Room) (va_Pc [.ref (q 0), .int (nI i), .ref o] (fun U => (fun U H => (C0 D cyI cyZ q (nI N) st v mk w U H) ∧ O1 D cyL o f U H : State → Heap → Prop) U U.heap)) (va_Qi (fun (r : Int32) (u : Nat → Int64) => r = 0 ∧ u 0 = Int32.toInt64 (rdn v st i)) (fun u U => (fun (u : Nat → Int64) => (O1 D cyL o u : State → Heap → Prop)) u U U.heap) (fun a => a = o)) 0 0 (fun a => a = o) := by
  refine mtW (by decide) (Nat.le_of_ble_eq_true rfl) ?_
  intro p ev s m below meth c ls hF hr hlocks htab hX hl
  have hF : CallFix p m c cL_readings 4 s _ wA RL := hF
  obtain ⟨hx, hb, hml, hown, hts⟩ := id hF
  have hl : lv_has ls 4 [(0, .ref (q 0)), (1, .int (nI i)), (2, .ref o)] := hl
  have hO : O1 D cyL o f s s.heap := hX.2
  have hX : C0 D cyI cyZ q (nI N) st v mk w s s.heap := hX.1
  have hS : va_S (fun a => a = o) s.heap s.heap [] := va_S.rf
  refine lv_aload_n hx hb dL_readings_0 rfl (lv_at hl 2 rfl) ?_
  refine lv_iconst (v := 0) hx hb dL_readings_1 (by decide) ?_
  refine lv_aload_n hx hb dL_readings_2 rfl (lv_at hl 0 rfl) ?_
  refine lv_iload_n hx hb dL_readings_3 rfl (lv_at hl 1 rfl) ?_
  refine cVi (As := [.int (nI i)]) (rest := [.int 0, .ref o]) hF (mX0_readings hok hde i hi) C0.mv hX hX.rc jyX0_readings kl_RL_59 ⟨rfl, rfl⟩ ⟨Nat.le_of_ble_eq_true rfl, Nat.le_of_ble_eq_true rfl⟩ rfl hl.1 rfl (Nat.le_of_ble_eq_true rfl) ⟨Nat.zero_le _, Nat.zero_le _⟩ dL_readings_4 (fun r hr9 => ?_)
  rw [hr9]
  refine lv_i2l hx hb dL_readings_7 rfl ?_
  refine O1.st hF hO hS rfl dL_readings_8 (fun f H locs hf0 hO hz9 oq hS => ?_)
  refine lv_goto (tgt := 15) hx hb dL_readings_9 (by decide) ?_
  refine lv_iconst (v := 0) hx hb dL_readings_15 (by decide) ?_
  exact W.iret hx hb hr (fun t ht hW => ⟨⟨_, f, rfl, ⟨rfl, hf0⟩, wEnd O1.mv hO ht hW⟩, hS.F ht⟩) hS.2.2 dL_readings_16
set_option maxHeartbeats 4000000 in
set_option maxRecDepth 100000 in
theorem gL_rightReading (hok : Ok N st v) (hde : Der N st v w) (i : Nat) (hi : i < N) : Met l yL_rightReading (wmW yL_rightReading cL_rightReading 4 (some .int) [(0, 9, 12, 25)]) ({ frames := 4, cells := 0, slots := 0, locals := 90 } : Room) (va_Pc [.ref (q 0), .int (nI i), .ref o] (fun U => (fun U H => (C0 D cyI cyZ q (nI N) st v mk w U H) ∧ O1 D cyL o f U H : State → Heap → Prop) U U.heap)) (va_Qi (fun (r : Int32) (u : Nat → Int64) => r = 0 ∧ u 0 = Int32.toInt64 (rrn v st i)) (fun u U => (fun (u : Nat → Int64) => (O1 D cyL o u : State → Heap → Prop)) u U U.heap) (fun a => a = o)) 0 0 (fun a => a = o) := by
  refine mtW (by decide) (Nat.le_of_ble_eq_true rfl) ?_
  intro p ev s m below meth c ls hF hr hlocks htab hX hl
  have hF : CallFix p m c cL_rightReading 4 s _ wA RL := hF
  obtain ⟨hx, hb, hml, hown, hts⟩ := id hF
  have hl : lv_has ls 4 [(0, .ref (q 0)), (1, .int (nI i)), (2, .ref o)] := hl
  have hO : O1 D cyL o f s s.heap := hX.2
  have hX : C0 D cyI cyZ q (nI N) st v mk w s s.heap := hX.1
  have hS : va_S (fun a => a = o) s.heap s.heap [] := va_S.rf
  refine lv_aload_n hx hb dL_rightReading_0 rfl (lv_at hl 2 rfl) ?_
  refine lv_iconst (v := 0) hx hb dL_rightReading_1 (by decide) ?_
  refine lv_aload_n hx hb dL_rightReading_2 rfl (lv_at hl 0 rfl) ?_
  refine lv_iload_n hx hb dL_rightReading_3 rfl (lv_at hl 1 rfl) ?_
  refine cVi (As := [.int (nI i)]) (rest := [.int 0, .ref o]) hF (mX0_rightReading hok hde i hi) C0.mv hX hX.rc jyX0_rightReading kl_RL_62 ⟨rfl, rfl⟩ ⟨Nat.le_of_ble_eq_true rfl, Nat.le_of_ble_eq_true rfl⟩ rfl hl.1 rfl (Nat.le_of_ble_eq_true rfl) ⟨Nat.zero_le _, Nat.zero_le _⟩ dL_rightReading_4 (fun r hr9 => ?_)
  rw [hr9]
  refine lv_i2l hx hb dL_rightReading_7 rfl ?_
  refine O1.st hF hO hS rfl dL_rightReading_8 (fun f H locs hf0 hO hz9 oq hS => ?_)
  refine lv_goto (tgt := 15) hx hb dL_rightReading_9 (by decide) ?_
  refine lv_iconst (v := 0) hx hb dL_rightReading_15 (by decide) ?_
  exact W.iret hx hb hr (fun t ht hW => ⟨⟨_, f, rfl, ⟨rfl, hf0⟩, wEnd O1.mv hO ht hW⟩, hS.F ht⟩) hS.2.2 dL_rightReading_16
set_option maxHeartbeats 4000000 in
set_option maxRecDepth 100000 in
theorem gL_isAmbiguous (hok : Ok N st v) (hde : Der N st v w) (i : Nat) (hi : i < N) : Met l yL_isAmbiguous (wmW yL_isAmbiguous cL_isAmbiguous 4 (some .int) [(0, 16, 19, 25)]) ({ frames := 5, cells := 0, slots := 0, locals := 110 } : Room) (va_Pc [.ref (q 0), .int (nI i), .ref o] (fun U => (fun U H => (C0 D cyI cyZ q (nI N) st v mk w U H) ∧ O1 D cyL o f U H : State → Heap → Prop) U U.heap)) (va_Qi (fun (r : Int32) (u : Nat → Int64) => r = 0 ∧ u 0 = Int32.toInt64 (b2i (amb v st mk i))) (fun u U => (fun (u : Nat → Int64) => (O1 D cyL o u : State → Heap → Prop)) u U U.heap) (fun a => a = o)) 0 0 (fun a => a = o) := by
  refine mtW (by decide) (Nat.le_of_ble_eq_true rfl) ?_
  intro p ev s m below meth c ls hF hr hlocks htab hX hl
  have hF : CallFix p m c cL_isAmbiguous 4 s _ wA RL := hF
  obtain ⟨hx, hb, hml, hown, hts⟩ := id hF
  have hl : lv_has ls 4 [(0, .ref (q 0)), (1, .int (nI i)), (2, .ref o)] := hl
  have hO : O1 D cyL o f s s.heap := hX.2
  have hX : C0 D cyI cyZ q (nI N) st v mk w s s.heap := hX.1
  have hS : va_S (fun a => a = o) s.heap s.heap [] := va_S.rf
  refine lv_aload_n hx hb dL_isAmbiguous_0 rfl (lv_at hl 2 rfl) ?_
  refine lv_iconst (v := 0) hx hb dL_isAmbiguous_1 (by decide) ?_
  refine lv_aload_n hx hb dL_isAmbiguous_2 rfl (lv_at hl 0 rfl) ?_
  refine lv_iload_n hx hb dL_isAmbiguous_3 rfl (lv_at hl 1 rfl) ?_
  refine cVi (As := [.int (nI i)]) (rest := [.int 0, .ref o]) hF (mX0_isAmbiguous hok hde i hi) C0.mv hX hX.rc jyX0_isAmbiguous kl_RL_65 ⟨rfl, rfl⟩ ⟨Nat.le_of_ble_eq_true rfl, Nat.le_of_ble_eq_true rfl⟩ rfl hl.1 rfl (Nat.le_of_ble_eq_true rfl) ⟨Nat.zero_le _, Nat.zero_le _⟩ dL_isAmbiguous_4 (fun r hr9 => ?_)
  rw [hr9]
  refine lv_if_eq (tgt := 14) hx hb dL_isAmbiguous_7 (by decide) (fun c7 => ?_) (fun c7 => ?_)
  · have c7b := b2i_f c7
    refine lv_lconst (v := 0) hx hb dL_isAmbiguous_14 (by decide) ?_
    refine O1.st hF hO hS rfl dL_isAmbiguous_15 (fun f H locs hf0 hO hz9 oq hS => ?_)
    refine lv_goto (tgt := 22) hx hb dL_isAmbiguous_16 (by decide) ?_
    refine lv_iconst (v := 0) hx hb dL_isAmbiguous_22 (by decide) ?_
    exact W.iret hx hb hr (fun t ht hW => ⟨⟨_, f, rfl, ⟨rfl, (by rw [hf0, c7b]; decide)⟩, wEnd O1.mv hO ht hW⟩, hS.F ht⟩) hS.2.2 dL_isAmbiguous_23
  · have c7b := b2i_t c7
    refine lv_lconst (v := 1) hx hb dL_isAmbiguous_10 (by decide) ?_
    refine lv_goto (tgt := 15) hx hb dL_isAmbiguous_11 (by decide) ?_
    refine O1.st hF hO hS rfl dL_isAmbiguous_15 (fun f H locs hf0 hO hz9 oq hS => ?_)
    refine lv_goto (tgt := 22) hx hb dL_isAmbiguous_16 (by decide) ?_
    refine lv_iconst (v := 0) hx hb dL_isAmbiguous_22 (by decide) ?_
    exact W.iret hx hb hr (fun t ht hW => ⟨⟨_, f, rfl, ⟨rfl, (by rw [hf0, c7b]; decide)⟩, wEnd O1.mv hO ht hW⟩, hS.F ht⟩) hS.2.2 dL_isAmbiguous_23
set_option maxHeartbeats 4000000 in
set_option maxRecDepth 100000 in
theorem gL_isMended (hok : Ok N st v) (hde : Der N st v w) (i : Nat) (hi : i < N) : Met l yL_isMended (wmW yL_isMended cL_isMended 4 (some .int) [(0, 16, 19, 25)]) ({ frames := 2, cells := 0, slots := 0, locals := 42 } : Room) (va_Pc [.ref (q 0), .int (nI i), .ref o] (fun U => (fun U H => (C0 D cyI cyZ q (nI N) st v mk w U H) ∧ O1 D cyL o f U H : State → Heap → Prop) U U.heap)) (va_Qi (fun (r : Int32) (u : Nat → Int64) => r = 0 ∧ u 0 = Int32.toInt64 (b2i (mk i))) (fun u U => (fun (u : Nat → Int64) => (O1 D cyL o u : State → Heap → Prop)) u U U.heap) (fun a => a = o)) 0 0 (fun a => a = o) := by
  refine mtW (by decide) (Nat.le_of_ble_eq_true rfl) ?_
  intro p ev s m below meth c ls hF hr hlocks htab hX hl
  have hF : CallFix p m c cL_isMended 4 s _ wA RL := hF
  obtain ⟨hx, hb, hml, hown, hts⟩ := id hF
  have hl : lv_has ls 4 [(0, .ref (q 0)), (1, .int (nI i)), (2, .ref o)] := hl
  have hO : O1 D cyL o f s s.heap := hX.2
  have hX : C0 D cyI cyZ q (nI N) st v mk w s s.heap := hX.1
  have hS : va_S (fun a => a = o) s.heap s.heap [] := va_S.rf
  refine lv_aload_n hx hb dL_isMended_0 rfl (lv_at hl 2 rfl) ?_
  refine lv_iconst (v := 0) hx hb dL_isMended_1 (by decide) ?_
  refine lv_aload_n hx hb dL_isMended_2 rfl (lv_at hl 0 rfl) ?_
  refine lv_iload_n hx hb dL_isMended_3 rfl (lv_at hl 1 rfl) ?_
  refine cVi (As := [.int (nI i)]) (rest := [.int 0, .ref o]) hF (mX0_isMended hok hde i hi) C0.mv hX hX.rc jyX0_isMended kl_RL_68 ⟨rfl, rfl⟩ ⟨Nat.le_of_ble_eq_true rfl, Nat.le_of_ble_eq_true rfl⟩ rfl hl.1 rfl (Nat.le_of_ble_eq_true rfl) ⟨Nat.zero_le _, Nat.zero_le _⟩ dL_isMended_4 (fun r hr9 => ?_)
  rw [hr9]
  refine lv_if_eq (tgt := 14) hx hb dL_isMended_7 (by decide) (fun c7 => ?_) (fun c7 => ?_)
  · have c7b := b2i_f c7
    refine lv_lconst (v := 0) hx hb dL_isMended_14 (by decide) ?_
    refine O1.st hF hO hS rfl dL_isMended_15 (fun f H locs hf0 hO hz9 oq hS => ?_)
    refine lv_goto (tgt := 22) hx hb dL_isMended_16 (by decide) ?_
    refine lv_iconst (v := 0) hx hb dL_isMended_22 (by decide) ?_
    exact W.iret hx hb hr (fun t ht hW => ⟨⟨_, f, rfl, ⟨rfl, (by rw [hf0, c7b]; decide)⟩, wEnd O1.mv hO ht hW⟩, hS.F ht⟩) hS.2.2 dL_isMended_23
  · have c7b := b2i_t c7
    refine lv_lconst (v := 1) hx hb dL_isMended_10 (by decide) ?_
    refine lv_goto (tgt := 15) hx hb dL_isMended_11 (by decide) ?_
    refine O1.st hF hO hS rfl dL_isMended_15 (fun f H locs hf0 hO hz9 oq hS => ?_)
    refine lv_goto (tgt := 22) hx hb dL_isMended_16 (by decide) ?_
    refine lv_iconst (v := 0) hx hb dL_isMended_22 (by decide) ?_
    exact W.iret hx hb hr (fun t ht hW => ⟨⟨_, f, rfl, ⟨rfl, (by rw [hf0, c7b]; decide)⟩, wEnd O1.mv hO ht hW⟩, hS.F ht⟩) hS.2.2 dL_isMended_23
set_option maxHeartbeats 4000000 in
set_option maxRecDepth 100000 in
theorem gL_mend (hok : Ok N st v) (hde : Der N st v w) (i : Nat) (hi : i < N) (ha : amb v st mk i = true) (ho : ¬ own 10 q o) : Met l yL_mend (wmW yL_mend cL_mend 4 (some .int) [(0, 9, 12, 25), (0, 9, 15, 15)]) ({ frames := 6, cells := 0, slots := 0, locals := 131 } : Room) (va_Pc [.ref (q 0), .int (nI i), .ref o] (fun U => (fun U H => (C0 D cyI cyZ q (nI N) st v mk w U H) ∧ O1 D cyL o f U H : State → Heap → Prop) U U.heap)) (va_Qi (fun (r : Int32) (u : (Nat → Int64) × (Unit)) => r = 0 ∧ ∃ r9 : Int32, u.1 0 = Int32.toInt64 r9 ∧ (fun (r : Int32) (u : Unit) => r = rrn v st i) r9 u.2) (fun u U => (fun (u : (Nat → Int64) × (Unit)) => (fun U H => (fun (u : Unit) => (C0 D cyI cyZ q (nI N) st v (va_up mk i true) w : State → Heap → Prop)) u.2 U H ∧ O1 D cyL o u.1 U H : State → Heap → Prop)) u U U.heap) (fun a => own 10 q a ∨ a = o)) 0 0 (fun a => own 10 q a ∨ a = o) := by
  refine mtW (by decide) (Nat.le_of_ble_eq_true rfl) ?_
  intro p ev s m below meth c ls hF hr hlocks htab hX hl
  have hF : CallFix p m c cL_mend 4 s _ wA RL := hF
  obtain ⟨hx, hb, hml, hown, hts⟩ := id hF
  have hl : lv_has ls 4 [(0, .ref (q 0)), (1, .int (nI i)), (2, .ref o)] := hl
  have hO : O1 D cyL o f s s.heap := hX.2
  have hX : C0 D cyI cyZ q (nI N) st v mk w s s.heap := hX.1
  have hS : va_S (fun a => own 10 q a ∨ a = o) s.heap s.heap [] := va_S.rf
  refine lv_aload_n hx hb dL_mend_0 rfl (lv_at hl 2 rfl) ?_
  refine lv_iconst (v := 0) hx hb dL_mend_1 (by decide) ?_
  refine lv_aload_n hx hb dL_mend_2 rfl (lv_at hl 0 rfl) ?_
  refine lv_iload_n hx hb dL_mend_3 rfl (lv_at hl 1 rfl) ?_
  refine wVi (As := [.int (nI i)]) (rest := [.int 0, .ref o]) hF (mX0_mend hok hde i hi ha) C0.mv (fun _ => C0.mv) hX hX.rc jyX0_mend kl_RL_71 ⟨rfl, rfl⟩ ⟨Nat.le_of_ble_eq_true rfl, Nat.le_of_ble_eq_true rfl⟩ rfl hl.1 rfl (Nat.le_of_ble_eq_true rfl) ⟨Nat.zero_le _, Nat.zero_le _⟩ hS (fun _ _ h => Or.inl h) (fun _ h => Or.inl h) dL_mend_4 (fun r u H locs hp hX hz hk hS => ?_)
  have hO := O1.kept hO (hk o hO.lt ho)
  refine lv_i2l hx hb dL_mend_7 rfl ?_
  refine O1.st hF hO hS (Or.inr rfl) dL_mend_8 (fun f H locs hf0 hO hz9 oq hS => ?_)
  have hX := C0.kept hX (fun a ha => oq a (fun h9 => ho (h9 ▸ ha)))
  refine lv_goto (tgt := 18) hx hb dL_mend_9 (by decide) ?_
  refine lv_iconst (v := 0) hx hb dL_mend_18 (by decide) ?_
  exact W.iret hx hb hr (fun t ht hW => ⟨⟨_, (f, u), rfl, ⟨rfl, r, hf0, hp⟩, wEnd (Mv.and C0.mv O1.mv) ⟨hX, hO⟩ ht hW⟩, hS.F ht⟩) hS.2.2 dL_mend_19
set_option maxHeartbeats 4000000 in
set_option maxRecDepth 100000 in
theorem gL_mendTo (hok : Ok N st v) (hde : Der N st v w) (w1 : Int32) (hw1 : ¬ w1 < 1) (hw2 : w1 ≤ 1000000) (ho : ¬ own 10 q o) : Met l yL_mendTo (wmW yL_mendTo cL_mendTo 4 (some .int) [(0, 9, 12, 13)]) ({ frames := 7, cells := 0, slots := 0, locals := 156 } : Room) (va_Pc [.ref (q 0), .int w1, .ref o] (fun U => (fun U H => (C0 D cyI cyZ q (nI N) st v mk w U H) ∧ O1 D cyL o f U H : State → Heap → Prop) U U.heap)) (va_Qi (fun (r : Int32) (u : (Nat → Int64) × (Nat → Bool)) => r = 0 ∧ ∃ r9 : Int32, u.1 0 = Int32.toInt64 r9 ∧ (fun (r : Int32) (u : Nat → Bool) => r = nI (mdF v st N (Int32.toInt64 w1) N 0 mk).1 ∧ u = (mdF v st N (Int32.toInt64 w1) N 0 mk).2) r9 u.2) (fun u U => (fun (u : (Nat → Int64) × (Nat → Bool)) => (fun U H => (fun (u : Nat → Bool) => (C0 D cyI cyZ q (nI N) st v u w : State → Heap → Prop)) u.2 U H ∧ O1 D cyL o u.1 U H : State → Heap → Prop)) u U U.heap) (fun a => own 10 q a ∨ a = o)) 0 0 (fun a => own 10 q a ∨ a = o) := by
  refine mtW (by decide) (Nat.le_of_ble_eq_true rfl) ?_
  intro p ev s m below meth c ls hF hr hlocks htab hX hl
  have hF : CallFix p m c cL_mendTo 4 s _ wA RL := hF
  obtain ⟨hx, hb, hml, hown, hts⟩ := id hF
  have hl : lv_has ls 4 [(0, .ref (q 0)), (1, .int w1), (2, .ref o)] := hl
  have hO : O1 D cyL o f s s.heap := hX.2
  have hX : C0 D cyI cyZ q (nI N) st v mk w s s.heap := hX.1
  have hS : va_S (fun a => own 10 q a ∨ a = o) s.heap s.heap [] := va_S.rf
  refine lv_aload_n hx hb dL_mendTo_0 rfl (lv_at hl 2 rfl) ?_
  refine lv_iconst (v := 0) hx hb dL_mendTo_1 (by decide) ?_
  refine lv_aload_n hx hb dL_mendTo_2 rfl (lv_at hl 0 rfl) ?_
  refine lv_iload_n hx hb dL_mendTo_3 rfl (lv_at hl 1 rfl) ?_
  refine wVi (As := [.int w1]) (rest := [.int 0, .ref o]) hF (mX0_mendTo hok hde w1 hw1 hw2) C0.mv (fun _ => C0.mv) hX hX.rc jyX0_mendTo kl_RL_74 ⟨rfl, rfl⟩ ⟨Nat.le_of_ble_eq_true rfl, Nat.le_of_ble_eq_true rfl⟩ rfl hl.1 rfl (Nat.le_of_ble_eq_true rfl) ⟨Nat.zero_le _, Nat.zero_le _⟩ hS (fun _ _ h => Or.inl h) (fun _ h => Or.inl h) dL_mendTo_4 (fun r u H locs hp hX hz hk hS => ?_)
  have hO := O1.kept hO (hk o hO.lt ho)
  refine lv_i2l hx hb dL_mendTo_7 rfl ?_
  refine O1.st hF hO hS (Or.inr rfl) dL_mendTo_8 (fun f H locs hf0 hO hz9 oq hS => ?_)
  have hX := C0.kept hX (fun a ha => oq a (fun h9 => ho (h9 ▸ ha)))
  refine lv_goto (tgt := 15) hx hb dL_mendTo_9 (by decide) ?_
  refine lv_iconst (v := 0) hx hb dL_mendTo_15 (by decide) ?_
  exact W.iret hx hb hr (fun t ht hW => ⟨⟨_, (f, u), rfl, ⟨rfl, r, hf0, hp⟩, wEnd (Mv.and C0.mv O1.mv) ⟨hX, hO⟩ ht hW⟩, hS.F ht⟩) hS.2.2 dL_mendTo_16
set_option maxHeartbeats 4000000 in
set_option maxRecDepth 100000 in
theorem gL_ambiguousWith (hok : Ok N st v) (i x : Nat) (hi : i < 10) (hx10 : x < 10) : Met l yL_ambiguousWith (wmW yL_ambiguousWith cL_ambiguousWith 5 (some .int) [(0, 10, 13, 25)]) ({ frames := 5, cells := 0, slots := 0, locals := 117 } : Room) (va_Pc [.ref (q 0), .int (nI i), .int (nI x), .ref o] (fun U => (fun U H => (C0 D cyI cyZ q (nI N) st v mk w U H) ∧ O1 D cyL o f U H : State → Heap → Prop) U U.heap)) (va_Qi (fun (r : Int32) (u : Nat → Int64) => r = 0 ∧ u 0 = Int32.toInt64 (unW v st N i (nI x))) (fun u U => (fun (u : Nat → Int64) => (O1 D cyL o u : State → Heap → Prop)) u U U.heap) (fun a => a = o)) 0 0 (fun a => a = o) := by
  refine mtW (by decide) (Nat.le_of_ble_eq_true rfl) ?_
  intro p ev s m below meth c ls hF hr hlocks htab hX hl
  have hF : CallFix p m c cL_ambiguousWith 5 s _ wA RL := hF
  obtain ⟨hx, hb, hml, hown, hts⟩ := id hF
  have hl : lv_has ls 5 [(0, .ref (q 0)), (1, .int (nI i)), (2, .int (nI x)), (3, .ref o)] := hl
  have hO : O1 D cyL o f s s.heap := hX.2
  have hX : C0 D cyI cyZ q (nI N) st v mk w s s.heap := hX.1
  have hS : va_S (fun a => a = o) s.heap s.heap [] := va_S.rf
  refine lv_aload_n hx hb dL_ambiguousWith_0 rfl (lv_at hl 3 rfl) ?_
  refine lv_iconst (v := 0) hx hb dL_ambiguousWith_1 (by decide) ?_
  refine lv_aload_n hx hb dL_ambiguousWith_2 rfl (lv_at hl 0 rfl) ?_
  refine lv_iload_n hx hb dL_ambiguousWith_3 rfl (lv_at hl 1 rfl) ?_
  refine lv_iload_n hx hb dL_ambiguousWith_4 rfl (lv_at hl 2 rfl) ?_
  refine cVi (As := [.int (nI i), .int (nI x)]) (rest := [.int 0, .ref o]) hF (mX0_ambiguousWith hok i x hi hx10) C0.mv hX hX.rc jyX0_ambiguousWith kl_RL_77 ⟨rfl, rfl⟩ ⟨Nat.le_of_ble_eq_true rfl, Nat.le_of_ble_eq_true rfl⟩ rfl hl.1 rfl (Nat.le_of_ble_eq_true rfl) ⟨Nat.zero_le _, Nat.zero_le _⟩ dL_ambiguousWith_5 (fun r hr9 => ?_)
  rw [hr9]
  refine lv_i2l hx hb dL_ambiguousWith_8 rfl ?_
  refine O1.st hF hO hS rfl dL_ambiguousWith_9 (fun f H locs hf0 hO hz9 oq hS => ?_)
  refine lv_goto (tgt := 17) hx hb dL_ambiguousWith_10 (by decide) ?_
  refine lv_iconst (v := 0) hx hb dL_ambiguousWith_17 (by decide) ?_
  exact W.iret hx hb hr (fun t ht hW => ⟨⟨_, f, rfl, ⟨rfl, hf0⟩, wEnd O1.mv hO ht hW⟩, hS.F ht⟩) hS.2.2 dL_ambiguousWith_18
set_option maxHeartbeats 4000000 in
set_option maxRecDepth 100000 in
theorem gL_bestWord (hok : Ok N st v) (i : Nat) (hi : i < 10) : Met l yL_bestWord (wmW yL_bestWord cL_bestWord 4 (some .int) [(0, 9, 12, 25)]) ({ frames := 5, cells := 0, slots := 0, locals := 120 } : Room) (va_Pc [.ref (q 0), .int (nI i), .ref o] (fun U => (fun U H => (C0 D cyI cyZ q (nI N) st v mk w U H) ∧ O1 D cyL o f U H : State → Heap → Prop) U U.heap)) (va_Qi (fun (r : Int32) (u : Nat → Int64) => r = 0 ∧ u 0 = Int32.toInt64 (nI (bwd v st N i))) (fun u U => (fun (u : Nat → Int64) => (O1 D cyL o u : State → Heap → Prop)) u U U.heap) (fun a => a = o)) 0 0 (fun a => a = o) := by
  refine mtW (by decide) (Nat.le_of_ble_eq_true rfl) ?_
  intro p ev s m below meth c ls hF hr hlocks htab hX hl
  have hF : CallFix p m c cL_bestWord 4 s _ wA RL := hF
  obtain ⟨hx, hb, hml, hown, hts⟩ := id hF
  have hl : lv_has ls 4 [(0, .ref (q 0)), (1, .int (nI i)), (2, .ref o)] := hl
  have hO : O1 D cyL o f s s.heap := hX.2
  have hX : C0 D cyI cyZ q (nI N) st v mk w s s.heap := hX.1
  have hS : va_S (fun a => a = o) s.heap s.heap [] := va_S.rf
  refine lv_aload_n hx hb dL_bestWord_0 rfl (lv_at hl 2 rfl) ?_
  refine lv_iconst (v := 0) hx hb dL_bestWord_1 (by decide) ?_
  refine lv_aload_n hx hb dL_bestWord_2 rfl (lv_at hl 0 rfl) ?_
  refine lv_iload_n hx hb dL_bestWord_3 rfl (lv_at hl 1 rfl) ?_
  refine cVi (As := [.int (nI i)]) (rest := [.int 0, .ref o]) hF (mX0_bestWord hok i hi) C0.mv hX hX.rc jyX0_bestWord kl_RL_80 ⟨rfl, rfl⟩ ⟨Nat.le_of_ble_eq_true rfl, Nat.le_of_ble_eq_true rfl⟩ rfl hl.1 rfl (Nat.le_of_ble_eq_true rfl) ⟨Nat.zero_le _, Nat.zero_le _⟩ dL_bestWord_4 (fun r hr9 => ?_)
  rw [hr9]
  refine lv_i2l hx hb dL_bestWord_7 rfl ?_
  refine O1.st hF hO hS rfl dL_bestWord_8 (fun f H locs hf0 hO hz9 oq hS => ?_)
  refine lv_goto (tgt := 15) hx hb dL_bestWord_9 (by decide) ?_
  refine lv_iconst (v := 0) hx hb dL_bestWord_15 (by decide) ?_
  exact W.iret hx hb hr (fun t ht hW => ⟨⟨_, f, rfl, ⟨rfl, hf0⟩, wEnd O1.mv hO ht hW⟩, hS.F ht⟩) hS.2.2 dL_bestWord_16
set_option maxHeartbeats 4000000 in
set_option maxRecDepth 100000 in
theorem bL_addLeg1 (hsT : l.stackTraces = false) (a : Int32) (hb9 : a < -3 ∨ 3 < a) (ln b : Int32) : Met l yL_addLeg (wmW yL_addLeg cL_addLeg 6 (some .int) [(0, 12, 15, 13), (0, 12, 19, 15)]) ({ frames := 8, cells := 1, slots := 6, locals := 126 } : Room) (va_Pc [.ref (q 0), .int a, .int ln, .int b, .ref o] (fun U => (fun U H => (C0 D cyI cyZ q (nI N) st v mk w U H ∧ TH (fun _ => False) U H) ∧ NC U H : State → Heap → Prop) U U.heap)) (va_Qi (fun (r : Int32) (_ : Unit) => r = 1) (fun _ _ => True) (fun _ => False)) 1 6 (fun _ => False) := by
  refine mtW (by decide) (Nat.le_of_ble_eq_true rfl) ?_
  intro p ev s m below meth c ls hF hr hlocks htab hX hl
  have hF : CallFix p m c cL_addLeg 6 s _ wA RL := hF
  obtain ⟨hx, hb, hml, hown, hts⟩ := id hF
  have hl : lv_has ls 6 [(0, .ref (q 0)), (1, .int a), (2, .int ln), (3, .int b), (4, .ref o)] := hl
  have hNC : NC s s.heap := hX.2
  have hTH : TH (fun _ => False) s s.heap := hX.1.2
  have hX : C0 D cyI cyZ q (nI N) st v mk w s s.heap := hX.1.1
  have hS : va_S (fun _ => False) s.heap s.heap [] := va_S.rf
  refine lv_aload hx hb dL_addLeg_0 (lv_at hl 4 rfl) ?_
  refine lv_iconst (v := 0) hx hb dL_addLeg_2 (by decide) ?_
  refine lv_aload_n hx hb dL_addLeg_3 rfl (lv_at hl 0 rfl) ?_
  refine lv_iload_n hx hb dL_addLeg_4 rfl (lv_at hl 1 rfl) ?_
  refine lv_iload_n hx hb dL_addLeg_5 rfl (lv_at hl 2 rfl) ?_
  refine lv_iload_n hx hb dL_addLeg_6 rfl (lv_at hl 3 rfl) ?_
  refine xV (As := [.int a, .int ln, .int b]) (rest := [.int 0, .ref o]) hF (tX0_addLeg1 hsT a hb9 ln b) (Wm.and C0.mv.wm TH.wm) Mv.const ⟨hX, hTH⟩ hX.rc jyX0_addLeg kl_RL_7 ⟨rfl, rfl⟩ ⟨Nat.le_of_ble_eq_true rfl, Nat.le_of_ble_eq_true rfl⟩ rfl hl.1 rfl (Nat.le_of_ble_eq_true rfl) ⟨Nat.le_of_ble_eq_true rfl, Nat.le_of_ble_eq_true rfl⟩ hS dL_addLeg_7 (fun ce q9 H locs _ hz hk hS hce hcv hcl => ?_)
  refine vx_catch hown [] (⟨0, 12, 15, 13⟩ : ExceptionTableEntry) [(⟨0, 12, 19, 15⟩ : ExceptionTableEntry)] htab (fun z hz9 => absurd hz9 List.not_mem_nil) (by decide) (by decide) (hts _ kc_RL_13) (exCast (by decide) hTH rfl) hce hcv hcl ?_
  refine lv_astore (lv' := [(5, .ref q9), (0, .ref (q 0)), (1, .int a), (2, .int ln), (3, .int b), (4, .ref o)]) hx hb dL_addLeg_15 hl (by decide) rfl (fun ls hl => ?_)
  refine lv_iconst (v := 1) hx hb dL_addLeg_17 (by decide) ?_
  exact W.iret hx hb hr (fun t ht hW => ⟨⟨_, (), rfl, rfl, trivial⟩, hS.F ht⟩) hS.2.2 dL_addLeg_18
set_option maxHeartbeats 4000000 in
set_option maxRecDepth 100000 in
theorem bL_addLeg2 (hsT : l.stackTraces = false) (e : Nat) (he : e < 7) (ln b : Int32) (hb9 : ln < 1 ∨ 9 < ln) : Met l yL_addLeg (wmW yL_addLeg cL_addLeg 6 (some .int) [(0, 12, 15, 13), (0, 12, 19, 15)]) ({ frames := 7, cells := 1, slots := 6, locals := 106 } : Room) (va_Pc [.ref (q 0), .int (nI e - 3), .int ln, .int b, .ref o] (fun U => (fun U H => (C0 D cyI cyZ q (nI N) st v mk w U H ∧ TH (fun _ => False) U H) ∧ NC U H : State → Heap → Prop) U U.heap)) (va_Qi (fun (r : Int32) (_ : Unit) => r = 1) (fun _ _ => True) (fun _ => False)) 1 6 (fun _ => False) := by
  refine mtW (by decide) (Nat.le_of_ble_eq_true rfl) ?_
  intro p ev s m below meth c ls hF hr hlocks htab hX hl
  have hF : CallFix p m c cL_addLeg 6 s _ wA RL := hF
  obtain ⟨hx, hb, hml, hown, hts⟩ := id hF
  have hl : lv_has ls 6 [(0, .ref (q 0)), (1, .int (nI e - 3)), (2, .int ln), (3, .int b), (4, .ref o)] := hl
  have hNC : NC s s.heap := hX.2
  have hTH : TH (fun _ => False) s s.heap := hX.1.2
  have hX : C0 D cyI cyZ q (nI N) st v mk w s s.heap := hX.1.1
  have hS : va_S (fun _ => False) s.heap s.heap [] := va_S.rf
  refine lv_aload hx hb dL_addLeg_0 (lv_at hl 4 rfl) ?_
  refine lv_iconst (v := 0) hx hb dL_addLeg_2 (by decide) ?_
  refine lv_aload_n hx hb dL_addLeg_3 rfl (lv_at hl 0 rfl) ?_
  refine lv_iload_n hx hb dL_addLeg_4 rfl (lv_at hl 1 rfl) ?_
  refine lv_iload_n hx hb dL_addLeg_5 rfl (lv_at hl 2 rfl) ?_
  refine lv_iload_n hx hb dL_addLeg_6 rfl (lv_at hl 3 rfl) ?_
  refine xV (As := [.int (nI e - 3), .int ln, .int b]) (rest := [.int 0, .ref o]) hF (tX0_addLeg2 hsT e he ln b hb9) (Wm.and C0.mv.wm TH.wm) Mv.const ⟨hX, hTH⟩ hX.rc jyX0_addLeg kl_RL_7 ⟨rfl, rfl⟩ ⟨Nat.le_of_ble_eq_true rfl, Nat.le_of_ble_eq_true rfl⟩ rfl hl.1 rfl (Nat.le_of_ble_eq_true rfl) ⟨Nat.le_of_ble_eq_true rfl, Nat.le_of_ble_eq_true rfl⟩ hS dL_addLeg_7 (fun ce q9 H locs _ hz hk hS hce hcv hcl => ?_)
  refine vx_catch hown [] (⟨0, 12, 15, 13⟩ : ExceptionTableEntry) [(⟨0, 12, 19, 15⟩ : ExceptionTableEntry)] htab (fun z hz9 => absurd hz9 List.not_mem_nil) (by decide) (by decide) (hts _ kc_RL_13) (exCast (by decide) hTH rfl) hce hcv hcl ?_
  refine lv_astore (lv' := [(5, .ref q9), (0, .ref (q 0)), (1, .int (nI e - 3)), (2, .int ln), (3, .int b), (4, .ref o)]) hx hb dL_addLeg_15 hl (by decide) rfl (fun ls hl => ?_)
  refine lv_iconst (v := 1) hx hb dL_addLeg_17 (by decide) ?_
  exact W.iret hx hb hr (fun t ht hW => ⟨⟨_, (), rfl, rfl, trivial⟩, hS.F ht⟩) hS.2.2 dL_addLeg_18
set_option maxHeartbeats 4000000 in
set_option maxRecDepth 100000 in
theorem bL_addLeg3 (hsT : l.stackTraces = false) (e : Nat) (he : e < 7) (ln b : Int32) (hl1 : ¬ ln < 1) (hl9 : ln ≤ 9) (hb9 : in10 b = false) : Met l yL_addLeg (wmW yL_addLeg cL_addLeg 6 (some .int) [(0, 12, 15, 13), (0, 12, 19, 15)]) ({ frames := 7, cells := 1, slots := 6, locals := 106 } : Room) (va_Pc [.ref (q 0), .int (nI e - 3), .int ln, .int b, .ref o] (fun U => (fun U H => (C0 D cyI cyZ q (nI N) st v mk w U H ∧ TH (fun _ => False) U H) ∧ NC U H : State → Heap → Prop) U U.heap)) (va_Qi (fun (r : Int32) (_ : Unit) => r = 1) (fun _ _ => True) (fun _ => False)) 1 6 (fun _ => False) := by
  refine mtW (by decide) (Nat.le_of_ble_eq_true rfl) ?_
  intro p ev s m below meth c ls hF hr hlocks htab hX hl
  have hF : CallFix p m c cL_addLeg 6 s _ wA RL := hF
  obtain ⟨hx, hb, hml, hown, hts⟩ := id hF
  have hl : lv_has ls 6 [(0, .ref (q 0)), (1, .int (nI e - 3)), (2, .int ln), (3, .int b), (4, .ref o)] := hl
  have hNC : NC s s.heap := hX.2
  have hTH : TH (fun _ => False) s s.heap := hX.1.2
  have hX : C0 D cyI cyZ q (nI N) st v mk w s s.heap := hX.1.1
  have hS : va_S (fun _ => False) s.heap s.heap [] := va_S.rf
  refine lv_aload hx hb dL_addLeg_0 (lv_at hl 4 rfl) ?_
  refine lv_iconst (v := 0) hx hb dL_addLeg_2 (by decide) ?_
  refine lv_aload_n hx hb dL_addLeg_3 rfl (lv_at hl 0 rfl) ?_
  refine lv_iload_n hx hb dL_addLeg_4 rfl (lv_at hl 1 rfl) ?_
  refine lv_iload_n hx hb dL_addLeg_5 rfl (lv_at hl 2 rfl) ?_
  refine lv_iload_n hx hb dL_addLeg_6 rfl (lv_at hl 3 rfl) ?_
  refine xV (As := [.int (nI e - 3), .int ln, .int b]) (rest := [.int 0, .ref o]) hF (tX0_addLeg3 hsT e he ln b hl1 hl9 hb9) (Wm.and C0.mv.wm TH.wm) Mv.const ⟨hX, hTH⟩ hX.rc jyX0_addLeg kl_RL_7 ⟨rfl, rfl⟩ ⟨Nat.le_of_ble_eq_true rfl, Nat.le_of_ble_eq_true rfl⟩ rfl hl.1 rfl (Nat.le_of_ble_eq_true rfl) ⟨Nat.le_of_ble_eq_true rfl, Nat.le_of_ble_eq_true rfl⟩ hS dL_addLeg_7 (fun ce q9 H locs _ hz hk hS hce hcv hcl => ?_)
  refine vx_catch hown [] (⟨0, 12, 15, 13⟩ : ExceptionTableEntry) [(⟨0, 12, 19, 15⟩ : ExceptionTableEntry)] htab (fun z hz9 => absurd hz9 List.not_mem_nil) (by decide) (by decide) (hts _ kc_RL_13) (exCast (by decide) hTH rfl) hce hcv hcl ?_
  refine lv_astore (lv' := [(5, .ref q9), (0, .ref (q 0)), (1, .int (nI e - 3)), (2, .int ln), (3, .int b), (4, .ref o)]) hx hb dL_addLeg_15 hl (by decide) rfl (fun ls hl => ?_)
  refine lv_iconst (v := 1) hx hb dL_addLeg_17 (by decide) ?_
  exact W.iret hx hb hr (fun t ht hW => ⟨⟨_, (), rfl, rfl, trivial⟩, hS.F ht⟩) hS.2.2 dL_addLeg_18
set_option maxHeartbeats 4000000 in
set_option maxRecDepth 100000 in
theorem bL_addLeg4 (hsT : l.stackTraces = false) (e : Nat) (he : e < 7) (ln : Int32) (j : Nat) (hl1 : ¬ ln < 1) (hl9 : ln ≤ 9) (hj10 : j < 10) : Met l yL_addLeg (wmW yL_addLeg cL_addLeg 6 (some .int) [(0, 12, 15, 13), (0, 12, 19, 15)]) ({ frames := 7, cells := 1, slots := 6, locals := 106 } : Room) (va_Pc [.ref (q 0), .int (nI e - 3), .int ln, .int (nI j), .ref o] (fun U => (fun U H => (C0 D cyI cyZ q (nI 16) st v mk w U H ∧ TH (fun _ => False) U H) ∧ NC U H : State → Heap → Prop) U U.heap)) (va_Qi (fun (r : Int32) (_ : Unit) => r = 2) (fun _ _ => True) (fun _ => False)) 1 6 (fun _ => False) := by
  refine mtW (by decide) (Nat.le_of_ble_eq_true rfl) ?_
  intro p ev s m below meth c ls hF hr hlocks htab hX hl
  have hF : CallFix p m c cL_addLeg 6 s _ wA RL := hF
  obtain ⟨hx, hb, hml, hown, hts⟩ := id hF
  have hl : lv_has ls 6 [(0, .ref (q 0)), (1, .int (nI e - 3)), (2, .int ln), (3, .int (nI j)), (4, .ref o)] := hl
  have hNC : NC s s.heap := hX.2
  have hTH : TH (fun _ => False) s s.heap := hX.1.2
  have hX : C0 D cyI cyZ q (nI 16) st v mk w s s.heap := hX.1.1
  have hS : va_S (fun _ => False) s.heap s.heap [] := va_S.rf
  refine lv_aload hx hb dL_addLeg_0 (lv_at hl 4 rfl) ?_
  refine lv_iconst (v := 0) hx hb dL_addLeg_2 (by decide) ?_
  refine lv_aload_n hx hb dL_addLeg_3 rfl (lv_at hl 0 rfl) ?_
  refine lv_iload_n hx hb dL_addLeg_4 rfl (lv_at hl 1 rfl) ?_
  refine lv_iload_n hx hb dL_addLeg_5 rfl (lv_at hl 2 rfl) ?_
  refine lv_iload_n hx hb dL_addLeg_6 rfl (lv_at hl 3 rfl) ?_
  refine xV (As := [.int (nI e - 3), .int ln, .int (nI j)]) (rest := [.int 0, .ref o]) hF (tX0_addLeg4 hsT e he ln j hl1 hl9 hj10) (Wm.and C0.mv.wm TH.wm) Mv.const ⟨hX, hTH⟩ hX.rc jyX0_addLeg kl_RL_7 ⟨rfl, rfl⟩ ⟨Nat.le_of_ble_eq_true rfl, Nat.le_of_ble_eq_true rfl⟩ rfl hl.1 rfl (Nat.le_of_ble_eq_true rfl) ⟨Nat.le_of_ble_eq_true rfl, Nat.le_of_ble_eq_true rfl⟩ hS dL_addLeg_7 (fun ce q9 H locs _ hz hk hS hce hcv hcl => ?_)
  refine vx_catch hown [(⟨0, 12, 15, 13⟩ : ExceptionTableEntry)] (⟨0, 12, 19, 15⟩ : ExceptionTableEntry) [] htab (fun z hz9 => by cases (List.mem_singleton.mp hz9); exact Or.inr ⟨by decide, _, hts _ kc_RL_13, hNC.1⟩) (by decide) (by decide) (hts _ kc_RL_15) (exCast (by decide) hTH rfl) hce hcv hcl ?_
  refine lv_astore (lv' := [(5, .ref q9), (0, .ref (q 0)), (1, .int (nI e - 3)), (2, .int ln), (3, .int (nI j)), (4, .ref o)]) hx hb dL_addLeg_19 hl (by decide) rfl (fun ls hl => ?_)
  refine lv_iconst (v := 2) hx hb dL_addLeg_21 (by decide) ?_
  exact W.iret hx hb hr (fun t ht hW => ⟨⟨_, (), rfl, rfl, trivial⟩, hS.F ht⟩) hS.2.2 dL_addLeg_22
set_option maxHeartbeats 4000000 in
set_option maxRecDepth 100000 in
theorem bL_strikeLeg (hsT : l.stackTraces = false)  : Met l yL_strikeLeg (wmW yL_strikeLeg cL_strikeLeg 3 (some .int) [(0, 8, 11, 15)]) ({ frames := 7, cells := 1, slots := 6, locals := 102 } : Room) (va_Pc [.ref (q 0), .ref o] (fun U => (fun U H => (C0 D cyI cyZ q (nI 0) st v mk w U H ∧ TH (fun _ => False) U H) ∧ NC U H : State → Heap → Prop) U U.heap)) (va_Qi (fun (r : Int32) (_ : Unit) => r = 1) (fun _ _ => True) (fun _ => False)) 1 6 (fun _ => False) := by
  refine mtW (by decide) (Nat.le_of_ble_eq_true rfl) ?_
  intro p ev s m below meth c ls hF hr hlocks htab hX hl
  have hF : CallFix p m c cL_strikeLeg 3 s _ wA RL := hF
  obtain ⟨hx, hb, hml, hown, hts⟩ := id hF
  have hl : lv_has ls 3 [(0, .ref (q 0)), (1, .ref o)] := hl
  have hNC : NC s s.heap := hX.2
  have hTH : TH (fun _ => False) s s.heap := hX.1.2
  have hX : C0 D cyI cyZ q (nI 0) st v mk w s s.heap := hX.1.1
  have hS : va_S (fun _ => False) s.heap s.heap [] := va_S.rf
  refine lv_aload_n hx hb dL_strikeLeg_0 rfl (lv_at hl 1 rfl) ?_
  refine lv_iconst (v := 0) hx hb dL_strikeLeg_1 (by decide) ?_
  refine lv_aload_n hx hb dL_strikeLeg_2 rfl (lv_at hl 0 rfl) ?_
  refine xV (As := []) (rest := [.int 0, .ref o]) hF (tX0_strikeLeg hsT) (Wm.and C0.mv.wm TH.wm) Mv.const ⟨hX, hTH⟩ hX.rc jyX0_strikeLeg kl_RL_17 ⟨rfl, rfl⟩ ⟨Nat.le_of_ble_eq_true rfl, Nat.le_of_ble_eq_true rfl⟩ rfl hl.1 rfl (Nat.le_of_ble_eq_true rfl) ⟨Nat.le_of_ble_eq_true rfl, Nat.le_of_ble_eq_true rfl⟩ hS dL_strikeLeg_3 (fun ce q9 H locs _ hz hk hS hce hcv hcl => ?_)
  refine vx_catch hown [] (⟨0, 8, 11, 15⟩ : ExceptionTableEntry) [] htab (fun z hz9 => absurd hz9 List.not_mem_nil) (by decide) (by decide) (hts _ kc_RL_15) (exCast (by decide) hTH rfl) hce hcv hcl ?_
  refine lv_astore_n (lv' := [(2, .ref q9), (0, .ref (q 0)), (1, .ref o)]) hx hb dL_strikeLeg_11 rfl hl (by decide) rfl (fun ls hl => ?_)
  refine lv_iconst (v := 1) hx hb dL_strikeLeg_12 (by decide) ?_
  exact W.iret hx hb hr (fun t ht hW => ⟨⟨_, (), rfl, rfl, trivial⟩, hS.F ht⟩) hS.2.2 dL_strikeLeg_13
set_option maxHeartbeats 4000000 in
set_option maxRecDepth 100000 in
theorem bL_bend1 (hsT : l.stackTraces = false) (a : Int32) (hb9 : a < 0 ∨ nI N ≤ a) (b : Int32) : Met l yL_bend (wmW yL_bend cL_bend 5 (some .int) [(0, 10, 13, 25), (0, 10, 17, 13)]) ({ frames := 8, cells := 1, slots := 6, locals := 126 } : Room) (va_Pc [.ref (q 0), .int a, .int b, .ref o] (fun U => (fun U H => (C0 D cyI cyZ q (nI N) st v mk w U H ∧ TH (fun _ => False) U H) ∧ NC U H : State → Heap → Prop) U U.heap)) (va_Qi (fun (r : Int32) (_ : Unit) => r = 1) (fun _ _ => True) (fun _ => False)) 1 6 (fun _ => False) := by
  refine mtW (by decide) (Nat.le_of_ble_eq_true rfl) ?_
  intro p ev s m below meth c ls hF hr hlocks htab hX hl
  have hF : CallFix p m c cL_bend 5 s _ wA RL := hF
  obtain ⟨hx, hb, hml, hown, hts⟩ := id hF
  have hl : lv_has ls 5 [(0, .ref (q 0)), (1, .int a), (2, .int b), (3, .ref o)] := hl
  have hNC : NC s s.heap := hX.2
  have hTH : TH (fun _ => False) s s.heap := hX.1.2
  have hX : C0 D cyI cyZ q (nI N) st v mk w s s.heap := hX.1.1
  have hS : va_S (fun _ => False) s.heap s.heap [] := va_S.rf
  refine lv_aload_n hx hb dL_bend_0 rfl (lv_at hl 3 rfl) ?_
  refine lv_iconst (v := 0) hx hb dL_bend_1 (by decide) ?_
  refine lv_aload_n hx hb dL_bend_2 rfl (lv_at hl 0 rfl) ?_
  refine lv_iload_n hx hb dL_bend_3 rfl (lv_at hl 1 rfl) ?_
  refine lv_iload_n hx hb dL_bend_4 rfl (lv_at hl 2 rfl) ?_
  refine xV (As := [.int a, .int b]) (rest := [.int 0, .ref o]) hF (tX0_bend1 hsT a hb9 b) (Wm.and C0.mv.wm TH.wm) Mv.const ⟨hX, hTH⟩ hX.rc jyX0_bend kl_RL_21 ⟨rfl, rfl⟩ ⟨Nat.le_of_ble_eq_true rfl, Nat.le_of_ble_eq_true rfl⟩ rfl hl.1 rfl (Nat.le_of_ble_eq_true rfl) ⟨Nat.le_of_ble_eq_true rfl, Nat.le_of_ble_eq_true rfl⟩ hS dL_bend_5 (fun ce q9 H locs _ hz hk hS hce hcv hcl => ?_)
  refine vx_catch hown [] (⟨0, 10, 13, 25⟩ : ExceptionTableEntry) [(⟨0, 10, 17, 13⟩ : ExceptionTableEntry)] htab (fun z hz9 => absurd hz9 List.not_mem_nil) (by decide) (by decide) (hts _ kc_RL_25) (exCast (by decide) hTH rfl) hce hcv hcl ?_
  refine lv_astore (lv' := [(4, .ref q9), (0, .ref (q 0)), (1, .int a), (2, .int b), (3, .ref o)]) hx hb dL_bend_13 hl (by decide) rfl (fun ls hl => ?_)
  refine lv_iconst (v := 1) hx hb dL_bend_15 (by decide) ?_
  exact W.iret hx hb hr (fun t ht hW => ⟨⟨_, (), rfl, rfl, trivial⟩, hS.F ht⟩) hS.2.2 dL_bend_16
set_option maxHeartbeats 4000000 in
set_option maxRecDepth 100000 in
theorem bL_bend2 (hsT : l.stackTraces = false) (i : Nat) (hi : i < N) (hN : N ≤ 16) (a : Int32) (hb9 : a < -3 ∨ 3 < a) : Met l yL_bend (wmW yL_bend cL_bend 5 (some .int) [(0, 10, 13, 25), (0, 10, 17, 13)]) ({ frames := 8, cells := 1, slots := 6, locals := 125 } : Room) (va_Pc [.ref (q 0), .int (nI i), .int a, .ref o] (fun U => (fun U H => (C0 D cyI cyZ q (nI N) st v mk w U H ∧ TH (fun _ => False) U H) ∧ NC U H : State → Heap → Prop) U U.heap)) (va_Qi (fun (r : Int32) (_ : Unit) => r = 2) (fun _ _ => True) (fun _ => False)) 1 6 (fun _ => False) := by
  refine mtW (by decide) (Nat.le_of_ble_eq_true rfl) ?_
  intro p ev s m below meth c ls hF hr hlocks htab hX hl
  have hF : CallFix p m c cL_bend 5 s _ wA RL := hF
  obtain ⟨hx, hb, hml, hown, hts⟩ := id hF
  have hl : lv_has ls 5 [(0, .ref (q 0)), (1, .int (nI i)), (2, .int a), (3, .ref o)] := hl
  have hNC : NC s s.heap := hX.2
  have hTH : TH (fun _ => False) s s.heap := hX.1.2
  have hX : C0 D cyI cyZ q (nI N) st v mk w s s.heap := hX.1.1
  have hS : va_S (fun _ => False) s.heap s.heap [] := va_S.rf
  refine lv_aload_n hx hb dL_bend_0 rfl (lv_at hl 3 rfl) ?_
  refine lv_iconst (v := 0) hx hb dL_bend_1 (by decide) ?_
  refine lv_aload_n hx hb dL_bend_2 rfl (lv_at hl 0 rfl) ?_
  refine lv_iload_n hx hb dL_bend_3 rfl (lv_at hl 1 rfl) ?_
  refine lv_iload_n hx hb dL_bend_4 rfl (lv_at hl 2 rfl) ?_
  refine xV (As := [.int (nI i), .int a]) (rest := [.int 0, .ref o]) hF (tX0_bend2 hsT i hi hN a hb9) (Wm.and C0.mv.wm TH.wm) Mv.const ⟨hX, hTH⟩ hX.rc jyX0_bend kl_RL_21 ⟨rfl, rfl⟩ ⟨Nat.le_of_ble_eq_true rfl, Nat.le_of_ble_eq_true rfl⟩ rfl hl.1 rfl (Nat.le_of_ble_eq_true rfl) ⟨Nat.le_of_ble_eq_true rfl, Nat.le_of_ble_eq_true rfl⟩ hS dL_bend_5 (fun ce q9 H locs _ hz hk hS hce hcv hcl => ?_)
  refine vx_catch hown [(⟨0, 10, 13, 25⟩ : ExceptionTableEntry)] (⟨0, 10, 17, 13⟩ : ExceptionTableEntry) [] htab (fun z hz9 => by cases (List.mem_singleton.mp hz9); exact Or.inr ⟨by decide, _, hts _ kc_RL_25, hNC.2.1⟩) (by decide) (by decide) (hts _ kc_RL_13) (exCast (by decide) hTH rfl) hce hcv hcl ?_
  refine lv_astore (lv' := [(4, .ref q9), (0, .ref (q 0)), (1, .int (nI i)), (2, .int a), (3, .ref o)]) hx hb dL_bend_17 hl (by decide) rfl (fun ls hl => ?_)
  refine lv_iconst (v := 2) hx hb dL_bend_19 (by decide) ?_
  exact W.iret hx hb hr (fun t ht hW => ⟨⟨_, (), rfl, rfl, trivial⟩, hS.F ht⟩) hS.2.2 dL_bend_20
set_option maxHeartbeats 4000000 in
set_option maxRecDepth 100000 in
theorem bL_setWord1 (hsT : l.stackTraces = false) (a b : Int32) (hb9 : in10 a = false) : Met l yL_setWord (wmW yL_setWord cL_setWord 5 (some .int) [(0, 10, 13, 25), (0, 10, 17, 13)]) ({ frames := 8, cells := 1, slots := 6, locals := 125 } : Room) (va_Pc [.ref (q 0), .int a, .int b, .ref o] (fun U => (fun U H => (C0 D cyI cyZ q (nI N) st v mk w U H ∧ TH (fun _ => False) U H) ∧ NC U H : State → Heap → Prop) U U.heap)) (va_Qi (fun (r : Int32) (_ : Unit) => r = 1) (fun _ _ => True) (fun _ => False)) 1 6 (fun _ => False) := by
  refine mtW (by decide) (Nat.le_of_ble_eq_true rfl) ?_
  intro p ev s m below meth c ls hF hr hlocks htab hX hl
  have hF : CallFix p m c cL_setWord 5 s _ wA RL := hF
  obtain ⟨hx, hb, hml, hown, hts⟩ := id hF
  have hl : lv_has ls 5 [(0, .ref (q 0)), (1, .int a), (2, .int b), (3, .ref o)] := hl
  have hNC : NC s s.heap := hX.2
  have hTH : TH (fun _ => False) s s.heap := hX.1.2
  have hX : C0 D cyI cyZ q (nI N) st v mk w s s.heap := hX.1.1
  have hS : va_S (fun _ => False) s.heap s.heap [] := va_S.rf
  refine lv_aload_n hx hb dL_setWord_0 rfl (lv_at hl 3 rfl) ?_
  refine lv_iconst (v := 0) hx hb dL_setWord_1 (by decide) ?_
  refine lv_aload_n hx hb dL_setWord_2 rfl (lv_at hl 0 rfl) ?_
  refine lv_iload_n hx hb dL_setWord_3 rfl (lv_at hl 1 rfl) ?_
  refine lv_iload_n hx hb dL_setWord_4 rfl (lv_at hl 2 rfl) ?_
  refine xV (As := [.int a, .int b]) (rest := [.int 0, .ref o]) hF (tX0_setWord1 hsT a b hb9) (Wm.and C0.mv.wm TH.wm) Mv.const ⟨hX, hTH⟩ hX.rc jyX0_setWord kl_RL_27 ⟨rfl, rfl⟩ ⟨Nat.le_of_ble_eq_true rfl, Nat.le_of_ble_eq_true rfl⟩ rfl hl.1 rfl (Nat.le_of_ble_eq_true rfl) ⟨Nat.le_of_ble_eq_true rfl, Nat.le_of_ble_eq_true rfl⟩ hS dL_setWord_5 (fun ce q9 H locs _ hz hk hS hce hcv hcl => ?_)
  refine vx_catch hown [] (⟨0, 10, 13, 25⟩ : ExceptionTableEntry) [(⟨0, 10, 17, 13⟩ : ExceptionTableEntry)] htab (fun z hz9 => absurd hz9 List.not_mem_nil) (by decide) (by decide) (hts _ kc_RL_25) (exCast (by decide) hTH rfl) hce hcv hcl ?_
  refine lv_astore (lv' := [(4, .ref q9), (0, .ref (q 0)), (1, .int a), (2, .int b), (3, .ref o)]) hx hb dL_setWord_13 hl (by decide) rfl (fun ls hl => ?_)
  refine lv_iconst (v := 1) hx hb dL_setWord_15 (by decide) ?_
  exact W.iret hx hb hr (fun t ht hW => ⟨⟨_, (), rfl, rfl, trivial⟩, hS.F ht⟩) hS.2.2 dL_setWord_16
set_option maxHeartbeats 4000000 in
set_option maxRecDepth 100000 in
theorem bL_setWord2 (hsT : l.stackTraces = false) (j : Nat) (hj10 : j < 10) (b : Int32) (hb9 : in10 b = false) : Met l yL_setWord (wmW yL_setWord cL_setWord 5 (some .int) [(0, 10, 13, 25), (0, 10, 17, 13)]) ({ frames := 7, cells := 1, slots := 6, locals := 105 } : Room) (va_Pc [.ref (q 0), .int (nI j), .int b, .ref o] (fun U => (fun U H => (C0 D cyI cyZ q (nI N) st v mk w U H ∧ TH (fun _ => False) U H) ∧ NC U H : State → Heap → Prop) U U.heap)) (va_Qi (fun (r : Int32) (_ : Unit) => r = 2) (fun _ _ => True) (fun _ => False)) 1 6 (fun _ => False) := by
  refine mtW (by decide) (Nat.le_of_ble_eq_true rfl) ?_
  intro p ev s m below meth c ls hF hr hlocks htab hX hl
  have hF : CallFix p m c cL_setWord 5 s _ wA RL := hF
  obtain ⟨hx, hb, hml, hown, hts⟩ := id hF
  have hl : lv_has ls 5 [(0, .ref (q 0)), (1, .int (nI j)), (2, .int b), (3, .ref o)] := hl
  have hNC : NC s s.heap := hX.2
  have hTH : TH (fun _ => False) s s.heap := hX.1.2
  have hX : C0 D cyI cyZ q (nI N) st v mk w s s.heap := hX.1.1
  have hS : va_S (fun _ => False) s.heap s.heap [] := va_S.rf
  refine lv_aload_n hx hb dL_setWord_0 rfl (lv_at hl 3 rfl) ?_
  refine lv_iconst (v := 0) hx hb dL_setWord_1 (by decide) ?_
  refine lv_aload_n hx hb dL_setWord_2 rfl (lv_at hl 0 rfl) ?_
  refine lv_iload_n hx hb dL_setWord_3 rfl (lv_at hl 1 rfl) ?_
  refine lv_iload_n hx hb dL_setWord_4 rfl (lv_at hl 2 rfl) ?_
  refine xV (As := [.int (nI j), .int b]) (rest := [.int 0, .ref o]) hF (tX0_setWord2 hsT j hj10 b hb9) (Wm.and C0.mv.wm TH.wm) Mv.const ⟨hX, hTH⟩ hX.rc jyX0_setWord kl_RL_27 ⟨rfl, rfl⟩ ⟨Nat.le_of_ble_eq_true rfl, Nat.le_of_ble_eq_true rfl⟩ rfl hl.1 rfl (Nat.le_of_ble_eq_true rfl) ⟨Nat.le_of_ble_eq_true rfl, Nat.le_of_ble_eq_true rfl⟩ hS dL_setWord_5 (fun ce q9 H locs _ hz hk hS hce hcv hcl => ?_)
  refine vx_catch hown [(⟨0, 10, 13, 25⟩ : ExceptionTableEntry)] (⟨0, 10, 17, 13⟩ : ExceptionTableEntry) [] htab (fun z hz9 => by cases (List.mem_singleton.mp hz9); exact Or.inr ⟨by decide, _, hts _ kc_RL_25, hNC.2.1⟩) (by decide) (by decide) (hts _ kc_RL_13) (exCast (by decide) hTH rfl) hce hcv hcl ?_
  refine lv_astore (lv' := [(4, .ref q9), (0, .ref (q 0)), (1, .int (nI j)), (2, .int b), (3, .ref o)]) hx hb dL_setWord_17 hl (by decide) rfl (fun ls hl => ?_)
  refine lv_iconst (v := 2) hx hb dL_setWord_19 (by decide) ?_
  exact W.iret hx hb hr (fun t ht hW => ⟨⟨_, (), rfl, rfl, trivial⟩, hS.F ht⟩) hS.2.2 dL_setWord_20
set_option maxHeartbeats 4000000 in
set_option maxRecDepth 100000 in
theorem bL_setStep (hsT : l.stackTraces = false) (a : Int32) (hb9 : a < 1 ∨ 4 < a) : Met l yL_setStep (wmW yL_setStep cL_setStep 4 (some .int) [(0, 9, 12, 13)]) ({ frames := 7, cells := 1, slots := 6, locals := 104 } : Room) (va_Pc [.ref (q 0), .int a, .ref o] (fun U => (fun U H => (C0 D cyI cyZ q (nI N) st v mk w U H ∧ TH (fun _ => False) U H) ∧ NC U H : State → Heap → Prop) U U.heap)) (va_Qi (fun (r : Int32) (_ : Unit) => r = 1) (fun _ _ => True) (fun _ => False)) 1 6 (fun _ => False) := by
  refine mtW (by decide) (Nat.le_of_ble_eq_true rfl) ?_
  intro p ev s m below meth c ls hF hr hlocks htab hX hl
  have hF : CallFix p m c cL_setStep 4 s _ wA RL := hF
  obtain ⟨hx, hb, hml, hown, hts⟩ := id hF
  have hl : lv_has ls 4 [(0, .ref (q 0)), (1, .int a), (2, .ref o)] := hl
  have hNC : NC s s.heap := hX.2
  have hTH : TH (fun _ => False) s s.heap := hX.1.2
  have hX : C0 D cyI cyZ q (nI N) st v mk w s s.heap := hX.1.1
  have hS : va_S (fun _ => False) s.heap s.heap [] := va_S.rf
  refine lv_aload_n hx hb dL_setStep_0 rfl (lv_at hl 2 rfl) ?_
  refine lv_iconst (v := 0) hx hb dL_setStep_1 (by decide) ?_
  refine lv_aload_n hx hb dL_setStep_2 rfl (lv_at hl 0 rfl) ?_
  refine lv_iload_n hx hb dL_setStep_3 rfl (lv_at hl 1 rfl) ?_
  refine xV (As := [.int a]) (rest := [.int 0, .ref o]) hF (tX0_setStep hsT a hb9) (Wm.and C0.mv.wm TH.wm) Mv.const ⟨hX, hTH⟩ hX.rc jyX0_setStep kl_RL_30 ⟨rfl, rfl⟩ ⟨Nat.le_of_ble_eq_true rfl, Nat.le_of_ble_eq_true rfl⟩ rfl hl.1 rfl (Nat.le_of_ble_eq_true rfl) ⟨Nat.le_of_ble_eq_true rfl, Nat.le_of_ble_eq_true rfl⟩ hS dL_setStep_4 (fun ce q9 H locs _ hz hk hS hce hcv hcl => ?_)
  refine vx_catch hown [] (⟨0, 9, 12, 13⟩ : ExceptionTableEntry) [] htab (fun z hz9 => absurd hz9 List.not_mem_nil) (by decide) (by decide) (hts _ kc_RL_13) (exCast (by decide) hTH rfl) hce hcv hcl ?_
  refine lv_astore_n (lv' := [(3, .ref q9), (0, .ref (q 0)), (1, .int a), (2, .ref o)]) hx hb dL_setStep_12 rfl hl (by decide) rfl (fun ls hl => ?_)
  refine lv_iconst (v := 1) hx hb dL_setStep_13 (by decide) ?_
  exact W.iret hx hb hr (fun t ht hW => ⟨⟨_, (), rfl, rfl, trivial⟩, hS.F ht⟩) hS.2.2 dL_setStep_14
set_option maxHeartbeats 4000000 in
set_option maxRecDepth 100000 in
theorem bL_turnOf (hsT : l.stackTraces = false) (a : Int32) (hb9 : a < 0 ∨ nI N ≤ a) : Met l yL_turnOf (wmW yL_turnOf cL_turnOf 4 (some .int) [(0, 9, 12, 25)]) ({ frames := 8, cells := 1, slots := 6, locals := 124 } : Room) (va_Pc [.ref (q 0), .int a, .ref o] (fun U => (fun U H => (C0 D cyI cyZ q (nI N) st v mk w U H ∧ TH (fun _ => False) U H) ∧ NC U H : State → Heap → Prop) U U.heap)) (va_Qi (fun (r : Int32) (_ : Unit) => r = 1) (fun _ _ => True) (fun _ => False)) 1 6 (fun _ => False) := by
  refine mtW (by decide) (Nat.le_of_ble_eq_true rfl) ?_
  intro p ev s m below meth c ls hF hr hlocks htab hX hl
  have hF : CallFix p m c cL_turnOf 4 s _ wA RL := hF
  obtain ⟨hx, hb, hml, hown, hts⟩ := id hF
  have hl : lv_has ls 4 [(0, .ref (q 0)), (1, .int a), (2, .ref o)] := hl
  have hNC : NC s s.heap := hX.2
  have hTH : TH (fun _ => False) s s.heap := hX.1.2
  have hX : C0 D cyI cyZ q (nI N) st v mk w s s.heap := hX.1.1
  have hS : va_S (fun _ => False) s.heap s.heap [] := va_S.rf
  refine lv_aload_n hx hb dL_turnOf_0 rfl (lv_at hl 2 rfl) ?_
  refine lv_iconst (v := 0) hx hb dL_turnOf_1 (by decide) ?_
  refine lv_aload_n hx hb dL_turnOf_2 rfl (lv_at hl 0 rfl) ?_
  refine lv_iload_n hx hb dL_turnOf_3 rfl (lv_at hl 1 rfl) ?_
  refine xV (As := [.int a]) (rest := [.int 0, .ref o]) hF (tX0_turnOf hsT a hb9) (Wm.and C0.mv.wm TH.wm) Mv.const ⟨hX, hTH⟩ hX.rc jyX0_turnOf kl_RL_34 ⟨rfl, rfl⟩ ⟨Nat.le_of_ble_eq_true rfl, Nat.le_of_ble_eq_true rfl⟩ rfl hl.1 rfl (Nat.le_of_ble_eq_true rfl) ⟨Nat.le_of_ble_eq_true rfl, Nat.le_of_ble_eq_true rfl⟩ hS dL_turnOf_4 (fun ce q9 H locs _ hz hk hS hce hcv hcl => ?_)
  refine vx_catch hown [] (⟨0, 9, 12, 25⟩ : ExceptionTableEntry) [] htab (fun z hz9 => absurd hz9 List.not_mem_nil) (by decide) (by decide) (hts _ kc_RL_25) (exCast (by decide) hTH rfl) hce hcv hcl ?_
  refine lv_astore_n (lv' := [(3, .ref q9), (0, .ref (q 0)), (1, .int a), (2, .ref o)]) hx hb dL_turnOf_12 rfl hl (by decide) rfl (fun ls hl => ?_)
  refine lv_iconst (v := 1) hx hb dL_turnOf_13 (by decide) ?_
  exact W.iret hx hb hr (fun t ht hW => ⟨⟨_, (), rfl, rfl, trivial⟩, hS.F ht⟩) hS.2.2 dL_turnOf_14
set_option maxHeartbeats 4000000 in
set_option maxRecDepth 100000 in
theorem bL_headingOf (hsT : l.stackTraces = false) (a : Int32) (hb9 : a < 0 ∨ nI N ≤ a) : Met l yL_headingOf (wmW yL_headingOf cL_headingOf 4 (some .int) [(0, 9, 12, 25)]) ({ frames := 8, cells := 1, slots := 6, locals := 124 } : Room) (va_Pc [.ref (q 0), .int a, .ref o] (fun U => (fun U H => (C0 D cyI cyZ q (nI N) st v mk w U H ∧ TH (fun _ => False) U H) ∧ NC U H : State → Heap → Prop) U U.heap)) (va_Qi (fun (r : Int32) (_ : Unit) => r = 1) (fun _ _ => True) (fun _ => False)) 1 6 (fun _ => False) := by
  refine mtW (by decide) (Nat.le_of_ble_eq_true rfl) ?_
  intro p ev s m below meth c ls hF hr hlocks htab hX hl
  have hF : CallFix p m c cL_headingOf 4 s _ wA RL := hF
  obtain ⟨hx, hb, hml, hown, hts⟩ := id hF
  have hl : lv_has ls 4 [(0, .ref (q 0)), (1, .int a), (2, .ref o)] := hl
  have hNC : NC s s.heap := hX.2
  have hTH : TH (fun _ => False) s s.heap := hX.1.2
  have hX : C0 D cyI cyZ q (nI N) st v mk w s s.heap := hX.1.1
  have hS : va_S (fun _ => False) s.heap s.heap [] := va_S.rf
  refine lv_aload_n hx hb dL_headingOf_0 rfl (lv_at hl 2 rfl) ?_
  refine lv_iconst (v := 0) hx hb dL_headingOf_1 (by decide) ?_
  refine lv_aload_n hx hb dL_headingOf_2 rfl (lv_at hl 0 rfl) ?_
  refine lv_iload_n hx hb dL_headingOf_3 rfl (lv_at hl 1 rfl) ?_
  refine xV (As := [.int a]) (rest := [.int 0, .ref o]) hF (tX0_headingOf hsT a hb9) (Wm.and C0.mv.wm TH.wm) Mv.const ⟨hX, hTH⟩ hX.rc jyX0_headingOf kl_RL_37 ⟨rfl, rfl⟩ ⟨Nat.le_of_ble_eq_true rfl, Nat.le_of_ble_eq_true rfl⟩ rfl hl.1 rfl (Nat.le_of_ble_eq_true rfl) ⟨Nat.le_of_ble_eq_true rfl, Nat.le_of_ble_eq_true rfl⟩ hS dL_headingOf_4 (fun ce q9 H locs _ hz hk hS hce hcv hcl => ?_)
  refine vx_catch hown [] (⟨0, 9, 12, 25⟩ : ExceptionTableEntry) [] htab (fun z hz9 => absurd hz9 List.not_mem_nil) (by decide) (by decide) (hts _ kc_RL_25) (exCast (by decide) hTH rfl) hce hcv hcl ?_
  refine lv_astore_n (lv' := [(3, .ref q9), (0, .ref (q 0)), (1, .int a), (2, .ref o)]) hx hb dL_headingOf_12 rfl hl (by decide) rfl (fun ls hl => ?_)
  refine lv_iconst (v := 1) hx hb dL_headingOf_13 (by decide) ?_
  exact W.iret hx hb hr (fun t ht hW => ⟨⟨_, (), rfl, rfl, trivial⟩, hS.F ht⟩) hS.2.2 dL_headingOf_14
set_option maxHeartbeats 4000000 in
set_option maxRecDepth 100000 in
theorem bL_landmarkOf (hsT : l.stackTraces = false) (a : Int32) (hb9 : a < 0 ∨ nI N ≤ a) : Met l yL_landmarkOf (wmW yL_landmarkOf cL_landmarkOf 4 (some .int) [(0, 9, 12, 25)]) ({ frames := 8, cells := 1, slots := 6, locals := 124 } : Room) (va_Pc [.ref (q 0), .int a, .ref o] (fun U => (fun U H => (C0 D cyI cyZ q (nI N) st v mk w U H ∧ TH (fun _ => False) U H) ∧ NC U H : State → Heap → Prop) U U.heap)) (va_Qi (fun (r : Int32) (_ : Unit) => r = 1) (fun _ _ => True) (fun _ => False)) 1 6 (fun _ => False) := by
  refine mtW (by decide) (Nat.le_of_ble_eq_true rfl) ?_
  intro p ev s m below meth c ls hF hr hlocks htab hX hl
  have hF : CallFix p m c cL_landmarkOf 4 s _ wA RL := hF
  obtain ⟨hx, hb, hml, hown, hts⟩ := id hF
  have hl : lv_has ls 4 [(0, .ref (q 0)), (1, .int a), (2, .ref o)] := hl
  have hNC : NC s s.heap := hX.2
  have hTH : TH (fun _ => False) s s.heap := hX.1.2
  have hX : C0 D cyI cyZ q (nI N) st v mk w s s.heap := hX.1.1
  have hS : va_S (fun _ => False) s.heap s.heap [] := va_S.rf
  refine lv_aload_n hx hb dL_landmarkOf_0 rfl (lv_at hl 2 rfl) ?_
  refine lv_iconst (v := 0) hx hb dL_landmarkOf_1 (by decide) ?_
  refine lv_aload_n hx hb dL_landmarkOf_2 rfl (lv_at hl 0 rfl) ?_
  refine lv_iload_n hx hb dL_landmarkOf_3 rfl (lv_at hl 1 rfl) ?_
  refine xV (As := [.int a]) (rest := [.int 0, .ref o]) hF (tX0_landmarkOf hsT a hb9) (Wm.and C0.mv.wm TH.wm) Mv.const ⟨hX, hTH⟩ hX.rc jyX0_landmarkOf kl_RL_40 ⟨rfl, rfl⟩ ⟨Nat.le_of_ble_eq_true rfl, Nat.le_of_ble_eq_true rfl⟩ rfl hl.1 rfl (Nat.le_of_ble_eq_true rfl) ⟨Nat.le_of_ble_eq_true rfl, Nat.le_of_ble_eq_true rfl⟩ hS dL_landmarkOf_4 (fun ce q9 H locs _ hz hk hS hce hcv hcl => ?_)
  refine vx_catch hown [] (⟨0, 9, 12, 25⟩ : ExceptionTableEntry) [] htab (fun z hz9 => absurd hz9 List.not_mem_nil) (by decide) (by decide) (hts _ kc_RL_25) (exCast (by decide) hTH rfl) hce hcv hcl ?_
  refine lv_astore_n (lv' := [(3, .ref q9), (0, .ref (q 0)), (1, .int a), (2, .ref o)]) hx hb dL_landmarkOf_12 rfl hl (by decide) rfl (fun ls hl => ?_)
  refine lv_iconst (v := 1) hx hb dL_landmarkOf_13 (by decide) ?_
  exact W.iret hx hb hr (fun t ht hW => ⟨⟨_, (), rfl, rfl, trivial⟩, hS.F ht⟩) hS.2.2 dL_landmarkOf_14
set_option maxHeartbeats 4000000 in
set_option maxRecDepth 100000 in
theorem bL_noteOf (hsT : l.stackTraces = false) (a : Int32) (hb9 : a < 0 ∨ nI N ≤ a) : Met l yL_noteOf (wmW yL_noteOf cL_noteOf 4 (some .int) [(0, 9, 12, 25)]) ({ frames := 8, cells := 1, slots := 6, locals := 124 } : Room) (va_Pc [.ref (q 0), .int a, .ref o] (fun U => (fun U H => (C0 D cyI cyZ q (nI N) st v mk w U H ∧ TH (fun _ => False) U H) ∧ NC U H : State → Heap → Prop) U U.heap)) (va_Qi (fun (r : Int32) (_ : Unit) => r = 1) (fun _ _ => True) (fun _ => False)) 1 6 (fun _ => False) := by
  refine mtW (by decide) (Nat.le_of_ble_eq_true rfl) ?_
  intro p ev s m below meth c ls hF hr hlocks htab hX hl
  have hF : CallFix p m c cL_noteOf 4 s _ wA RL := hF
  obtain ⟨hx, hb, hml, hown, hts⟩ := id hF
  have hl : lv_has ls 4 [(0, .ref (q 0)), (1, .int a), (2, .ref o)] := hl
  have hNC : NC s s.heap := hX.2
  have hTH : TH (fun _ => False) s s.heap := hX.1.2
  have hX : C0 D cyI cyZ q (nI N) st v mk w s s.heap := hX.1.1
  have hS : va_S (fun _ => False) s.heap s.heap [] := va_S.rf
  refine lv_aload_n hx hb dL_noteOf_0 rfl (lv_at hl 2 rfl) ?_
  refine lv_iconst (v := 0) hx hb dL_noteOf_1 (by decide) ?_
  refine lv_aload_n hx hb dL_noteOf_2 rfl (lv_at hl 0 rfl) ?_
  refine lv_iload_n hx hb dL_noteOf_3 rfl (lv_at hl 1 rfl) ?_
  refine xV (As := [.int a]) (rest := [.int 0, .ref o]) hF (tX0_noteOf hsT a hb9) (Wm.and C0.mv.wm TH.wm) Mv.const ⟨hX, hTH⟩ hX.rc jyX0_noteOf kl_RL_43 ⟨rfl, rfl⟩ ⟨Nat.le_of_ble_eq_true rfl, Nat.le_of_ble_eq_true rfl⟩ rfl hl.1 rfl (Nat.le_of_ble_eq_true rfl) ⟨Nat.le_of_ble_eq_true rfl, Nat.le_of_ble_eq_true rfl⟩ hS dL_noteOf_4 (fun ce q9 H locs _ hz hk hS hce hcv hcl => ?_)
  refine vx_catch hown [] (⟨0, 9, 12, 25⟩ : ExceptionTableEntry) [] htab (fun z hz9 => absurd hz9 List.not_mem_nil) (by decide) (by decide) (hts _ kc_RL_25) (exCast (by decide) hTH rfl) hce hcv hcl ?_
  refine lv_astore_n (lv' := [(3, .ref q9), (0, .ref (q 0)), (1, .int a), (2, .ref o)]) hx hb dL_noteOf_12 rfl hl (by decide) rfl (fun ls hl => ?_)
  refine lv_iconst (v := 1) hx hb dL_noteOf_13 (by decide) ?_
  exact W.iret hx hb hr (fun t ht hW => ⟨⟨_, (), rfl, rfl, trivial⟩, hS.F ht⟩) hS.2.2 dL_noteOf_14
set_option maxHeartbeats 4000000 in
set_option maxRecDepth 100000 in
theorem bL_isFolded (hsT : l.stackTraces = false) (a : Int32) (hb9 : a < 0 ∨ nI N ≤ a) : Met l yL_isFolded (wmW yL_isFolded cL_isFolded 4 (some .int) [(0, 16, 19, 25)]) ({ frames := 8, cells := 1, slots := 6, locals := 124 } : Room) (va_Pc [.ref (q 0), .int a, .ref o] (fun U => (fun U H => (C0 D cyI cyZ q (nI N) st v mk w U H ∧ TH (fun _ => False) U H) ∧ NC U H : State → Heap → Prop) U U.heap)) (va_Qi (fun (r : Int32) (_ : Unit) => r = 1) (fun _ _ => True) (fun _ => False)) 1 6 (fun _ => False) := by
  refine mtW (by decide) (Nat.le_of_ble_eq_true rfl) ?_
  intro p ev s m below meth c ls hF hr hlocks htab hX hl
  have hF : CallFix p m c cL_isFolded 4 s _ wA RL := hF
  obtain ⟨hx, hb, hml, hown, hts⟩ := id hF
  have hl : lv_has ls 4 [(0, .ref (q 0)), (1, .int a), (2, .ref o)] := hl
  have hNC : NC s s.heap := hX.2
  have hTH : TH (fun _ => False) s s.heap := hX.1.2
  have hX : C0 D cyI cyZ q (nI N) st v mk w s s.heap := hX.1.1
  have hS : va_S (fun _ => False) s.heap s.heap [] := va_S.rf
  refine lv_aload_n hx hb dL_isFolded_0 rfl (lv_at hl 2 rfl) ?_
  refine lv_iconst (v := 0) hx hb dL_isFolded_1 (by decide) ?_
  refine lv_aload_n hx hb dL_isFolded_2 rfl (lv_at hl 0 rfl) ?_
  refine lv_iload_n hx hb dL_isFolded_3 rfl (lv_at hl 1 rfl) ?_
  refine xV (As := [.int a]) (rest := [.int 0, .ref o]) hF (tX0_isFolded hsT a hb9) (Wm.and C0.mv.wm TH.wm) Mv.const ⟨hX, hTH⟩ hX.rc jyX0_isFolded kl_RL_46 ⟨rfl, rfl⟩ ⟨Nat.le_of_ble_eq_true rfl, Nat.le_of_ble_eq_true rfl⟩ rfl hl.1 rfl (Nat.le_of_ble_eq_true rfl) ⟨Nat.le_of_ble_eq_true rfl, Nat.le_of_ble_eq_true rfl⟩ hS dL_isFolded_4 (fun ce q9 H locs _ hz hk hS hce hcv hcl => ?_)
  refine vx_catch hown [] (⟨0, 16, 19, 25⟩ : ExceptionTableEntry) [] htab (fun z hz9 => absurd hz9 List.not_mem_nil) (by decide) (by decide) (hts _ kc_RL_25) (exCast (by decide) hTH rfl) hce hcv hcl ?_
  refine lv_astore_n (lv' := [(3, .ref q9), (0, .ref (q 0)), (1, .int a), (2, .ref o)]) hx hb dL_isFolded_19 rfl hl (by decide) rfl (fun ls hl => ?_)
  refine lv_iconst (v := 1) hx hb dL_isFolded_20 (by decide) ?_
  exact W.iret hx hb hr (fun t ht hW => ⟨⟨_, (), rfl, rfl, trivial⟩, hS.F ht⟩) hS.2.2 dL_isFolded_21
set_option maxHeartbeats 4000000 in
set_option maxRecDepth 100000 in
theorem bL_wordIn (hsT : l.stackTraces = false) (a : Int32) (hb9 : a < 0 ∨ nI N ≤ a) : Met l yL_wordIn (wmW yL_wordIn cL_wordIn 4 (some .int) [(0, 9, 12, 25)]) ({ frames := 8, cells := 1, slots := 6, locals := 124 } : Room) (va_Pc [.ref (q 0), .int a, .ref o] (fun U => (fun U H => (C0 D cyI cyZ q (nI N) st v mk w U H ∧ TH (fun _ => False) U H) ∧ NC U H : State → Heap → Prop) U U.heap)) (va_Qi (fun (r : Int32) (_ : Unit) => r = 1) (fun _ _ => True) (fun _ => False)) 1 6 (fun _ => False) := by
  refine mtW (by decide) (Nat.le_of_ble_eq_true rfl) ?_
  intro p ev s m below meth c ls hF hr hlocks htab hX hl
  have hF : CallFix p m c cL_wordIn 4 s _ wA RL := hF
  obtain ⟨hx, hb, hml, hown, hts⟩ := id hF
  have hl : lv_has ls 4 [(0, .ref (q 0)), (1, .int a), (2, .ref o)] := hl
  have hNC : NC s s.heap := hX.2
  have hTH : TH (fun _ => False) s s.heap := hX.1.2
  have hX : C0 D cyI cyZ q (nI N) st v mk w s s.heap := hX.1.1
  have hS : va_S (fun _ => False) s.heap s.heap [] := va_S.rf
  refine lv_aload_n hx hb dL_wordIn_0 rfl (lv_at hl 2 rfl) ?_
  refine lv_iconst (v := 0) hx hb dL_wordIn_1 (by decide) ?_
  refine lv_aload_n hx hb dL_wordIn_2 rfl (lv_at hl 0 rfl) ?_
  refine lv_iload_n hx hb dL_wordIn_3 rfl (lv_at hl 1 rfl) ?_
  refine xV (As := [.int a]) (rest := [.int 0, .ref o]) hF (tX0_wordIn hsT a hb9) (Wm.and C0.mv.wm TH.wm) Mv.const ⟨hX, hTH⟩ hX.rc jyX0_wordIn kl_RL_50 ⟨rfl, rfl⟩ ⟨Nat.le_of_ble_eq_true rfl, Nat.le_of_ble_eq_true rfl⟩ rfl hl.1 rfl (Nat.le_of_ble_eq_true rfl) ⟨Nat.le_of_ble_eq_true rfl, Nat.le_of_ble_eq_true rfl⟩ hS dL_wordIn_4 (fun ce q9 H locs _ hz hk hS hce hcv hcl => ?_)
  refine vx_catch hown [] (⟨0, 9, 12, 25⟩ : ExceptionTableEntry) [] htab (fun z hz9 => absurd hz9 List.not_mem_nil) (by decide) (by decide) (hts _ kc_RL_25) (exCast (by decide) hTH rfl) hce hcv hcl ?_
  refine lv_astore_n (lv' := [(3, .ref q9), (0, .ref (q 0)), (1, .int a), (2, .ref o)]) hx hb dL_wordIn_12 rfl hl (by decide) rfl (fun ls hl => ?_)
  refine lv_iconst (v := 1) hx hb dL_wordIn_13 (by decide) ?_
  exact W.iret hx hb hr (fun t ht hW => ⟨⟨_, (), rfl, rfl, trivial⟩, hS.F ht⟩) hS.2.2 dL_wordIn_14
set_option maxHeartbeats 4000000 in
set_option maxRecDepth 100000 in
theorem bL_readings (hsT : l.stackTraces = false) (a : Int32) (hb9 : a < 0 ∨ nI N ≤ a) : Met l yL_readings (wmW yL_readings cL_readings 4 (some .int) [(0, 9, 12, 25)]) ({ frames := 8, cells := 1, slots := 6, locals := 125 } : Room) (va_Pc [.ref (q 0), .int a, .ref o] (fun U => (fun U H => (C0 D cyI cyZ q (nI N) st v mk w U H ∧ TH (fun _ => False) U H) ∧ NC U H : State → Heap → Prop) U U.heap)) (va_Qi (fun (r : Int32) (_ : Unit) => r = 1) (fun _ _ => True) (fun _ => False)) 1 6 (fun _ => False) := by
  refine mtW (by decide) (Nat.le_of_ble_eq_true rfl) ?_
  intro p ev s m below meth c ls hF hr hlocks htab hX hl
  have hF : CallFix p m c cL_readings 4 s _ wA RL := hF
  obtain ⟨hx, hb, hml, hown, hts⟩ := id hF
  have hl : lv_has ls 4 [(0, .ref (q 0)), (1, .int a), (2, .ref o)] := hl
  have hNC : NC s s.heap := hX.2
  have hTH : TH (fun _ => False) s s.heap := hX.1.2
  have hX : C0 D cyI cyZ q (nI N) st v mk w s s.heap := hX.1.1
  have hS : va_S (fun _ => False) s.heap s.heap [] := va_S.rf
  refine lv_aload_n hx hb dL_readings_0 rfl (lv_at hl 2 rfl) ?_
  refine lv_iconst (v := 0) hx hb dL_readings_1 (by decide) ?_
  refine lv_aload_n hx hb dL_readings_2 rfl (lv_at hl 0 rfl) ?_
  refine lv_iload_n hx hb dL_readings_3 rfl (lv_at hl 1 rfl) ?_
  refine xV (As := [.int a]) (rest := [.int 0, .ref o]) hF (tX0_readings hsT a hb9) (Wm.and C0.mv.wm TH.wm) Mv.const ⟨hX, hTH⟩ hX.rc jyX0_readings kl_RL_59 ⟨rfl, rfl⟩ ⟨Nat.le_of_ble_eq_true rfl, Nat.le_of_ble_eq_true rfl⟩ rfl hl.1 rfl (Nat.le_of_ble_eq_true rfl) ⟨Nat.le_of_ble_eq_true rfl, Nat.le_of_ble_eq_true rfl⟩ hS dL_readings_4 (fun ce q9 H locs _ hz hk hS hce hcv hcl => ?_)
  refine vx_catch hown [] (⟨0, 9, 12, 25⟩ : ExceptionTableEntry) [] htab (fun z hz9 => absurd hz9 List.not_mem_nil) (by decide) (by decide) (hts _ kc_RL_25) (exCast (by decide) hTH rfl) hce hcv hcl ?_
  refine lv_astore_n (lv' := [(3, .ref q9), (0, .ref (q 0)), (1, .int a), (2, .ref o)]) hx hb dL_readings_12 rfl hl (by decide) rfl (fun ls hl => ?_)
  refine lv_iconst (v := 1) hx hb dL_readings_13 (by decide) ?_
  exact W.iret hx hb hr (fun t ht hW => ⟨⟨_, (), rfl, rfl, trivial⟩, hS.F ht⟩) hS.2.2 dL_readings_14
set_option maxHeartbeats 4000000 in
set_option maxRecDepth 100000 in
theorem bL_rightReading (hsT : l.stackTraces = false) (a : Int32) (hb9 : a < 0 ∨ nI N ≤ a) : Met l yL_rightReading (wmW yL_rightReading cL_rightReading 4 (some .int) [(0, 9, 12, 25)]) ({ frames := 8, cells := 1, slots := 6, locals := 126 } : Room) (va_Pc [.ref (q 0), .int a, .ref o] (fun U => (fun U H => (C0 D cyI cyZ q (nI N) st v mk w U H ∧ TH (fun _ => False) U H) ∧ NC U H : State → Heap → Prop) U U.heap)) (va_Qi (fun (r : Int32) (_ : Unit) => r = 1) (fun _ _ => True) (fun _ => False)) 1 6 (fun _ => False) := by
  refine mtW (by decide) (Nat.le_of_ble_eq_true rfl) ?_
  intro p ev s m below meth c ls hF hr hlocks htab hX hl
  have hF : CallFix p m c cL_rightReading 4 s _ wA RL := hF
  obtain ⟨hx, hb, hml, hown, hts⟩ := id hF
  have hl : lv_has ls 4 [(0, .ref (q 0)), (1, .int a), (2, .ref o)] := hl
  have hNC : NC s s.heap := hX.2
  have hTH : TH (fun _ => False) s s.heap := hX.1.2
  have hX : C0 D cyI cyZ q (nI N) st v mk w s s.heap := hX.1.1
  have hS : va_S (fun _ => False) s.heap s.heap [] := va_S.rf
  refine lv_aload_n hx hb dL_rightReading_0 rfl (lv_at hl 2 rfl) ?_
  refine lv_iconst (v := 0) hx hb dL_rightReading_1 (by decide) ?_
  refine lv_aload_n hx hb dL_rightReading_2 rfl (lv_at hl 0 rfl) ?_
  refine lv_iload_n hx hb dL_rightReading_3 rfl (lv_at hl 1 rfl) ?_
  refine xV (As := [.int a]) (rest := [.int 0, .ref o]) hF (tX0_rightReading hsT a hb9) (Wm.and C0.mv.wm TH.wm) Mv.const ⟨hX, hTH⟩ hX.rc jyX0_rightReading kl_RL_62 ⟨rfl, rfl⟩ ⟨Nat.le_of_ble_eq_true rfl, Nat.le_of_ble_eq_true rfl⟩ rfl hl.1 rfl (Nat.le_of_ble_eq_true rfl) ⟨Nat.le_of_ble_eq_true rfl, Nat.le_of_ble_eq_true rfl⟩ hS dL_rightReading_4 (fun ce q9 H locs _ hz hk hS hce hcv hcl => ?_)
  refine vx_catch hown [] (⟨0, 9, 12, 25⟩ : ExceptionTableEntry) [] htab (fun z hz9 => absurd hz9 List.not_mem_nil) (by decide) (by decide) (hts _ kc_RL_25) (exCast (by decide) hTH rfl) hce hcv hcl ?_
  refine lv_astore_n (lv' := [(3, .ref q9), (0, .ref (q 0)), (1, .int a), (2, .ref o)]) hx hb dL_rightReading_12 rfl hl (by decide) rfl (fun ls hl => ?_)
  refine lv_iconst (v := 1) hx hb dL_rightReading_13 (by decide) ?_
  exact W.iret hx hb hr (fun t ht hW => ⟨⟨_, (), rfl, rfl, trivial⟩, hS.F ht⟩) hS.2.2 dL_rightReading_14
set_option maxHeartbeats 4000000 in
set_option maxRecDepth 100000 in
theorem bL_isAmbiguous (hsT : l.stackTraces = false) (a : Int32) (hb9 : a < 0 ∨ nI N ≤ a) : Met l yL_isAmbiguous (wmW yL_isAmbiguous cL_isAmbiguous 4 (some .int) [(0, 16, 19, 25)]) ({ frames := 8, cells := 1, slots := 6, locals := 124 } : Room) (va_Pc [.ref (q 0), .int a, .ref o] (fun U => (fun U H => (C0 D cyI cyZ q (nI N) st v mk w U H ∧ TH (fun _ => False) U H) ∧ NC U H : State → Heap → Prop) U U.heap)) (va_Qi (fun (r : Int32) (_ : Unit) => r = 1) (fun _ _ => True) (fun _ => False)) 1 6 (fun _ => False) := by
  refine mtW (by decide) (Nat.le_of_ble_eq_true rfl) ?_
  intro p ev s m below meth c ls hF hr hlocks htab hX hl
  have hF : CallFix p m c cL_isAmbiguous 4 s _ wA RL := hF
  obtain ⟨hx, hb, hml, hown, hts⟩ := id hF
  have hl : lv_has ls 4 [(0, .ref (q 0)), (1, .int a), (2, .ref o)] := hl
  have hNC : NC s s.heap := hX.2
  have hTH : TH (fun _ => False) s s.heap := hX.1.2
  have hX : C0 D cyI cyZ q (nI N) st v mk w s s.heap := hX.1.1
  have hS : va_S (fun _ => False) s.heap s.heap [] := va_S.rf
  refine lv_aload_n hx hb dL_isAmbiguous_0 rfl (lv_at hl 2 rfl) ?_
  refine lv_iconst (v := 0) hx hb dL_isAmbiguous_1 (by decide) ?_
  refine lv_aload_n hx hb dL_isAmbiguous_2 rfl (lv_at hl 0 rfl) ?_
  refine lv_iload_n hx hb dL_isAmbiguous_3 rfl (lv_at hl 1 rfl) ?_
  refine xV (As := [.int a]) (rest := [.int 0, .ref o]) hF (tX0_isAmbiguous hsT a hb9) (Wm.and C0.mv.wm TH.wm) Mv.const ⟨hX, hTH⟩ hX.rc jyX0_isAmbiguous kl_RL_65 ⟨rfl, rfl⟩ ⟨Nat.le_of_ble_eq_true rfl, Nat.le_of_ble_eq_true rfl⟩ rfl hl.1 rfl (Nat.le_of_ble_eq_true rfl) ⟨Nat.le_of_ble_eq_true rfl, Nat.le_of_ble_eq_true rfl⟩ hS dL_isAmbiguous_4 (fun ce q9 H locs _ hz hk hS hce hcv hcl => ?_)
  refine vx_catch hown [] (⟨0, 16, 19, 25⟩ : ExceptionTableEntry) [] htab (fun z hz9 => absurd hz9 List.not_mem_nil) (by decide) (by decide) (hts _ kc_RL_25) (exCast (by decide) hTH rfl) hce hcv hcl ?_
  refine lv_astore_n (lv' := [(3, .ref q9), (0, .ref (q 0)), (1, .int a), (2, .ref o)]) hx hb dL_isAmbiguous_19 rfl hl (by decide) rfl (fun ls hl => ?_)
  refine lv_iconst (v := 1) hx hb dL_isAmbiguous_20 (by decide) ?_
  exact W.iret hx hb hr (fun t ht hW => ⟨⟨_, (), rfl, rfl, trivial⟩, hS.F ht⟩) hS.2.2 dL_isAmbiguous_21
set_option maxHeartbeats 4000000 in
set_option maxRecDepth 100000 in
theorem bL_isMended (hsT : l.stackTraces = false) (a : Int32) (hb9 : a < 0 ∨ nI N ≤ a) : Met l yL_isMended (wmW yL_isMended cL_isMended 4 (some .int) [(0, 16, 19, 25)]) ({ frames := 8, cells := 1, slots := 6, locals := 124 } : Room) (va_Pc [.ref (q 0), .int a, .ref o] (fun U => (fun U H => (C0 D cyI cyZ q (nI N) st v mk w U H ∧ TH (fun _ => False) U H) ∧ NC U H : State → Heap → Prop) U U.heap)) (va_Qi (fun (r : Int32) (_ : Unit) => r = 1) (fun _ _ => True) (fun _ => False)) 1 6 (fun _ => False) := by
  refine mtW (by decide) (Nat.le_of_ble_eq_true rfl) ?_
  intro p ev s m below meth c ls hF hr hlocks htab hX hl
  have hF : CallFix p m c cL_isMended 4 s _ wA RL := hF
  obtain ⟨hx, hb, hml, hown, hts⟩ := id hF
  have hl : lv_has ls 4 [(0, .ref (q 0)), (1, .int a), (2, .ref o)] := hl
  have hNC : NC s s.heap := hX.2
  have hTH : TH (fun _ => False) s s.heap := hX.1.2
  have hX : C0 D cyI cyZ q (nI N) st v mk w s s.heap := hX.1.1
  have hS : va_S (fun _ => False) s.heap s.heap [] := va_S.rf
  refine lv_aload_n hx hb dL_isMended_0 rfl (lv_at hl 2 rfl) ?_
  refine lv_iconst (v := 0) hx hb dL_isMended_1 (by decide) ?_
  refine lv_aload_n hx hb dL_isMended_2 rfl (lv_at hl 0 rfl) ?_
  refine lv_iload_n hx hb dL_isMended_3 rfl (lv_at hl 1 rfl) ?_
  refine xV (As := [.int a]) (rest := [.int 0, .ref o]) hF (tX0_isMended hsT a hb9) (Wm.and C0.mv.wm TH.wm) Mv.const ⟨hX, hTH⟩ hX.rc jyX0_isMended kl_RL_68 ⟨rfl, rfl⟩ ⟨Nat.le_of_ble_eq_true rfl, Nat.le_of_ble_eq_true rfl⟩ rfl hl.1 rfl (Nat.le_of_ble_eq_true rfl) ⟨Nat.le_of_ble_eq_true rfl, Nat.le_of_ble_eq_true rfl⟩ hS dL_isMended_4 (fun ce q9 H locs _ hz hk hS hce hcv hcl => ?_)
  refine vx_catch hown [] (⟨0, 16, 19, 25⟩ : ExceptionTableEntry) [] htab (fun z hz9 => absurd hz9 List.not_mem_nil) (by decide) (by decide) (hts _ kc_RL_25) (exCast (by decide) hTH rfl) hce hcv hcl ?_
  refine lv_astore_n (lv' := [(3, .ref q9), (0, .ref (q 0)), (1, .int a), (2, .ref o)]) hx hb dL_isMended_19 rfl hl (by decide) rfl (fun ls hl => ?_)
  refine lv_iconst (v := 1) hx hb dL_isMended_20 (by decide) ?_
  exact W.iret hx hb hr (fun t ht hW => ⟨⟨_, (), rfl, rfl, trivial⟩, hS.F ht⟩) hS.2.2 dL_isMended_21
set_option maxHeartbeats 4000000 in
set_option maxRecDepth 100000 in
theorem bL_wordOf (hsT : l.stackTraces = false) (a : Int32) (hb9 : in10 a = false) : Met l yL_wordOf (wmW yL_wordOf cL_wordOf 4 (some .int) [(0, 9, 12, 25)]) ({ frames := 8, cells := 1, slots := 6, locals := 123 } : Room) (va_Pc [.ref (q 0), .int a, .ref o] (fun U => (fun U H => (C0 D cyI cyZ q (nI N) st v mk w U H ∧ TH (fun _ => False) U H) ∧ NC U H : State → Heap → Prop) U U.heap)) (va_Qi (fun (r : Int32) (_ : Unit) => r = 1) (fun _ _ => True) (fun _ => False)) 1 6 (fun _ => False) := by
  refine mtW (by decide) (Nat.le_of_ble_eq_true rfl) ?_
  intro p ev s m below meth c ls hF hr hlocks htab hX hl
  have hF : CallFix p m c cL_wordOf 4 s _ wA RL := hF
  obtain ⟨hx, hb, hml, hown, hts⟩ := id hF
  have hl : lv_has ls 4 [(0, .ref (q 0)), (1, .int a), (2, .ref o)] := hl
  have hNC : NC s s.heap := hX.2
  have hTH : TH (fun _ => False) s s.heap := hX.1.2
  have hX : C0 D cyI cyZ q (nI N) st v mk w s s.heap := hX.1.1
  have hS : va_S (fun _ => False) s.heap s.heap [] := va_S.rf
  refine lv_aload_n hx hb dL_wordOf_0 rfl (lv_at hl 2 rfl) ?_
  refine lv_iconst (v := 0) hx hb dL_wordOf_1 (by decide) ?_
  refine lv_aload_n hx hb dL_wordOf_2 rfl (lv_at hl 0 rfl) ?_
  refine lv_iload_n hx hb dL_wordOf_3 rfl (lv_at hl 1 rfl) ?_
  refine xV (As := [.int a]) (rest := [.int 0, .ref o]) hF (tX0_wordOf hsT a hb9) (Wm.and C0.mv.wm TH.wm) Mv.const ⟨hX, hTH⟩ hX.rc jyX0_wordOf kl_RL_53 ⟨rfl, rfl⟩ ⟨Nat.le_of_ble_eq_true rfl, Nat.le_of_ble_eq_true rfl⟩ rfl hl.1 rfl (Nat.le_of_ble_eq_true rfl) ⟨Nat.le_of_ble_eq_true rfl, Nat.le_of_ble_eq_true rfl⟩ hS dL_wordOf_4 (fun ce q9 H locs _ hz hk hS hce hcv hcl => ?_)
  refine vx_catch hown [] (⟨0, 9, 12, 25⟩ : ExceptionTableEntry) [] htab (fun z hz9 => absurd hz9 List.not_mem_nil) (by decide) (by decide) (hts _ kc_RL_25) (exCast (by decide) hTH rfl) hce hcv hcl ?_
  refine lv_astore_n (lv' := [(3, .ref q9), (0, .ref (q 0)), (1, .int a), (2, .ref o)]) hx hb dL_wordOf_12 rfl hl (by decide) rfl (fun ls hl => ?_)
  refine lv_iconst (v := 1) hx hb dL_wordOf_13 (by decide) ?_
  exact W.iret hx hb hr (fun t ht hW => ⟨⟨_, (), rfl, rfl, trivial⟩, hS.F ht⟩) hS.2.2 dL_wordOf_14
set_option maxHeartbeats 4000000 in
set_option maxRecDepth 100000 in
theorem bL_bestWord (hsT : l.stackTraces = false) (a : Int32) (hb9 : in10 a = false) : Met l yL_bestWord (wmW yL_bestWord cL_bestWord 4 (some .int) [(0, 9, 12, 25)]) ({ frames := 8, cells := 1, slots := 6, locals := 127 } : Room) (va_Pc [.ref (q 0), .int a, .ref o] (fun U => (fun U H => (C0 D cyI cyZ q (nI N) st v mk w U H ∧ TH (fun _ => False) U H) ∧ NC U H : State → Heap → Prop) U U.heap)) (va_Qi (fun (r : Int32) (_ : Unit) => r = 1) (fun _ _ => True) (fun _ => False)) 1 6 (fun _ => False) := by
  refine mtW (by decide) (Nat.le_of_ble_eq_true rfl) ?_
  intro p ev s m below meth c ls hF hr hlocks htab hX hl
  have hF : CallFix p m c cL_bestWord 4 s _ wA RL := hF
  obtain ⟨hx, hb, hml, hown, hts⟩ := id hF
  have hl : lv_has ls 4 [(0, .ref (q 0)), (1, .int a), (2, .ref o)] := hl
  have hNC : NC s s.heap := hX.2
  have hTH : TH (fun _ => False) s s.heap := hX.1.2
  have hX : C0 D cyI cyZ q (nI N) st v mk w s s.heap := hX.1.1
  have hS : va_S (fun _ => False) s.heap s.heap [] := va_S.rf
  refine lv_aload_n hx hb dL_bestWord_0 rfl (lv_at hl 2 rfl) ?_
  refine lv_iconst (v := 0) hx hb dL_bestWord_1 (by decide) ?_
  refine lv_aload_n hx hb dL_bestWord_2 rfl (lv_at hl 0 rfl) ?_
  refine lv_iload_n hx hb dL_bestWord_3 rfl (lv_at hl 1 rfl) ?_
  refine xV (As := [.int a]) (rest := [.int 0, .ref o]) hF (tX0_bestWord hsT a hb9) (Wm.and C0.mv.wm TH.wm) Mv.const ⟨hX, hTH⟩ hX.rc jyX0_bestWord kl_RL_80 ⟨rfl, rfl⟩ ⟨Nat.le_of_ble_eq_true rfl, Nat.le_of_ble_eq_true rfl⟩ rfl hl.1 rfl (Nat.le_of_ble_eq_true rfl) ⟨Nat.le_of_ble_eq_true rfl, Nat.le_of_ble_eq_true rfl⟩ hS dL_bestWord_4 (fun ce q9 H locs _ hz hk hS hce hcv hcl => ?_)
  refine vx_catch hown [] (⟨0, 9, 12, 25⟩ : ExceptionTableEntry) [] htab (fun z hz9 => absurd hz9 List.not_mem_nil) (by decide) (by decide) (hts _ kc_RL_25) (exCast (by decide) hTH rfl) hce hcv hcl ?_
  refine lv_astore_n (lv' := [(3, .ref q9), (0, .ref (q 0)), (1, .int a), (2, .ref o)]) hx hb dL_bestWord_12 rfl hl (by decide) rfl (fun ls hl => ?_)
  refine lv_iconst (v := 1) hx hb dL_bestWord_13 (by decide) ?_
  exact W.iret hx hb hr (fun t ht hW => ⟨⟨_, (), rfl, rfl, trivial⟩, hS.F ht⟩) hS.2.2 dL_bestWord_14
set_option maxHeartbeats 4000000 in
set_option maxRecDepth 100000 in
theorem bL_sungWith (hsT : l.stackTraces = false) (a : Int32) (hb9 : in10 a = false) : Met l yL_sungWith (wmW yL_sungWith cL_sungWith 4 (some .int) [(0, 9, 12, 25)]) ({ frames := 8, cells := 1, slots := 6, locals := 125 } : Room) (va_Pc [.ref (q 0), .int a, .ref o] (fun U => (fun U H => (C0 D cyI cyZ q (nI N) st v mk w U H ∧ TH (fun _ => False) U H) ∧ NC U H : State → Heap → Prop) U U.heap)) (va_Qi (fun (r : Int32) (_ : Unit) => r = 1) (fun _ _ => True) (fun _ => False)) 1 6 (fun _ => False) := by
  refine mtW (by decide) (Nat.le_of_ble_eq_true rfl) ?_
  intro p ev s m below meth c ls hF hr hlocks htab hX hl
  have hF : CallFix p m c cL_sungWith 4 s _ wA RL := hF
  obtain ⟨hx, hb, hml, hown, hts⟩ := id hF
  have hl : lv_has ls 4 [(0, .ref (q 0)), (1, .int a), (2, .ref o)] := hl
  have hNC : NC s s.heap := hX.2
  have hTH : TH (fun _ => False) s s.heap := hX.1.2
  have hX : C0 D cyI cyZ q (nI N) st v mk w s s.heap := hX.1.1
  have hS : va_S (fun _ => False) s.heap s.heap [] := va_S.rf
  refine lv_aload_n hx hb dL_sungWith_0 rfl (lv_at hl 2 rfl) ?_
  refine lv_iconst (v := 0) hx hb dL_sungWith_1 (by decide) ?_
  refine lv_aload_n hx hb dL_sungWith_2 rfl (lv_at hl 0 rfl) ?_
  refine lv_iload_n hx hb dL_sungWith_3 rfl (lv_at hl 1 rfl) ?_
  refine xV (As := [.int a]) (rest := [.int 0, .ref o]) hF (tX0_sungWith hsT a hb9) (Wm.and C0.mv.wm TH.wm) Mv.const ⟨hX, hTH⟩ hX.rc jyX0_sungWith kl_RL_56 ⟨rfl, rfl⟩ ⟨Nat.le_of_ble_eq_true rfl, Nat.le_of_ble_eq_true rfl⟩ rfl hl.1 rfl (Nat.le_of_ble_eq_true rfl) ⟨Nat.le_of_ble_eq_true rfl, Nat.le_of_ble_eq_true rfl⟩ hS dL_sungWith_4 (fun ce q9 H locs _ hz hk hS hce hcv hcl => ?_)
  refine vx_catch hown [] (⟨0, 9, 12, 25⟩ : ExceptionTableEntry) [] htab (fun z hz9 => absurd hz9 List.not_mem_nil) (by decide) (by decide) (hts _ kc_RL_25) (exCast (by decide) hTH rfl) hce hcv hcl ?_
  refine lv_astore_n (lv' := [(3, .ref q9), (0, .ref (q 0)), (1, .int a), (2, .ref o)]) hx hb dL_sungWith_12 rfl hl (by decide) rfl (fun ls hl => ?_)
  refine lv_iconst (v := 1) hx hb dL_sungWith_13 (by decide) ?_
  exact W.iret hx hb hr (fun t ht hW => ⟨⟨_, (), rfl, rfl, trivial⟩, hS.F ht⟩) hS.2.2 dL_sungWith_14
set_option maxHeartbeats 4000000 in
set_option maxRecDepth 100000 in
theorem bL_ambiguousWith1 (hsT : l.stackTraces = false) (a b : Int32) (hb9 : in10 a = false) : Met l yL_ambiguousWith (wmW yL_ambiguousWith cL_ambiguousWith 5 (some .int) [(0, 10, 13, 25)]) ({ frames := 8, cells := 1, slots := 6, locals := 124 } : Room) (va_Pc [.ref (q 0), .int a, .int b, .ref o] (fun U => (fun U H => (C0 D cyI cyZ q (nI N) st v mk w U H ∧ TH (fun _ => False) U H) ∧ NC U H : State → Heap → Prop) U U.heap)) (va_Qi (fun (r : Int32) (_ : Unit) => r = 1) (fun _ _ => True) (fun _ => False)) 1 6 (fun _ => False) := by
  refine mtW (by decide) (Nat.le_of_ble_eq_true rfl) ?_
  intro p ev s m below meth c ls hF hr hlocks htab hX hl
  have hF : CallFix p m c cL_ambiguousWith 5 s _ wA RL := hF
  obtain ⟨hx, hb, hml, hown, hts⟩ := id hF
  have hl : lv_has ls 5 [(0, .ref (q 0)), (1, .int a), (2, .int b), (3, .ref o)] := hl
  have hNC : NC s s.heap := hX.2
  have hTH : TH (fun _ => False) s s.heap := hX.1.2
  have hX : C0 D cyI cyZ q (nI N) st v mk w s s.heap := hX.1.1
  have hS : va_S (fun _ => False) s.heap s.heap [] := va_S.rf
  refine lv_aload_n hx hb dL_ambiguousWith_0 rfl (lv_at hl 3 rfl) ?_
  refine lv_iconst (v := 0) hx hb dL_ambiguousWith_1 (by decide) ?_
  refine lv_aload_n hx hb dL_ambiguousWith_2 rfl (lv_at hl 0 rfl) ?_
  refine lv_iload_n hx hb dL_ambiguousWith_3 rfl (lv_at hl 1 rfl) ?_
  refine lv_iload_n hx hb dL_ambiguousWith_4 rfl (lv_at hl 2 rfl) ?_
  refine xV (As := [.int a, .int b]) (rest := [.int 0, .ref o]) hF (tX0_ambiguousWith1 hsT a b hb9) (Wm.and C0.mv.wm TH.wm) Mv.const ⟨hX, hTH⟩ hX.rc jyX0_ambiguousWith kl_RL_77 ⟨rfl, rfl⟩ ⟨Nat.le_of_ble_eq_true rfl, Nat.le_of_ble_eq_true rfl⟩ rfl hl.1 rfl (Nat.le_of_ble_eq_true rfl) ⟨Nat.le_of_ble_eq_true rfl, Nat.le_of_ble_eq_true rfl⟩ hS dL_ambiguousWith_5 (fun ce q9 H locs _ hz hk hS hce hcv hcl => ?_)
  refine vx_catch hown [] (⟨0, 10, 13, 25⟩ : ExceptionTableEntry) [] htab (fun z hz9 => absurd hz9 List.not_mem_nil) (by decide) (by decide) (hts _ kc_RL_25) (exCast (by decide) hTH rfl) hce hcv hcl ?_
  refine lv_astore (lv' := [(4, .ref q9), (0, .ref (q 0)), (1, .int a), (2, .int b), (3, .ref o)]) hx hb dL_ambiguousWith_13 hl (by decide) rfl (fun ls hl => ?_)
  refine lv_iconst (v := 1) hx hb dL_ambiguousWith_15 (by decide) ?_
  exact W.iret hx hb hr (fun t ht hW => ⟨⟨_, (), rfl, rfl, trivial⟩, hS.F ht⟩) hS.2.2 dL_ambiguousWith_16
set_option maxHeartbeats 4000000 in
set_option maxRecDepth 100000 in
theorem bL_ambiguousWith2 (hsT : l.stackTraces = false) (j : Nat) (hj10 : j < 10) (b : Int32) (hb9 : in10 b = false) : Met l yL_ambiguousWith (wmW yL_ambiguousWith cL_ambiguousWith 5 (some .int) [(0, 10, 13, 25)]) ({ frames := 8, cells := 1, slots := 6, locals := 124 } : Room) (va_Pc [.ref (q 0), .int (nI j), .int b, .ref o] (fun U => (fun U H => (C0 D cyI cyZ q (nI N) st v mk w U H ∧ TH (fun _ => False) U H) ∧ NC U H : State → Heap → Prop) U U.heap)) (va_Qi (fun (r : Int32) (_ : Unit) => r = 1) (fun _ _ => True) (fun _ => False)) 1 6 (fun _ => False) := by
  refine mtW (by decide) (Nat.le_of_ble_eq_true rfl) ?_
  intro p ev s m below meth c ls hF hr hlocks htab hX hl
  have hF : CallFix p m c cL_ambiguousWith 5 s _ wA RL := hF
  obtain ⟨hx, hb, hml, hown, hts⟩ := id hF
  have hl : lv_has ls 5 [(0, .ref (q 0)), (1, .int (nI j)), (2, .int b), (3, .ref o)] := hl
  have hNC : NC s s.heap := hX.2
  have hTH : TH (fun _ => False) s s.heap := hX.1.2
  have hX : C0 D cyI cyZ q (nI N) st v mk w s s.heap := hX.1.1
  have hS : va_S (fun _ => False) s.heap s.heap [] := va_S.rf
  refine lv_aload_n hx hb dL_ambiguousWith_0 rfl (lv_at hl 3 rfl) ?_
  refine lv_iconst (v := 0) hx hb dL_ambiguousWith_1 (by decide) ?_
  refine lv_aload_n hx hb dL_ambiguousWith_2 rfl (lv_at hl 0 rfl) ?_
  refine lv_iload_n hx hb dL_ambiguousWith_3 rfl (lv_at hl 1 rfl) ?_
  refine lv_iload_n hx hb dL_ambiguousWith_4 rfl (lv_at hl 2 rfl) ?_
  refine xV (As := [.int (nI j), .int b]) (rest := [.int 0, .ref o]) hF (tX0_ambiguousWith2 hsT j hj10 b hb9) (Wm.and C0.mv.wm TH.wm) Mv.const ⟨hX, hTH⟩ hX.rc jyX0_ambiguousWith kl_RL_77 ⟨rfl, rfl⟩ ⟨Nat.le_of_ble_eq_true rfl, Nat.le_of_ble_eq_true rfl⟩ rfl hl.1 rfl (Nat.le_of_ble_eq_true rfl) ⟨Nat.le_of_ble_eq_true rfl, Nat.le_of_ble_eq_true rfl⟩ hS dL_ambiguousWith_5 (fun ce q9 H locs _ hz hk hS hce hcv hcl => ?_)
  refine vx_catch hown [] (⟨0, 10, 13, 25⟩ : ExceptionTableEntry) [] htab (fun z hz9 => absurd hz9 List.not_mem_nil) (by decide) (by decide) (hts _ kc_RL_25) (exCast (by decide) hTH rfl) hce hcv hcl ?_
  refine lv_astore (lv' := [(4, .ref q9), (0, .ref (q 0)), (1, .int (nI j)), (2, .int b), (3, .ref o)]) hx hb dL_ambiguousWith_13 hl (by decide) rfl (fun ls hl => ?_)
  refine lv_iconst (v := 1) hx hb dL_ambiguousWith_15 (by decide) ?_
  exact W.iret hx hb hr (fun t ht hW => ⟨⟨_, (), rfl, rfl, trivial⟩, hS.F ht⟩) hS.2.2 dL_ambiguousWith_16
set_option maxHeartbeats 4000000 in
set_option maxRecDepth 100000 in
theorem bL_mend1 (hsT : l.stackTraces = false) (a : Int32) (hb9 : a < 0 ∨ nI N ≤ a) : Met l yL_mend (wmW yL_mend cL_mend 4 (some .int) [(0, 9, 12, 25), (0, 9, 15, 15)]) ({ frames := 8, cells := 1, slots := 6, locals := 124 } : Room) (va_Pc [.ref (q 0), .int a, .ref o] (fun U => (fun U H => (C0 D cyI cyZ q (nI N) st v mk w U H ∧ TH (fun _ => False) U H) ∧ NC U H : State → Heap → Prop) U U.heap)) (va_Qi (fun (r : Int32) (_ : Unit) => r = 1) (fun _ _ => True) (fun _ => False)) 1 6 (fun _ => False) := by
  refine mtW (by decide) (Nat.le_of_ble_eq_true rfl) ?_
  intro p ev s m below meth c ls hF hr hlocks htab hX hl
  have hF : CallFix p m c cL_mend 4 s _ wA RL := hF
  obtain ⟨hx, hb, hml, hown, hts⟩ := id hF
  have hl : lv_has ls 4 [(0, .ref (q 0)), (1, .int a), (2, .ref o)] := hl
  have hNC : NC s s.heap := hX.2
  have hTH : TH (fun _ => False) s s.heap := hX.1.2
  have hX : C0 D cyI cyZ q (nI N) st v mk w s s.heap := hX.1.1
  have hS : va_S (fun _ => False) s.heap s.heap [] := va_S.rf
  refine lv_aload_n hx hb dL_mend_0 rfl (lv_at hl 2 rfl) ?_
  refine lv_iconst (v := 0) hx hb dL_mend_1 (by decide) ?_
  refine lv_aload_n hx hb dL_mend_2 rfl (lv_at hl 0 rfl) ?_
  refine lv_iload_n hx hb dL_mend_3 rfl (lv_at hl 1 rfl) ?_
  refine xV (As := [.int a]) (rest := [.int 0, .ref o]) hF (tX0_mend1 hsT a hb9) (Wm.and C0.mv.wm TH.wm) Mv.const ⟨hX, hTH⟩ hX.rc jyX0_mend kl_RL_71 ⟨rfl, rfl⟩ ⟨Nat.le_of_ble_eq_true rfl, Nat.le_of_ble_eq_true rfl⟩ rfl hl.1 rfl (Nat.le_of_ble_eq_true rfl) ⟨Nat.le_of_ble_eq_true rfl, Nat.le_of_ble_eq_true rfl⟩ hS dL_mend_4 (fun ce q9 H locs _ hz hk hS hce hcv hcl => ?_)
  refine vx_catch hown [] (⟨0, 9, 12, 25⟩ : ExceptionTableEntry) [(⟨0, 9, 15, 15⟩ : ExceptionTableEntry)] htab (fun z hz9 => absurd hz9 List.not_mem_nil) (by decide) (by decide) (hts _ kc_RL_25) (exCast (by decide) hTH rfl) hce hcv hcl ?_
  refine lv_astore_n (lv' := [(3, .ref q9), (0, .ref (q 0)), (1, .int a), (2, .ref o)]) hx hb dL_mend_12 rfl hl (by decide) rfl (fun ls hl => ?_)
  refine lv_iconst (v := 1) hx hb dL_mend_13 (by decide) ?_
  exact W.iret hx hb hr (fun t ht hW => ⟨⟨_, (), rfl, rfl, trivial⟩, hS.F ht⟩) hS.2.2 dL_mend_14
set_option maxHeartbeats 4000000 in
set_option maxRecDepth 100000 in
theorem bL_mend2 (hsT : l.stackTraces = false) (hok : Ok N st v) (hde : Der N st v w) (i : Nat) (hi : i < N) (hb9 : amb v st mk i = false) : Met l yL_mend (wmW yL_mend cL_mend 4 (some .int) [(0, 9, 12, 25), (0, 9, 15, 15)]) ({ frames := 7, cells := 1, slots := 6, locals := 131 } : Room) (va_Pc [.ref (q 0), .int (nI i), .ref o] (fun U => (fun U H => (C0 D cyI cyZ q (nI N) st v mk w U H ∧ TH (fun _ => False) U H) ∧ NC U H : State → Heap → Prop) U U.heap)) (va_Qi (fun (r : Int32) (_ : Unit) => r = 2) (fun _ _ => True) (fun _ => False)) 1 6 (fun _ => False) := by
  refine mtW (by decide) (Nat.le_of_ble_eq_true rfl) ?_
  intro p ev s m below meth c ls hF hr hlocks htab hX hl
  have hF : CallFix p m c cL_mend 4 s _ wA RL := hF
  obtain ⟨hx, hb, hml, hown, hts⟩ := id hF
  have hl : lv_has ls 4 [(0, .ref (q 0)), (1, .int (nI i)), (2, .ref o)] := hl
  have hNC : NC s s.heap := hX.2
  have hTH : TH (fun _ => False) s s.heap := hX.1.2
  have hX : C0 D cyI cyZ q (nI N) st v mk w s s.heap := hX.1.1
  have hS : va_S (fun _ => False) s.heap s.heap [] := va_S.rf
  refine lv_aload_n hx hb dL_mend_0 rfl (lv_at hl 2 rfl) ?_
  refine lv_iconst (v := 0) hx hb dL_mend_1 (by decide) ?_
  refine lv_aload_n hx hb dL_mend_2 rfl (lv_at hl 0 rfl) ?_
  refine lv_iload_n hx hb dL_mend_3 rfl (lv_at hl 1 rfl) ?_
  refine xV (As := [.int (nI i)]) (rest := [.int 0, .ref o]) hF (tX0_mend2 hsT hok hde i hi hb9) (Wm.and C0.mv.wm TH.wm) Mv.const ⟨hX, hTH⟩ hX.rc jyX0_mend kl_RL_71 ⟨rfl, rfl⟩ ⟨Nat.le_of_ble_eq_true rfl, Nat.le_of_ble_eq_true rfl⟩ rfl hl.1 rfl (Nat.le_of_ble_eq_true rfl) ⟨Nat.le_of_ble_eq_true rfl, Nat.le_of_ble_eq_true rfl⟩ hS dL_mend_4 (fun ce q9 H locs _ hz hk hS hce hcv hcl => ?_)
  refine vx_catch hown [(⟨0, 9, 12, 25⟩ : ExceptionTableEntry)] (⟨0, 9, 15, 15⟩ : ExceptionTableEntry) [] htab (fun z hz9 => by cases (List.mem_singleton.mp hz9); exact Or.inr ⟨by decide, _, hts _ kc_RL_25, hNC.2.2⟩) (by decide) (by decide) (hts _ kc_RL_15) (exCast (by decide) hTH rfl) hce hcv hcl ?_
  refine lv_astore_n (lv' := [(3, .ref q9), (0, .ref (q 0)), (1, .int (nI i)), (2, .ref o)]) hx hb dL_mend_15 rfl hl (by decide) rfl (fun ls hl => ?_)
  refine lv_iconst (v := 2) hx hb dL_mend_16 (by decide) ?_
  exact W.iret hx hb hr (fun t ht hW => ⟨⟨_, (), rfl, rfl, trivial⟩, hS.F ht⟩) hS.2.2 dL_mend_17
set_option maxHeartbeats 4000000 in
set_option maxRecDepth 100000 in
theorem bL_mendTo (hsT : l.stackTraces = false) (a : Int32) (hb9 : a < 1 ∨ 1000000 < a) : Met l yL_mendTo (wmW yL_mendTo cL_mendTo 4 (some .int) [(0, 9, 12, 13)]) ({ frames := 7, cells := 1, slots := 6, locals := 105 } : Room) (va_Pc [.ref (q 0), .int a, .ref o] (fun U => (fun U H => (C0 D cyI cyZ q (nI N) st v mk w U H ∧ TH (fun _ => False) U H) ∧ NC U H : State → Heap → Prop) U U.heap)) (va_Qi (fun (r : Int32) (_ : Unit) => r = 1) (fun _ _ => True) (fun _ => False)) 1 6 (fun _ => False) := by
  refine mtW (by decide) (Nat.le_of_ble_eq_true rfl) ?_
  intro p ev s m below meth c ls hF hr hlocks htab hX hl
  have hF : CallFix p m c cL_mendTo 4 s _ wA RL := hF
  obtain ⟨hx, hb, hml, hown, hts⟩ := id hF
  have hl : lv_has ls 4 [(0, .ref (q 0)), (1, .int a), (2, .ref o)] := hl
  have hNC : NC s s.heap := hX.2
  have hTH : TH (fun _ => False) s s.heap := hX.1.2
  have hX : C0 D cyI cyZ q (nI N) st v mk w s s.heap := hX.1.1
  have hS : va_S (fun _ => False) s.heap s.heap [] := va_S.rf
  refine lv_aload_n hx hb dL_mendTo_0 rfl (lv_at hl 2 rfl) ?_
  refine lv_iconst (v := 0) hx hb dL_mendTo_1 (by decide) ?_
  refine lv_aload_n hx hb dL_mendTo_2 rfl (lv_at hl 0 rfl) ?_
  refine lv_iload_n hx hb dL_mendTo_3 rfl (lv_at hl 1 rfl) ?_
  refine xV (As := [.int a]) (rest := [.int 0, .ref o]) hF (tX0_mendTo hsT a hb9) (Wm.and C0.mv.wm TH.wm) Mv.const ⟨hX, hTH⟩ hX.rc jyX0_mendTo kl_RL_74 ⟨rfl, rfl⟩ ⟨Nat.le_of_ble_eq_true rfl, Nat.le_of_ble_eq_true rfl⟩ rfl hl.1 rfl (Nat.le_of_ble_eq_true rfl) ⟨Nat.le_of_ble_eq_true rfl, Nat.le_of_ble_eq_true rfl⟩ hS dL_mendTo_4 (fun ce q9 H locs _ hz hk hS hce hcv hcl => ?_)
  refine vx_catch hown [] (⟨0, 9, 12, 13⟩ : ExceptionTableEntry) [] htab (fun z hz9 => absurd hz9 List.not_mem_nil) (by decide) (by decide) (hts _ kc_RL_13) (exCast (by decide) hTH rfl) hce hcv hcl ?_
  refine lv_astore_n (lv' := [(3, .ref q9), (0, .ref (q 0)), (1, .int a), (2, .ref o)]) hx hb dL_mendTo_12 rfl hl (by decide) rfl (fun ls hl => ?_)
  refine lv_iconst (v := 1) hx hb dL_mendTo_13 (by decide) ?_
  exact W.iret hx hb hr (fun t ht hW => ⟨⟨_, (), rfl, rfl, trivial⟩, hS.F ht⟩) hS.2.2 dL_mendTo_14
end P31
