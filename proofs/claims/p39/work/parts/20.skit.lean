/-! THE LAW'S SONG BY HAND: rows over single cells; its picture -/
def AOI (U : State) : Prop := (Cond.arrayOver (.array .int)).before #[] U = true
theorem AOI.moved {u U : State} (hvm : u.vm.Alike U.vm) (h : AOI u) : AOI U := by
  obtain ⟨comp, c, k, h1, h2, h3, h4, h5⟩ := arrayOverA_spec h
  obtain ⟨k', hk', he⟩ := hvm.2.2 _ _ h3
  have hi : (U.vm.classes.findIdx? fun (x : Class) => match x.kind with | .array component _ => component == comp | _ => false) = some c := by
    rw [hvm.findIdx?_eq _ (fun _ => rfl)]; exact h2
  have hkind : k'.kind = .array comp (.array .int) := by rw [he]; exact h4
  have f1 : U.vm.findClass (FieldType.array .int).toString = some comp := by rw [hvm.findClass]; exact h1
  have f2 : U.vm.findClass ("[" ++ (FieldType.array .int).toString) = some c := by rw [hvm.findClass]; exact h5
  unfold AOI Cond.before Cond.holds
  simp only [Cond.value]
  rw [f1, Option.bind_some]
  refine (congrArg (fun o : Option Nat => (o.bind (fun c => (U.vm.classes[c]?).map fun (k : Class) => match k.kind with | .array _ ty => decide (ty = FieldType.array .int) && decide (U.vm.findClass ("[" ++ (FieldType.array .int).toString) = some c) | _ => false) == some true)) hi).trans ?_
  simp [hk', hkind, f2]
theorem AOI.use {A : Array Value} {U : State} (h : AOI U) : (Cond.arrayOver (.array .int)).before A U = true := h
/-- what is known of the two classes of arrays -/
def KS (D : va_G) (cyI cyA : ClassId) (U : State) : Prop := va_K D vwCl [(cyI, .int), (cyA, .array .int)] U ∧ AOI U
theorem KS.moved {D : va_G} {cyI cyA : ClassId} {u U : State} (hvm : u.vm.Alike U.vm) (h : KS D cyI cyA u) : KS D cyI cyA U := ⟨va_K.moved hvm h.1, AOI.moved hvm h.2⟩
theorem KS.two {D : va_G} {cyI cyA : ClassId} {U : State} (h : KS D cyI cyA U) : U.vm.findClass (FieldType.array .int).toString = some cyI ∧ U.vm.findClass ("[" ++ (FieldType.array .int).toString) = some cyA ∧ ∃ kA kI : Class, U.vm.classes[cyA]? = some kA ∧ kA.kind = .array cyI (.array .int) ∧ U.vm.classes[cyI]? = some kI := by
  have e1 : U.vm.findClass ("[" ++ FieldType.int.toString) = some cyI := (h.1.2 0 _ rfl).2
  have e2 : U.vm.findClass ("[" ++ (FieldType.array .int).toString) = some cyA := (h.1.2 1 _ rfl).2
  have e3 : U.vm.findClass (FieldType.array .int).toString = some cyI := e1
  obtain ⟨comp, c, k, h1, h2, h3, h4, h5⟩ := arrayOverA_spec h.2
  cases Option.some.inj (h1.symm.trans e3)
  cases Option.some.inj (h5.symm.trans e2)
  obtain ⟨kI, hkI, -⟩ := Vm.findClass_spec h1
  exact ⟨e3, e2, k, kI, h3, h4, hkI⟩
theorem asgRefl0 (vm : Vm) (c : ClassId) (n : Nat) : vm.assignableAux (n + 1) c c = true := by rw [Vm.assignableAux]; simp
theorem asgRefl (vm : Vm) (c : ClassId) : vm.assignable c c = true := asgRefl0 vm c 255
abbrev IA (cyI : ClassId) (a n : Nat) (f : Nat → Int32) (H : Heap) : Prop := H[a]? = some (vp_cell cyI (n, .inl f))
abbrev QA (cyA : ClassId) (a n : Nat) (f : Nat → Option Nat) (H : Heap) : Prop := H[a]? = some (vp_cell cyA (n, .inr (.inr (.inr (.inr f)))))
abbrev OB (D : va_G) (sm : Nat) (fs : List Value) (H : Heap) : Prop := va_at D vwCl (sm, .inr (1, fs)) H
theorem sP1 {D : va_G} {cl : List vw_C} {q : Nat × va_E} {H : Heap} (h : va_at D cl q H) : va_P D cl [q] H := by
  intro k r hr
  cases k with
  | zero => cases hr; exact h
  | succ k => simp at hr
theorem IA.lt {cyI : ClassId} {a n : Nat} {f : Nat → Int32} {H : Heap} (h : IA cyI a n f H) : a < H.size := (Array.getElem?_eq_some_iff.mp h).1
theorem QA.lt {cyA : ClassId} {a n : Nat} {f : Nat → Option Nat} {H : Heap} (h : QA cyA a n f H) : a < H.size := (Array.getElem?_eq_some_iff.mp h).1
theorem OB.lt {D : va_G} {a : Nat} {fs : List Value} {H : Heap} (h : OB D a fs H) : a < H.size := va_at.lt h
theorem IA.k {cyI : ClassId} {a n : Nat} {f : Nat → Int32} {H H1 : Heap} (h : IA cyI a n f H) (e : H1[a]? = H[a]?) : IA cyI a n f H1 := e.trans h
theorem QA.k {cyA : ClassId} {a n : Nat} {f : Nat → Option Nat} {H H1 : Heap} (h : QA cyA a n f H) (e : H1[a]? = H[a]?) : QA cyA a n f H1 := e.trans h
theorem OB.k {D : va_G} {a : Nat} {fs : List Value} {H H1 : Heap} (h : OB D a fs H) (e : H1[a]? = H[a]?) : OB D a fs H1 := va_at.kept h e
theorem ia_congr {cyI : ClassId} {n : Nat} {f g : Nat → Int32} (h : ∀ k, k < n → f k = g k) : vp_cell cyI (n, .inl f) = vp_cell cyI (n, .inl g) := by
  rw [vp_cell_i, vp_cell_i]
  unfold arrV
  congr 1
  apply Array.ext
  · simp
  · intro i h1 h2
    simp only [Array.size_ofFn] at h1
    simp [h i h1]
theorem qa_congr {cyI : ClassId} {n : Nat} {f g : Nat → Option Nat} (h : ∀ k, k < n → f k = g k) : vp_cell cyI (n, .inr (.inr (.inr (.inr f)))) = vp_cell cyI (n, .inr (.inr (.inr (.inr g)))) := by
  rw [vp_cell_q, vp_cell_q]
  unfold arrV
  congr 1
  apply Array.ext
  · simp
  · intro i h1 h2
    simp only [Array.size_ofFn] at h1
    simp [h i h1]
theorem IA.c {cyI : ClassId} {a n : Nat} {f g : Nat → Int32} {H : Heap} (h : IA cyI a n f H) (e : ∀ k, k < n → f k = g k) : IA cyI a n g H := by rw [IA, ← ia_congr e]; exact h
theorem QA.c {cyA : ClassId} {a n : Nat} {f g : Nat → Option Nat} {H : Heap} (h : QA cyA a n f H) (e : ∀ k, k < n → f k = g k) : QA cyA a n g H := by rw [QA, ← qa_congr e]; exact h
section R15
variable {p : Program} {l : Launch} {e : Env} {R : Room} {s : State} {m : MethodId} {args : Array Value} {below : List Frame} {meth : Method} {c : Code} {H : Heap} {locs : List Loc} {cells slots : Nat} {Q : State → Prop}
variable {cc : ByteArray} {nL pc idx a : Nat} {ls : Array Slot} {own0 : String} {rest st0 : List Value} {D : va_G} {A : Nat → Prop} {H0 : Heap} {cyI cyA : ClassId}
theorem ldI (hF : CallFix p m c cc nL s args wA own0) (hK : KS D cyI cyA s) {n : Nat} {f : Nat → Int32} (h : IA cyI a n f H) (j : Nat) (hj : j < n) (hn : n < 2 ^ 31) {x : Int32} (hx : x = nI j) (hdg : decode cc pc = .ok (.iaload, 1))
    (kk : W p l e R s m args below meth c H locs cells slots Q (F0 m (pc + 1) ls (.int (f j) :: rest))) : W p l e R s m args below meth c H locs cells slots Q (F0 m pc ls (.int x :: .ref a :: rest)) :=
  aldI (D := D) (ws := [(a, .inl (cyI, n, .inl f))]) (tys := [(cyI, .int), (cyA, .array .int)]) hF hK.1 (sP1 h) 0 0 rfl rfl j hj hn hx hdg kk
theorem stI (hF : CallFix p m c cc nL s args wA own0) (hK : KS D cyI cyA s) {n : Nat} {f : Nat → Int32} (h : IA cyI a n f H) (hS : va_S A H0 H locs) (hA : A a) (j : Nat) (hj : j < n) (hn : n < 2 ^ 31) {i x : Int32} (hi : i = nI j) (hdg : decode cc pc = .ok (.iastore, 1))
    (kk : ∀ (H1 : Heap) (locs1 : List Loc), IA cyI a n (upd f j x) H1 → H1.size = H.size → (∀ q : Nat, q ≠ a → H1[q]? = H[q]?) → va_S A H0 H1 locs1 → W p l e R s m args below meth c H1 locs1 cells slots Q (F0 m (pc + 1) ls rest)) : W p l e R s m args below meth c H locs cells slots Q (F0 m pc ls (.int x :: .int i :: .ref a :: rest)) := by
  subst hi
  refine W.iast hF.1 hF.2.1 h ((hK.1.2 0 _ rfl).1 n (fun j => .int (f j))) (fun q => by cases q) (by show ¬ (nI j < 0 ∨ (arrV _ _ _).slots.size ≤ _); rw [arrV_size]; exact vp_in_nI hj hn) rfl rfl hdg fun H1 e z oq => ?_
  refine kk H1 _ ?_ z oq (hS.put z oq hA)
  show H1[a]? = some (vp_cell _ _)
  rw [e, nI_clamp (Nat.lt_trans hj hn)]
  rw [vp_cell_i, vp_cell_i, arrV_store]
  congr 2
  funext q
  by_cases hq : q = j
  · subst hq
    simp [updV, upd]
  · simp [updV, upd, hq]
theorem lenI (hF : CallFix p m c cc nL s args wA own0) (hK : KS D cyI cyA s) {n : Nat} {f : Nat → Int32} (h : IA cyI a n f H) (hdg : decode cc pc = .ok (.arraylength, 1))
    (kk : W p l e R s m args below meth c H locs cells slots Q (F0 m (pc + 1) ls (.int (nI n) :: rest))) : W p l e R s m args below meth c H locs cells slots Q (F0 m pc ls (.ref a :: rest)) :=
  va_alen (D := D) (cl := vwCl) (ws := [(a, .inl (cyI, n, .inl f))]) (tys := [(cyI, .int), (cyA, .array .int)]) hF.1 hF.2.1 hK.1 (sP1 h) 0 0 rfl rfl rfl hdg kk
theorem lenQ (hF : CallFix p m c cc nL s args wA own0) (hK : KS D cyI cyA s) {n : Nat} {f : Nat → Option Nat} (h : QA cyA a n f H) (hdg : decode cc pc = .ok (.arraylength, 1))
    (kk : W p l e R s m args below meth c H locs cells slots Q (F0 m (pc + 1) ls (.int (nI n) :: rest))) : W p l e R s m args below meth c H locs cells slots Q (F0 m pc ls (.ref a :: rest)) :=
  va_alen (D := D) (cl := vwCl) (ws := [(a, .inl (cyA, n, .inr (.inr (.inr (.inr f)))))]) (tys := [(cyI, .int), (cyA, .array .int)]) hF.1 hF.2.1 hK.1 (sP1 h) 0 1 rfl rfl rfl hdg kk
theorem ldQ (hF : CallFix p m c cc nL s args wA own0) (hK : KS D cyI cyA s) {n : Nat} {f : Nat → Option Nat} (h : QA cyA a n f H) (j : Nat) (hj : j < n) (hn : n < 2 ^ 31) {x : Int32} (hx : x = nI j) {v : Nat} (hv : f j = some v) (hdg : decode cc pc = .ok (.aaload, 1))
    (kk : W p l e R s m args below meth c H locs cells slots Q (F0 m (pc + 1) ls (.ref v :: rest))) : W p l e R s m args below meth c H locs cells slots Q (F0 m pc ls (.int x :: .ref a :: rest)) := by
  subst hx
  refine W.aald (v := .ref v) (ty := .array .int) hF.1 hF.2.1 h ((hK.1.2 1 _ rfl).1 n (fun j => va_rf (f j))) rfl (fun q => by cases q) (by show ¬ (nI j < 0 ∨ (arrV _ _ _).slots.size ≤ _); rw [arrV_size]; exact vp_in_nI hj hn) ?_ rfl rfl hdg kk
  show (arrV _ _ _).slots[_]? = _
  rw [nI_clamp (Nat.lt_trans hj hn), arrV_read _ _ hj, hv]
  rfl
theorem stQ (hF : CallFix p m c cc nL s args wA own0) (hK : KS D cyI cyA s) {n v k : Nat} {f : Nat → Option Nat} {g : Nat → Int32} (h : QA cyA a n f H) (hv : IA cyI v k g H) (hS : va_S A H0 H locs) (hA : A a) (j : Nat) (hj : j < n) (hn : n < 2 ^ 31) {i : Int32} (hi : i = nI j) (hdg : decode cc pc = .ok (.aastore, 1))
    (kk : ∀ (H1 : Heap) (locs1 : List Loc), QA cyA a n (va_up f j (some v)) H1 → H1.size = H.size → (∀ q : Nat, q ≠ a → H1[q]? = H[q]?) → va_S A H0 H1 locs1 → W p l e R s m args below meth c H1 locs1 cells slots Q (F0 m (pc + 1) ls rest)) : W p l e R s m args below meth c H locs cells slots Q (F0 m pc ls (.ref v :: .int i :: .ref a :: rest)) := by
  subst hi
  obtain ⟨-, -, kA, kI, h1, h2, h3⟩ := hK.two
  refine W.aast hF.1 hF.2.1 h (fun q h => by cases h) (fun h => by cases h) h1 h2 rfl h3 ⟨nI_pos (Nat.lt_trans hj hn), by show _ < (arrV _ _ _).slots.size; rw [arrV_size, nI_clamp (Nat.lt_trans hj hn)]; exact hj⟩ hv (fun q h => by cases h) h3 (asgRefl _ _) rfl rfl hdg fun H1 e z oq => ?_
  refine kk H1 _ ?_ z oq (hS.put z oq hA)
  show H1[a]? = some (vp_cell _ _)
  rw [e, nI_clamp (Nat.lt_trans hj hn)]
  rw [vp_cell_q, vp_cell_q, arrV_store]
  congr 2
  funext q
  by_cases hq : q = j
  · subst hq
    simp [updV, va_up, va_rf]
  · simp [updV, va_up, hq]
theorem vaS_push {H1 : Heap} (hS : va_S A H0 H locs) (z : H1.size = H.size + 1) (o : ∀ q : Nat, q < H.size → H1[q]? = H[q]?) : va_S A H0 H1 locs :=
  ⟨Nat.le_trans hS.1 (by omega), fun x h1 h2 => (o x (Nat.lt_of_lt_of_le h1 hS.1)).trans (hS.2.1 x h1 h2), hS.2.2⟩
theorem newIr (hF : CallFix p m c cc nL s args wA own0) (hK : KS D cyI cyA s) (hS : va_S A H0 H locs) (n : Nat) (hn : n ≤ 100) {i : Int32} (hi : i = nI n) (hc : cells + 1 ≤ R.cells) (hs : slots + n ≤ R.slots) (hdg : decode cc pc = .ok (.newarray .int, 2))
    (kk : ∀ (q : Nat) (H1 : Heap), q = H.size → IA cyI q n (fun _ => 0) H1 → H1.size = H.size + 1 → (∀ x : Nat, x < H.size → H1[x]? = H[x]?) → va_S A H0 H1 locs → W p l e R s m args below meth c H1 locs (cells + 1) (slots + n) Q (F0 m (pc + 2) ls (.ref q :: rest))) : W p l e R s m args below meth c H locs cells slots Q (F0 m pc ls (.int i :: rest)) := by
  subst hi
  refine va_newaK (atype := .int) hF.1 hF.2.1 (hF.2.2.2.2 _ ka_int) rfl hdg rfl (nI_pos (by omega)) (nI_clamp (n := n) (by omega)) ?_ hc hs rfl fun H1 cA e1 z1 o1 hAr hNm => ?_
  · show n * 4 ≤ 536870912
    omega
  · have e0 : s.vm.findClass ("[" ++ FieldType.int.toString) = some cyI := (hK.1.2 0 _ rfl).2
    have e2 : s.vm.findClass ("[" ++ FieldType.int.toString) = some cA := hNm
    cases Option.some.inj (e0.symm.trans e2)
    exact kk H.size H1 rfl e1 z1 o1 (vaS_push hS z1 o1)
theorem newQr (hF : CallFix p m c cc nL s args wA own0) (hK : KS D cyI cyA s) (hS : va_S A H0 H locs) (n : Nat) (hn : n ≤ 100) {i : Int32} (hi : i = nI n) (hlk : Cond.classLink own0 idx "[I" ∈ wA) (hc : cells + 1 ≤ R.cells) (hs : slots + n ≤ R.slots) (hdg : decode cc pc = .ok (.anewarray idx, 3))
    (kk : ∀ (q : Nat) (H1 : Heap), q = H.size → QA cyA q n (fun _ => none) H1 → H1.size = H.size + 1 → (∀ x : Nat, x < H.size → H1[x]? = H[x]?) → va_S A H0 H1 locs → W p l e R s m args below meth c H1 locs (cells + 1) (slots + n) Q (F0 m (pc + 3) ls (.ref q :: rest))) : W p l e R s m args below meth c H locs cells slots Q (F0 m pc ls (.int i :: rest)) := by
  subst hi
  have hcl := nI_clamp (n := n) (by omega)
  obtain ⟨-, e2, -⟩ := hK.two
  refine W.anewA (t := .int) hF.1 hF.2.1 hF.2.2.2.1 (hF.2.2.2.2 _ hlk) hK.2.use rfl hdg rfl (nI_pos (by omega)) (by rw [hcl]; omega) hc (by rw [hcl]; exact hs) fun cA kA comp f1 f2 f3 f4 => ?_
  cases Option.some.inj (e2.symm.trans f1)
  rw [hcl]
  generalize hH1 : H.push ({ cls := cyA, slots := Array.replicate n .null, vm := .none } : Cell) = H1
  have z1 : H1.size = H.size + 1 := by rw [← hH1, Array.size_push]
  have e1 : H1[H.size]? = some (arrV cyA n (fun _ => .null)) := by rw [← hH1, Array.getElem?_push_size, ← arrV_new]
  have o1 : ∀ q : Nat, q < H.size → H1[q]? = H[q]? := fun q hq => by rw [← hH1, Array.getElem?_push, if_neg (Nat.ne_of_lt hq)]
  exact kk H.size H1 rfl e1 z1 o1 (vaS_push hS z1 o1)
/-- a field of the song by hand is read -/
theorem getS (hF : CallFix p m c cc nL s args wA own0) (hK : KS D cyI cyA s) {fs : List Value} (h : OB D a fs H) (j : Nat) (hj : j < 3) {val : Value} (hv : fs[j]? = some val) {nm ds : String} (hn : TX1 j = ("MapSongsLaw$Sim", nm, ds, (TX1 j).2.2.2)) (hl : Cond.fieldLink own0 idx "MapSongsLaw$Sim" nm ds ∈ wA) (hdg : decode cc pc = .ok (.getfield idx, 3))
    (kk : W p l e R s m args below meth c H locs cells slots Q (F0 m (pc + 3) ls (val :: rest))) : W p l e R s m args below meth c H locs cells slots Q (F0 m pc ls (.ref a :: rest)) := by
  have h1 : (TX1 j).1 = "MapSongsLaw$Sim" := by rw [hn]
  have h2 : (TX1 j).2.1 = nm := by rw [hn]
  have h3 : (TX1 j).2.2.1 = ds := by rw [hn]
  exact va_get (D := D) (ci := 1) (C := RX1) (T := TX1) (N := 3) (ref := "MapSongsLaw$Sim") hF.1 hF.2.1 hF.2.2.2.2 wx1 hF.2.2.2.1 hK.1 (sP1 h) 0 rfl rfl j hj (by rw [h2, h3]; exact hF.2.2.2.2 _ hl) (by rw [h1]; exact fun _ h9 => h9) hv hdg kk
theorem putS (hF : CallFix p m c cc nL s args wA own0) (hK : KS D cyI cyA s) {fs : List Value} (h : OB D a fs H) (hS : va_S A H0 H locs) (hA : A a) (j : Nat) (hj : j < 3) {v : Value} {nm ds : String} (hn : TX1 j = ("MapSongsLaw$Sim", nm, ds, false)) {ty : FieldType} (hd : parseFieldDescriptor (TX1 j).2.2.1 = some ty) (hnv : narrow ty v = v) (hfit : fits ty v = true) (hlen : j < fs.length) (hl : Cond.fieldLink own0 idx "MapSongsLaw$Sim" nm ds ∈ wA) (hdg : decode cc pc = .ok (.putfield idx, 3))
    (kk : ∀ (H1 : Heap) (locs1 : List Loc), OB D a (fs.set j v) H1 → H1.size = H.size → (∀ q : Nat, q ≠ a → H1[q]? = H[q]?) → va_S A H0 H1 locs1 → W p l e R s m args below meth c H1 locs1 cells slots Q (F0 m (pc + 3) ls rest)) : W p l e R s m args below meth c H locs cells slots Q (F0 m pc ls (v :: .ref a :: rest)) := by
  have h1 : (TX1 j).1 = "MapSongsLaw$Sim" := by rw [hn]
  have h2 : (TX1 j).2.1 = nm := by rw [hn]
  have h3 : (TX1 j).2.2.1 = ds := by rw [hn]
  have hfin : (TX1 j).2.2.2 = false := by rw [hn]
  have hap := va_apart (own := own0) hF.2.2.2.2 wx1 tyX1 tyX1_ok nmX1 hK.1 (ci := 1) rfl
  obtain ⟨r, q0, cell, q1, q2, q3, q4⟩ := h
  have hr : r = (RX1, TX1, 3) := Option.some.inj (q0.symm.trans rfl)
  subst hr
  obtain ⟨hS1, hfc, kC, hkC, hkind⟩ := hK.1.1 1 _ rfl
  obtain ⟨cf, kf, fi, f, hi, hsl⟩ := hS1 j hj
  have hlay := hF.2.2.2.2 _ (wx1 _ (u_in_lay hj))
  unfold u_lay at hlay
  rw [if_neg (by rw [hfin]; decide)] at hlay
  have hst := (u_facts hfc hkC (u_lays hF.2.2.2.2 wx1 hj) hi).1
  have h6 := u_store hfc hkC hkind hlay hi hd hnv hfit
  have hi2 : s.fieldFound? "MapSongsLaw$Sim" nm ds = some (cf, kf, fi, f) := by rw [← h1, ← h2, ← h3]; exact hi
  refine W.putK hF.1 hF.2.1 (f := f) ⟨hF.2.2.2.1, hF.2.2.2.2 _ hl, ⟨_, _, _, hi2⟩, hst⟩ (by rw [q2]; exact h6) q1 q3 (by rw [hsl]; exact k2_hasslot (q4 j hj)) rfl rfl hdg fun H' e1 e2 e3 => ?_
  rw [hsl] at e1 ⊢
  exact kk H' _ ⟨_, rfl, t_OB.to (V := updV (vp_V fs) j v) ⟨_, e1, q2, q3, t_set q4 hap hj v⟩ (fun i _ => vp_updV_set hlen v i)⟩ e2 e3 (hS.put e2 e3 hA)
theorem newS (hF : CallFix p m c cc nL s args wA own0) (hK : KS D cyI cyA s) (hS : va_S A H0 H locs) (hlk : Cond.classLink own0 idx RX1 ∈ wA) (hc : cells + 1 ≤ R.cells) (hs : slots + 3 ≤ R.slots) (hdg : decode cc pc = .ok (.new idx, 3))
    (kk : ∀ (q : Nat) (H1 : Heap), q = H.size → OB D q [.null, .null, .int 0] H1 → H1.size = H.size + 1 → (∀ x : Nat, x < H.size → H1[x]? = H[x]?) → va_S A H0 H1 locs → W p l e R s m args below meth c H1 locs (cells + 1) (slots + 3) Q (F0 m (pc + 3) ls (.ref q :: rest))) : W p l e R s m args below meth c H locs cells slots Q (F0 m pc ls rest) := by
  have hKn := hK.1.1 1 _ rfl
  refine W.newcK hF.1 hF.2.1 hF.2.2.2.1 (hF.2.2.2.2 _ hlk) (hF.2.2.2.2 _ kb_RX1) (hF.2.2.2.2 _ kn_RX1) rfl hdg hc hs hKn.2.1 rfl fun H1 kC hkC e1 z1 o1 => ?_
  refine kk H.size H1 rfl ⟨_, rfl, (u_born tyX1 hF.2.2.2.2 wx1 hKn hkC e1 tyX1_ok).to (fun j hj => ?_)⟩ z1 o1 (vaS_push hS z1 o1)
  match j, hj with
  | 0, _ => rfl
  | 1, _ => rfl
  | 2, _ => rfl
theorem lpC {σ τ : Type} {head : Nat} (I : σ → τ → Array Slot → Heap → List Loc → Prop) (μ : σ → τ → Nat) (cf sf : σ → Nat)
    (step : ∀ (x : σ) (y : τ) (ls : Array Slot) (H : Heap) (locs : List Loc), I x y ls H locs → (∀ (x' : σ) (y' : τ) (ls' : Array Slot) (H' : Heap) (locs' : List Loc), μ x' y' < μ x y → I x' y' ls' H' locs' → W p l e R s m args below meth c H' locs' (cf x') (sf x') Q (F0 m head ls' st0)) → W p l e R s m args below meth c H locs (cf x) (sf x) Q (F0 m head ls st0))
    (x : σ) (y : τ) (h : I x y ls H locs) : W p l e R s m args below meth c H locs (cf x) (sf x) Q (F0 m head ls st0) := by
  have K : ∀ (n : Nat) (x : σ) (y : τ) (ls : Array Slot) (H : Heap) (locs : List Loc), μ x y < n → I x y ls H locs → W p l e R s m args below meth c H locs (cf x) (sf x) Q (F0 m head ls st0) := by
    intro n
    induction n with
    | zero => intro x y ls H locs h; exact absurd h (Nat.not_lt_zero _)
    | succ n ih => intro x y ls H locs hn hI; exact step x y ls H locs hI (fun x' y' ls' H' locs' h1 h2 => ih x' y' ls' H' locs' (by omega) h2)
  exact K (μ x y + 1) x y ls H locs (Nat.lt_succ_self _) h
/-- a walk in two pieces -/
theorem cutW {σ : Type} {pc pc2 cells2 slots2 : Nat} {st2 : List Value} {ls : Array Slot} (I : σ → Array Slot → Heap → List Loc → Prop)
    (J : ∀ (x : σ) (ls : Array Slot) (H : Heap) (locs : List Loc), I x ls H locs → W p l e R s m args below meth c H locs cells2 slots2 Q (F0 m pc2 ls st2))
    (K : (∀ (x : σ) (ls : Array Slot) (H : Heap) (locs : List Loc), I x ls H locs → W p l e R s m args below meth c H locs cells2 slots2 Q (F0 m pc2 ls st2)) → W p l e R s m args below meth c H locs cells slots Q (F0 m pc ls st0)) : W p l e R s m args below meth c H locs cells slots Q (F0 m pc ls st0) := K J
end R15
/-! the song by hand: object, words, rows -/
def Ap (sm wd lg : Nat) (a : Nat → Nat) (n : Nat) : Prop := (sm ≠ wd ∧ sm ≠ lg ∧ wd ≠ lg) ∧ (∀ k : Nat, k < n → a k ≠ sm ∧ a k ≠ wd ∧ a k ≠ lg) ∧ ∀ k : Nat, k < n → ∀ j : Nat, j < n → a k = a j → k = j
def sown (sm wd lg : Nat) (a : Nat → Nat) (n : Nat) : Nat → Prop := fun q => q = sm ∨ q = wd ∨ q = lg ∨ ∃ k : Nat, k < n ∧ q = a k
def rowA (a : Nat → Nat) (n : Nat) : Nat → Prop := fun q => ∃ k : Nat, k < n ∧ q = a k
def S0 (D : va_G) (cyI cyA : ClassId) (sm wd lg : Nat) (a : Nat → Nat) (n : Nat) (st : Int32) (wv : Nat → Int32) (r : Nat → Nat → Int32) : State → Heap → Prop := fun U H =>
  (OB D sm [.ref lg, .ref wd, .int st] H ∧ IA cyI wd 10 wv H ∧ QA cyA lg n (fun k => some (a k)) H ∧ ∀ k : Nat, k < n → IA cyI (a k) 6 (r k) H) ∧ KS D cyI cyA U ∧ Ap sm wd lg a n ∧ n ≤ 16
section S0R
variable {p : Program} {l : Launch} {e : Env} {R : Room} {s : State} {m : MethodId} {args : Array Value} {below : List Frame} {meth : Method} {c : Code} {H : Heap} {locs : List Loc} {cells slots : Nat} {Q : State → Prop}
variable {cc : ByteArray} {nL pc idx : Nat} {ls : Array Slot} {own0 : String} {rest st0 : List Value} {D : va_G} {A : Nat → Prop} {H0 H1 : Heap} {cyI cyA : ClassId}
variable {sm wd lg n : Nat} {a : Nat → Nat} {st : Int32} {wv : Nat → Int32} {r : Nat → Nat → Int32} {U : State}
theorem S0.mv : Mv (S0 D cyI cyA sm wd lg a n st wv r) := fun _ _ _ al h => ⟨h.1, h.2.1.moved al, h.2.2⟩
theorem S0.n16 (h : S0 D cyI cyA sm wd lg a n st wv r U H) : n ≤ 16 := h.2.2.2
theorem S0.lt (h : S0 D cyI cyA sm wd lg a n st wv r U H) {q : Nat} (hq : sown sm wd lg a n q) : q < H.size := by
  rcases hq with e | e | e | ⟨k, hk, e⟩ <;> subst e
  · exact h.1.1.lt
  · exact h.1.2.1.lt
  · exact h.1.2.2.1.lt
  · exact (h.1.2.2.2 k hk).lt
theorem S0.kept (h : S0 D cyI cyA sm wd lg a n st wv r U H) (hk : ∀ q : Nat, sown sm wd lg a n q → H1[q]? = H[q]?) : S0 D cyI cyA sm wd lg a n st wv r U H1 :=
  ⟨⟨h.1.1.k (hk _ (Or.inl rfl)), h.1.2.1.k (hk _ (Or.inr (Or.inl rfl))), h.1.2.2.1.k (hk _ (Or.inr (Or.inr (Or.inl rfl)))), fun k h9 => (h.1.2.2.2 k h9).k (hk _ (Or.inr (Or.inr (Or.inr ⟨k, h9, rfl⟩))))⟩, h.2⟩
theorem S0.cg (h : S0 D cyI cyA sm wd lg a n st wv r U H) {wv2 : Nat → Int32} {r2 : Nat → Nat → Int32} (hw : ∀ k, k < 10 → wv k = wv2 k) (hr : ∀ k, k < n → ∀ i, i < 6 → r k i = r2 k i) : S0 D cyI cyA sm wd lg a n st wv2 r2 U H :=
  ⟨⟨h.1.1, h.1.2.1.c hw, h.1.2.2.1, fun k h9 => (h.1.2.2.2 k h9).c (hr k h9)⟩, h.2⟩
/-- what held at the start holds behind new cells -/
theorem S0.up (h : S0 D cyI cyA sm wd lg a n st wv r s s.heap) (hS : va_S (fun q => s.heap.size ≤ q) s.heap H locs) : S0 D cyI cyA sm wd lg a n st wv r s H :=
  h.kept (fun q hq => hS.2.1 q (h.lt hq) (Nat.not_le.mpr (h.lt hq)))
theorem S0.upK (h : S0 D cyI cyA sm wd lg a n st wv r s H) (hk : ∀ q : Nat, q < H.size → H1[q]? = H[q]?) : S0 D cyI cyA sm wd lg a n st wv r s H1 :=
  h.kept (fun q hq => hk q (h.lt hq))
theorem S0.rc (h : S0 D cyI cyA sm wd lg a n st wv r s H) : Rc RX1 sm s H := va_recv (ci := 1) (q0 := 0) h.2.1.1 (sP1 h.1.1) rfl rfl
theorem S0.gL (hF : CallFix p m c cc nL s args wA own0) (h : S0 D cyI cyA sm wd lg a n st wv r s H) (hl : Cond.fieldLink own0 idx "MapSongsLaw$Sim" "legs" "[[I" ∈ wA) (hdg : decode cc pc = .ok (.getfield idx, 3))
    (kk : W p l e R s m args below meth c H locs cells slots Q (F0 m (pc + 3) ls (.ref lg :: rest))) : W p l e R s m args below meth c H locs cells slots Q (F0 m pc ls (.ref sm :: rest)) := getS hF h.2.1 h.1.1 0 (by decide) rfl rfl hl hdg kk
theorem S0.gW (hF : CallFix p m c cc nL s args wA own0) (h : S0 D cyI cyA sm wd lg a n st wv r s H) (hl : Cond.fieldLink own0 idx "MapSongsLaw$Sim" "word" "[I" ∈ wA) (hdg : decode cc pc = .ok (.getfield idx, 3))
    (kk : W p l e R s m args below meth c H locs cells slots Q (F0 m (pc + 3) ls (.ref wd :: rest))) : W p l e R s m args below meth c H locs cells slots Q (F0 m pc ls (.ref sm :: rest)) := getS hF h.2.1 h.1.1 1 (by decide) rfl rfl hl hdg kk
theorem S0.gS (hF : CallFix p m c cc nL s args wA own0) (h : S0 D cyI cyA sm wd lg a n st wv r s H) (hl : Cond.fieldLink own0 idx "MapSongsLaw$Sim" "step" "I" ∈ wA) (hdg : decode cc pc = .ok (.getfield idx, 3))
    (kk : W p l e R s m args below meth c H locs cells slots Q (F0 m (pc + 3) ls (.int st :: rest))) : W p l e R s m args below meth c H locs cells slots Q (F0 m pc ls (.ref sm :: rest)) := getS hF h.2.1 h.1.1 2 (by decide) rfl rfl hl hdg kk
theorem S0.len (hF : CallFix p m c cc nL s args wA own0) (h : S0 D cyI cyA sm wd lg a n st wv r s H) (hdg : decode cc pc = .ok (.arraylength, 1))
    (kk : W p l e R s m args below meth c H locs cells slots Q (F0 m (pc + 1) ls (.int (nI n) :: rest))) : W p l e R s m args below meth c H locs cells slots Q (F0 m pc ls (.ref lg :: rest)) := lenQ hF h.2.1 h.1.2.2.1 hdg kk
theorem S0.ldA (hF : CallFix p m c cc nL s args wA own0) (h : S0 D cyI cyA sm wd lg a n st wv r s H) (k : Nat) (hk : k < n) {x : Int32} (hx : x = nI k) (hdg : decode cc pc = .ok (.aaload, 1))
    (kk : W p l e R s m args below meth c H locs cells slots Q (F0 m (pc + 1) ls (.ref (a k) :: rest))) : W p l e R s m args below meth c H locs cells slots Q (F0 m pc ls (.int x :: .ref lg :: rest)) := ldQ hF h.2.1 h.1.2.2.1 k hk (Nat.lt_of_le_of_lt h.n16 (by decide)) hx rfl hdg kk
theorem S0.ldR (hF : CallFix p m c cc nL s args wA own0) (h : S0 D cyI cyA sm wd lg a n st wv r s H) (k : Nat) (hk : k < n) (i : Nat) (hi : i < 6) {x : Int32} (hx : x = nI i) (hdg : decode cc pc = .ok (.iaload, 1))
    (kk : W p l e R s m args below meth c H locs cells slots Q (F0 m (pc + 1) ls (.int (r k i) :: rest))) : W p l e R s m args below meth c H locs cells slots Q (F0 m pc ls (.int x :: .ref (a k) :: rest)) := ldI hF h.2.1 (h.1.2.2.2 k hk) i hi (by decide) hx hdg kk
theorem S0.ldW (hF : CallFix p m c cc nL s args wA own0) (h : S0 D cyI cyA sm wd lg a n st wv r s H) (i : Nat) (hi : i < 10) {x : Int32} (hx : x = nI i) (hdg : decode cc pc = .ok (.iaload, 1))
    (kk : W p l e R s m args below meth c H locs cells slots Q (F0 m (pc + 1) ls (.int (wv i) :: rest))) : W p l e R s m args below meth c H locs cells slots Q (F0 m pc ls (.int x :: .ref wd :: rest)) := ldI hF h.2.1 h.1.2.1 i hi (by decide) hx hdg kk
theorem S0.stR (hF : CallFix p m c cc nL s args wA own0) (h : S0 D cyI cyA sm wd lg a n st wv r s H) (hS : va_S A H0 H locs) (k : Nat) (hk : k < n) (hA : A (a k)) (i : Nat) (hi : i < 6) {x y : Int32} (hx : x = nI i) (hdg : decode cc pc = .ok (.iastore, 1))
    (kk : ∀ (H1 : Heap) (locs1 : List Loc), S0 D cyI cyA sm wd lg a n st wv (va_up r k (upd (r k) i y)) s H1 → H1.size = H.size → (∀ q : Nat, q ≠ a k → H1[q]? = H[q]?) → va_S A H0 H1 locs1 → W p l e R s m args below meth c H1 locs1 cells slots Q (F0 m (pc + 1) ls rest)) : W p l e R s m args below meth c H locs cells slots Q (F0 m pc ls (.int y :: .int x :: .ref (a k) :: rest)) := by
  refine stI hF h.2.1 (h.1.2.2.2 k hk) hS hA i hi (by decide) hx hdg (fun H1 locs1 hI z oq hS1 => kk H1 locs1 ?_ z oq hS1)
  obtain ⟨hn1, hn2, hn3⟩ := h.2.2.1.2.1 k hk
  refine ⟨⟨h.1.1.k (oq _ (Ne.symm hn1)), h.1.2.1.k (oq _ (Ne.symm hn2)), h.1.2.2.1.k (oq _ (Ne.symm hn3)), fun j hj => ?_⟩, h.2⟩
  by_cases hjk : j = k
  · subst hjk
    simp only [va_up, if_pos]
    exact hI
  · simp only [va_up, if_neg hjk]
    exact (h.1.2.2.2 j hj).k (oq _ (fun q => hjk (h.2.2.1.2.2 j hj k hk q)))
theorem S0.stW (hF : CallFix p m c cc nL s args wA own0) (h : S0 D cyI cyA sm wd lg a n st wv r s H) (hS : va_S A H0 H locs) (hA : A wd) (i : Nat) (hi : i < 10) {x y : Int32} (hx : x = nI i) (hdg : decode cc pc = .ok (.iastore, 1))
    (kk : ∀ (H1 : Heap) (locs1 : List Loc), S0 D cyI cyA sm wd lg a n st (upd wv i y) r s H1 → H1.size = H.size → (∀ q : Nat, q ≠ wd → H1[q]? = H[q]?) → va_S A H0 H1 locs1 → W p l e R s m args below meth c H1 locs1 cells slots Q (F0 m (pc + 1) ls rest)) : W p l e R s m args below meth c H locs cells slots Q (F0 m pc ls (.int y :: .int x :: .ref wd :: rest)) := by
  refine stI hF h.2.1 h.1.2.1 hS hA i hi (by decide) hx hdg (fun H1 locs1 hI z oq hS1 => kk H1 locs1 ?_ z oq hS1)
  exact ⟨⟨h.1.1.k (oq _ h.2.2.1.1.1), hI, h.1.2.2.1.k (oq _ (Ne.symm h.2.2.1.1.2.2)), fun j hj => (h.1.2.2.2 j hj).k (oq _ (h.2.2.1.2.1 j hj).2.1)⟩, h.2⟩
theorem S0.stS (hF : CallFix p m c cc nL s args wA own0) (h : S0 D cyI cyA sm wd lg a n st wv r s H) (hS : va_S A H0 H locs) (hA : A sm) {y : Int32} (hl : Cond.fieldLink own0 idx "MapSongsLaw$Sim" "step" "I" ∈ wA) (hdg : decode cc pc = .ok (.putfield idx, 3))
    (kk : ∀ (H1 : Heap) (locs1 : List Loc), S0 D cyI cyA sm wd lg a n y wv r s H1 → H1.size = H.size → (∀ q : Nat, q ≠ sm → H1[q]? = H[q]?) → va_S A H0 H1 locs1 → W p l e R s m args below meth c H1 locs1 cells slots Q (F0 m (pc + 3) ls rest)) : W p l e R s m args below meth c H locs cells slots Q (F0 m pc ls (.int y :: .ref sm :: rest)) := by
  refine putS hF h.2.1 h.1.1 hS hA 2 (by decide) rfl (ty := .int) (by decide +kernel) rfl rfl (by show _ < 3; decide) hl hdg (fun H1 locs1 hO z oq hS1 => kk H1 locs1 ?_ z oq hS1)
  exact ⟨⟨hO, h.1.2.1.k (oq _ (Ne.symm h.2.2.1.1.1)), h.1.2.2.1.k (oq _ (Ne.symm h.2.2.1.1.2.1)), fun j hj => (h.1.2.2.2 j hj).k (oq _ (h.2.2.1.2.1 j hj).1)⟩, h.2⟩
/-- another outer array -/
theorem S0.stL (hF : CallFix p m c cc nL s args wA own0) (h : S0 D cyI cyA sm wd lg a n st wv r s H) (hS : va_S A H0 H locs) (hA : A sm) {lg2 n2 : Nat} {a2 : Nat → Nat} {r2 : Nat → Nat → Int32} (hQ : QA cyA lg2 n2 (fun k => some (a2 k)) H) (hR : ∀ k : Nat, k < n2 → IA cyI (a2 k) 6 (r2 k) H) (hAp : Ap sm wd lg2 a2 n2) (hn2 : n2 ≤ 16) (hl : Cond.fieldLink own0 idx "MapSongsLaw$Sim" "legs" "[[I" ∈ wA) (hdg : decode cc pc = .ok (.putfield idx, 3))
    (kk : ∀ (H1 : Heap) (locs1 : List Loc), S0 D cyI cyA sm wd lg2 a2 n2 st wv r2 s H1 → H1.size = H.size → (∀ q : Nat, q ≠ sm → H1[q]? = H[q]?) → va_S A H0 H1 locs1 → W p l e R s m args below meth c H1 locs1 cells slots Q (F0 m (pc + 3) ls rest)) : W p l e R s m args below meth c H locs cells slots Q (F0 m pc ls (.ref lg2 :: .ref sm :: rest)) := by
  refine putS hF h.2.1 h.1.1 hS hA 0 (by decide) rfl (ty := .array (.array .int)) (by decide +kernel) rfl rfl (by show _ < 3; decide) hl hdg (fun H1 locs1 hO z oq hS1 => kk H1 locs1 ?_ z oq hS1)
  exact ⟨⟨hO, h.1.2.1.k (oq _ (Ne.symm hAp.1.1)), hQ.k (oq _ (Ne.symm hAp.1.2.1)), fun j hj => (hR j hj).k (oq _ (hAp.2.1 j hj).1)⟩, h.2.1, hAp, hn2⟩
end S0R
