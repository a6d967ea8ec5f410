/-! THE LAW: both sides in step -/
def A9 (s : State) : Nat → Prop := fun a => s.heap.size ≤ a
/-- what stays: the two sides' cells apart and new; the statics, the throw's needs at the start; the script -/
def FX (l : Launch) (s : State) (q q2 : Nat → Nat) (o t1 t2 t3 sb L : Nat) (xs : Nat → Int32) : Prop :=
  ((∀ a, own 10 q a → s.heap.size ≤ a ∧ ¬ own 8 q2 a ∧ a ≠ o) ∧ (∀ a, own 8 q2 a → s.heap.size ≤ a ∧ a ≠ o) ∧ s.heap.size ≤ o) ∧ (ST t1 t2 (A9 s) s s.heap ∧ SM1 t3 (A9 s) s s.heap ∧ TH (A9 s) s s.heap ∧ NC s s.heap) ∧ (va_X sb L xs s s.heap ∧ sb < s.heap.size ∧ L ≤ 2048) ∧ l.stackTraces = false
/-- the two sides hold the same song -/
def RI (D : va_G) (cyI cyZ cyL : ClassId) (q q2 : Nat → Nat) (o N : Nat) (st : Int32) (v : Nat → Nat → Int32) (mk : Nat → Bool) (w : Nat → Nat → Int32) (th md : Int32) (w2 : Nat → Nat → Int32) (f : Nat → Int64) (s : State) (H : Heap) : Prop :=
  (C0 D cyI cyZ q (nI N) st v mk w s H ∧ M0 D cyI cyZ q2 th (nI N) st md v w2 s H ∧ O1 D cyL o f s H) ∧ (Ok N st v ∧ Der N st v w ∧ Mk N mk md)
abbrev LC (sb : Nat) (q q2 : Nat → Nat) (o jj : Nat) : List (Nat × Value) := [(0, .ref sb), (1, .ref (q 0)), (2, .ref (q2 0)), (3, .ref o), (4, .int (nI (4 * jj)))]
theorem nIadd (a b : Nat) : nI a + nI b = nI (a + b) := by unfold nI; exact (Int32.ofNat_add a b).symm
section LAWR
variable {p : Program} {l : Launch} {e : Env} {R : Room} {s : State} {m : MethodId} {args : Array Value} {below : List Frame} {meth : Method} {c : Code} {H : Heap} {locs : List Loc} {cells slots : Nat} {Q : State → Prop}
variable {cc : ByteArray} {nL pc idx k maxL : Nat} {ls : Array Slot} {own : String} {y : MethodName} {bytes : ByteArray} {ret : Option FieldType} {hh : List (Nat × Nat × Nat × Nat)} {rm : Room} {As rest st0 : List Value} {X : State → Heap → Prop}
variable {σ : Type} {X1 : σ → State → Heap → Prop} {A0 A1 : Nat → Prop} {H0 : Heap} {mc ms : Nat} {free : Addr → Prop}
theorem wSWi {post : Int32 → σ → Prop} (hF : CallFix p m c cc nL s args wA own) (hM : Met l y (wmW y bytes maxL ret hh) rm (va_Pc As (fun U => X U U.heap)) (va_Qi post (fun u U => X1 u U U.heap) A1) mc ms free) (hmv : Wm X) (hmv1 : ∀ u, Mv (X1 u)) (hX : X s H) (hi : SMW y bytes maxL ret hh k) (hlk : Cond.methodLink own idx y ∈ wA)
    (h0 : rm.cells = mc ∧ rm.slots = ms) (hR : rm.frames + 1 ≤ R.frames ∧ 8 + (maxL + 11) + rm.locals ≤ R.locals) (hk : As.length = k) (hsz : ls.size = nL) (hst : st0 = As.reverse ++ rest) (hW : (rest.map fun v => v.category).sum ≤ 8) (hcs : cells + mc ≤ R.cells ∧ slots + ms ≤ R.slots) (hS : va_S A0 H0 H locs) (hA : ∀ q, q < H.size → A1 q → A0 q) (hf : ∀ q, free q → A0 q) (hdg : decode cc pc = .ok (.invokestatic idx, 3))
    (kk : ∀ (r : Int32) (u : σ) (H1 : Heap) (locs1 : List Loc), post r u → X1 u s H1 → H.size ≤ H1.size → (∀ q : Nat, q < H.size → ¬ A1 q → H1[q]? = H[q]?) → va_S A0 H0 H1 locs1 → W p l e R s m args below meth c H1 locs1 (cells + mc) (slots + ms) Q (F0 m (pc + 3) ls (.int r :: rest))) : W p l e R s m args below meth c H locs cells slots Q (F0 m pc ls st0) :=
  va_calli (vx_runSW hF hM (vx_cwSW k hF.2.2.2.2 (gSW hlk hi.1) rfl h0.1 h0.2 hi.2 hR) ⟨wmBlind hmv, fun U hU hW => wmPre hmv hX hU hW⟩ rfl hk hsz hst (lv_room hW) hdg hcs) hS hA hf
    (fun r u t H1 locs1 ht hvm hp hB hz hk1 hS1 => kk r u H1 locs1 hp (by subst ht; exact hmv1 u t s t.heap hvm.symm hB) hz hk1 hS1)
theorem O1.ld {D : va_G} {cyL : ClassId} {o : Nat} {f : Nat → Int64} (hF : CallFix p m c cc nL s args wA own) (hO : O1 D cyL o f s H) (hdg : decode cc pc = .ok (.laload, 1))
    (kk : W p l e R s m args below meth c H locs cells slots Q (F0 m (pc + 1) ls (.long (f 0) :: rest))) : W p l e R s m args below meth c H locs cells slots Q (F0 m pc ls (.int 0 :: .ref o :: rest)) := by
  refine va_lald hF.1 hF.2.1 hO.2 hO.1 0 0 rfl rfl (i := 0) (by show ¬ ((0 : Int32) < 0 ∨ 1 ≤ (0 : Int32).toNatClampNeg); decide) hdg ?_
  exact kk
/-- a number of the script -/
theorem scr {b L j0 : Nat} {xs : Nat → Int32} {i x : Int32} (hF : CallFix p m c cc nL s args wA own) (hX : va_X b L xs s s.heap) (hbl : b < s.heap.size) (hL : L ≤ 2048) (hS : va_S (A9 s) s.heap H locs) (hi : i = nI j0) (hj : j0 < L) (hx : xs j0 = x) (hdg : decode cc pc = .ok (.iaload, 1))
    (kk : W p l e R s m args below meth c H locs cells slots Q (F0 m (pc + 1) ls (.int x :: rest))) : W p l e R s m args below meth c H locs cells slots Q (F0 m pc ls (.int i :: .ref b :: rest)) := by
  subst hi
  refine va_sld hF.1 hF.2.1 hX hbl (Nat.not_le.mpr hbl) hS (vp_in_nI hj (by omega)) hdg ?_
  rw [nI_clamp (Nat.lt_of_lt_of_le hj (Nat.le_trans hL (by decide))), hx]
  exact kk
abbrev KT (p : Program) (l : Launch) (e : Env) (s : State) (m : MethodId) (args : Array Value) (below : List Frame) (meth : Method) (c : Code) (cells slots : Nat) (Q : State → Prop) (D : va_G) (cyI cyZ cyL : ClassId) (q q2 : Nat → Nat) (o sb jj : Nat) : Prop :=
  ∀ (N : Nat) (st : Int32) (v : Nat → Nat → Int32) (mk : Nat → Bool) (w : Nat → Nat → Int32) (th md : Int32) (w2 : Nat → Nat → Int32) (f : Nat → Int64) (H : Heap) (locs : List Loc) (ls : Array Slot), RI D cyI cyZ cyL q q2 o N st v mk w th md w2 f s H → va_S (A9 s) s.heap H locs → lv_has ls 9 (LC sb q q2 o jj) →
    W p l e room_1 s m args below meth c H locs (cells + 20) (slots + 150) Q (F0 m 1666 ls [])
end LAWR
theorem in10_isI {x : Int32} (h : in10 x = false) : isI x 0 9 = false := by
  cases hb : isI x 0 9 with
  | false => rfl
  | true =>
    exfalso
    simp only [isI, in10, Bool.and_eq_true, decide_eq_true_eq, Bool.and_eq_false_iff, decide_eq_false_iff_not] at hb h
    rcases h with h | h
    · exact h hb.1
    · apply h
      have h1 := Int32.le_iff_toInt_le.mp hb.2
      have h2 : (9 : Int32).toInt = 9 := by decide
      have h3 : (10 : Int32).toInt = 10 := by decide
      rw [Int32.lt_iff_toInt_lt, h3]
      omega
theorem isI_of {x lo hi : Int32} (h : x < lo ∨ hi < x) : isI x lo hi = false := by
  cases hb : isI x lo hi with
  | false => rfl
  | true =>
    exfalso
    simp only [isI, Bool.and_eq_true, decide_eq_true_eq] at hb
    rcases h with h | h
    · exact absurd hb.1 (Int32.not_le.mpr h)
    · exact absurd hb.2 (Int32.not_le.mpr h)
theorem isI_lo {x : Int32} (h : x < -3 ∨ 3 < x) : isI x (-3) 3 = false := isI_of h
theorem isI_lo9 {x : Int32} (h : x < 1 ∨ 9 < x) : isI x 1 9 = false := isI_of h
theorem isI_lo4 {x : Int32} (h : x < 1 ∨ 4 < x) : isI x 1 4 = false := isI_of h
theorem isI_loM {x : Int32} (h : x < 1 ∨ 1000000 < x) : isI x 1 1000000 = false := isI_of h
theorem word_ok {N : Nat} {st x : Int32} {v : Nat → Nat → Int32} {j : Nat} (h : Ok N st v) : Ok N st (va_up v 3 (upd (v 3) j x)) := h
theorem word_der {K : Nat} {st x : Int32} {v w : Nat → Nat → Int32} {j : Nat} (h : Der K st v w) : Der K st (va_up v 3 (upd (v 3) j x)) w := h

section P32
variable {p : Program} {l : Launch} {ev : Env} {s : State} {m : MethodId} {args : Array Value} {below : List Frame} {meth : Method} {c : Code} {cells slots : Nat} {Q : State → Prop}
variable {D : va_G} {cyI cyZ cyL : ClassId} {q q2 : Nat → Nat} {o t1 t2 t3 sb L jj : Nat} {xs : Nat → Int32} {N : Nat} {st th md : Int32} {v w w2 : Nat → Nat → Int32} {mk : Nat → Bool} {f : Nat → Int64} {H : Heap} {locs : List Loc} {ls : Array Slot}
set_option maxHeartbeats 4000000 in
set_option maxRecDepth 100000 in
theorem k_legs (hF : CallFix p m c cL_law 9 s args wA RL) (hfx : FX l s q q2 o t1 t2 t3 sb L xs) (hce : cells + 20 ≤ 601024 ∧ slots + 150 ≤ 7293034) (hj : 4 * jj + 4 ≤ L)  (hI : RI D cyI cyZ cyL q q2 o N st v mk w th md w2 f s H) (hS : va_S (A9 s) s.heap H locs) (hl : lv_has ls 9 (LC sb q q2 o jj)) 
    (KK : KT p l ev s m args below meth c cells slots Q D cyI cyZ cyL q q2 o sb jj) : W p l ev room_1 s m args below meth c H locs cells slots Q (F0 m 512 ls []) := by
  obtain ⟨⟨hs1, hs2, hs3⟩, ⟨hZ, hZM, hTH, hNC⟩, ⟨hXs, hbl, hL⟩, hsT⟩ := hfx
  obtain ⟨⟨hX, hM, hO⟩, hok, hde, hmk⟩ := hI
  have hN := hok.1
  have ho : ¬ own 10 q o := fun h => (hs1 o h).2.2 rfl
  obtain ⟨hx, hb, hml, hown, hts⟩ := id hF
  refine lv_aload_n hx hb dL_law_512 rfl (lv_at hl 1 rfl) ?_
  refine cVi (As := []) (rest := []) hF (mX0_legs ) C0.mv hX hX.rc jyX0_legs kl_RL_111 ⟨rfl, rfl⟩ ⟨Nat.le_of_ble_eq_true rfl, Nat.le_of_ble_eq_true rfl⟩ rfl hl.1 rfl (Nat.le_of_ble_eq_true rfl) ⟨Nat.le_trans (by omega) hce.1, Nat.le_trans (by omega) hce.2⟩ dL_law_513 (fun r hr9 => ?_)
  rw [hr9]
  refine lv_aload_n hx hb dL_law_516 rfl (lv_at hl 2 rfl) ?_
  refine wVi (mc := 0) (ms := 0) (As := []) (rest := [.int (nI N)]) hF (mX1_legs ) M0.mv (fun _ => M0.mv) hM hM.rc jyX1_legs kl_RL_114 ⟨rfl, rfl⟩ ⟨Nat.le_of_ble_eq_true rfl, Nat.le_of_ble_eq_true rfl⟩ rfl hl.1 rfl (Nat.le_of_ble_eq_true rfl) ⟨Nat.le_trans (by omega) hce.1, Nat.le_trans (by omega) hce.2⟩ hS (fun a _ h => (hs2 a h).1) (fun a h => (hs2 a h).1) dL_law_517 (fun rb ub H locs hp hM9 hz hk hS => ?_)
  have hX := C0.kept hX (fun a ha => hk a (hX.lt ha) (hs1 a ha).2.1)
  have hO := O1.kept hO (hk o hO.lt (fun h => (hs2 o h).2 rfl))
  have hM := hM9
  rw [hp]
  refine lv_icmp_eq (tgt := 1666) hx hb dL_law_520 (by decide) (fun c520 => ?_) (fun c520 => ?_)
  · exact W.widen (by omega) (by omega) (KK N st v mk w 0 md ub f H locs ls ⟨⟨hX, hM, hO⟩, ⟨hok, hde, hmk⟩⟩ hS (lv_sub hl [0, 1, 2, 3, 4] rfl))
  · exact absurd rfl c520
set_option maxHeartbeats 4000000 in
set_option maxRecDepth 100000 in
theorem k_step (hF : CallFix p m c cL_law 9 s args wA RL) (hfx : FX l s q q2 o t1 t2 t3 sb L xs) (hce : cells + 20 ≤ 601024 ∧ slots + 150 ≤ 7293034) (hj : 4 * jj + 4 ≤ L)  (hI : RI D cyI cyZ cyL q q2 o N st v mk w th md w2 f s H) (hS : va_S (A9 s) s.heap H locs) (hl : lv_has ls 9 (LC sb q q2 o jj)) 
    (KK : KT p l ev s m args below meth c cells slots Q D cyI cyZ cyL q q2 o sb jj) : W p l ev room_1 s m args below meth c H locs cells slots Q (F0 m 525 ls []) := by
  obtain ⟨⟨hs1, hs2, hs3⟩, ⟨hZ, hZM, hTH, hNC⟩, ⟨hXs, hbl, hL⟩, hsT⟩ := hfx
  obtain ⟨⟨hX, hM, hO⟩, hok, hde, hmk⟩ := hI
  have hN := hok.1
  have ho : ¬ own 10 q o := fun h => (hs1 o h).2.2 rfl
  obtain ⟨hx, hb, hml, hown, hts⟩ := id hF
  refine lv_aload_n hx hb dL_law_525 rfl (lv_at hl 1 rfl) ?_
  refine cVi (As := []) (rest := []) hF (mX0_step ) C0.mv hX hX.rc jyX0_step kl_RL_115 ⟨rfl, rfl⟩ ⟨Nat.le_of_ble_eq_true rfl, Nat.le_of_ble_eq_true rfl⟩ rfl hl.1 rfl (Nat.le_of_ble_eq_true rfl) ⟨Nat.le_trans (by omega) hce.1, Nat.le_trans (by omega) hce.2⟩ dL_law_526 (fun r hr9 => ?_)
  rw [hr9]
  refine lv_aload_n hx hb dL_law_529 rfl (lv_at hl 2 rfl) ?_
  refine wVi (mc := 0) (ms := 0) (As := []) (rest := [.int st]) hF (mX1_step ) M0.mv (fun _ => M0.mv) hM hM.rc jyX1_step kl_RL_118 ⟨rfl, rfl⟩ ⟨Nat.le_of_ble_eq_true rfl, Nat.le_of_ble_eq_true rfl⟩ rfl hl.1 rfl (Nat.le_of_ble_eq_true rfl) ⟨Nat.le_trans (by omega) hce.1, Nat.le_trans (by omega) hce.2⟩ hS (fun a _ h => (hs2 a h).1) (fun a h => (hs2 a h).1) dL_law_530 (fun rb ub H locs hp hM9 hz hk hS => ?_)
  have hX := C0.kept hX (fun a ha => hk a (hX.lt ha) (hs1 a ha).2.1)
  have hO := O1.kept hO (hk o hO.lt (fun h => (hs2 o h).2 rfl))
  have hM := hM9
  rw [hp]
  refine lv_icmp_eq (tgt := 1666) hx hb dL_law_533 (by decide) (fun c533 => ?_) (fun c533 => ?_)
  · exact W.widen (by omega) (by omega) (KK N st v mk w 0 md ub f H locs ls ⟨⟨hX, hM, hO⟩, ⟨hok, hde, hmk⟩⟩ hS (lv_sub hl [0, 1, 2, 3, 4] rfl))
  · exact absurd rfl c533
set_option maxHeartbeats 4000000 in
set_option maxRecDepth 100000 in
theorem k_endX (hF : CallFix p m c cL_law 9 s args wA RL) (hfx : FX l s q q2 o t1 t2 t3 sb L xs) (hce : cells + 20 ≤ 601024 ∧ slots + 150 ≤ 7293034) (hj : 4 * jj + 4 ≤ L)  (hI : RI D cyI cyZ cyL q q2 o N st v mk w th md w2 f s H) (hS : va_S (A9 s) s.heap H locs) (hl : lv_has ls 9 (LC sb q q2 o jj)) 
    (KK : KT p l ev s m args below meth c cells slots Q D cyI cyZ cyL q q2 o sb jj) : W p l ev room_1 s m args below meth c H locs cells slots Q (F0 m 538 ls []) := by
  obtain ⟨⟨hs1, hs2, hs3⟩, ⟨hZ, hZM, hTH, hNC⟩, ⟨hXs, hbl, hL⟩, hsT⟩ := hfx
  obtain ⟨⟨hX, hM, hO⟩, hok, hde, hmk⟩ := hI
  have hN := hok.1
  have ho : ¬ own 10 q o := fun h => (hs1 o h).2.2 rfl
  obtain ⟨hx, hb, hml, hown, hts⟩ := id hF
  refine lv_aload_n hx hb dL_law_538 rfl (lv_at hl 1 rfl) ?_
  refine cVi (As := []) (rest := []) hF (mX0_endX hok hde) C0.mv hX hX.rc jyX0_endX kl_RL_119 ⟨rfl, rfl⟩ ⟨Nat.le_of_ble_eq_true rfl, Nat.le_of_ble_eq_true rfl⟩ rfl hl.1 rfl (Nat.le_of_ble_eq_true rfl) ⟨Nat.le_trans (by omega) hce.1, Nat.le_trans (by omega) hce.2⟩ dL_law_539 (fun r hr9 => ?_)
  rw [hr9]
  refine lv_aload_n hx hb dL_law_542 rfl (lv_at hl 2 rfl) ?_
  refine wVi (mc := 0) (ms := 0) (As := []) (rest := [.int (px (v 0) (v 1) N)]) hF (mX1_endX hok) (Mv.and M0.mv SM1.mv) (fun _ => M0.mv) ⟨hM, (hZM.kept hS.2.1).narrow (fun a h => (hs2 a h).1)⟩ hM.rc jyX1_endX kl_RL_122 ⟨rfl, rfl⟩ ⟨Nat.le_of_ble_eq_true rfl, Nat.le_of_ble_eq_true rfl⟩ rfl hl.1 rfl (Nat.le_of_ble_eq_true rfl) ⟨Nat.le_trans (by omega) hce.1, Nat.le_trans (by omega) hce.2⟩ hS (fun a _ h => (hs2 a h).1) (fun a h => (hs2 a h).1) dL_law_543 (fun rb ub H locs hp hM9 hz hk hS => ?_)
  have hX := C0.kept hX (fun a ha => hk a (hX.lt ha) (hs1 a ha).2.1)
  have hO := O1.kept hO (hk o hO.lt (fun h => (hs2 o h).2 rfl))
  have hM := hM9
  rw [hp]
  refine lv_icmp_eq (tgt := 1666) hx hb dL_law_546 (by decide) (fun c546 => ?_) (fun c546 => ?_)
  · exact W.widen (by omega) (by omega) (KK N st v mk w 0 md ub f H locs ls ⟨⟨hX, hM, hO⟩, ⟨hok, hde, hmk⟩⟩ hS (lv_sub hl [0, 1, 2, 3, 4] rfl))
  · exact absurd rfl c546
set_option maxHeartbeats 4000000 in
set_option maxRecDepth 100000 in
theorem k_endY (hF : CallFix p m c cL_law 9 s args wA RL) (hfx : FX l s q q2 o t1 t2 t3 sb L xs) (hce : cells + 20 ≤ 601024 ∧ slots + 150 ≤ 7293034) (hj : 4 * jj + 4 ≤ L)  (hI : RI D cyI cyZ cyL q q2 o N st v mk w th md w2 f s H) (hS : va_S (A9 s) s.heap H locs) (hl : lv_has ls 9 (LC sb q q2 o jj)) 
    (KK : KT p l ev s m args below meth c cells slots Q D cyI cyZ cyL q q2 o sb jj) : W p l ev room_1 s m args below meth c H locs cells slots Q (F0 m 551 ls []) := by
  obtain ⟨⟨hs1, hs2, hs3⟩, ⟨hZ, hZM, hTH, hNC⟩, ⟨hXs, hbl, hL⟩, hsT⟩ := hfx
  obtain ⟨⟨hX, hM, hO⟩, hok, hde, hmk⟩ := hI
  have hN := hok.1
  have ho : ¬ own 10 q o := fun h => (hs1 o h).2.2 rfl
  obtain ⟨hx, hb, hml, hown, hts⟩ := id hF
  refine lv_aload_n hx hb dL_law_551 rfl (lv_at hl 1 rfl) ?_
  refine cVi (As := []) (rest := []) hF (mX0_endY hok hde) C0.mv hX hX.rc jyX0_endY kl_RL_123 ⟨rfl, rfl⟩ ⟨Nat.le_of_ble_eq_true rfl, Nat.le_of_ble_eq_true rfl⟩ rfl hl.1 rfl (Nat.le_of_ble_eq_true rfl) ⟨Nat.le_trans (by omega) hce.1, Nat.le_trans (by omega) hce.2⟩ dL_law_552 (fun r hr9 => ?_)
  rw [hr9]
  refine lv_aload_n hx hb dL_law_555 rfl (lv_at hl 2 rfl) ?_
  refine wVi (mc := 0) (ms := 0) (As := []) (rest := [.int (py (v 0) (v 1) N)]) hF (mX1_endY hok) (Mv.and M0.mv SM1.mv) (fun _ => M0.mv) ⟨hM, (hZM.kept hS.2.1).narrow (fun a h => (hs2 a h).1)⟩ hM.rc jyX1_endY kl_RL_126 ⟨rfl, rfl⟩ ⟨Nat.le_of_ble_eq_true rfl, Nat.le_of_ble_eq_true rfl⟩ rfl hl.1 rfl (Nat.le_of_ble_eq_true rfl) ⟨Nat.le_trans (by omega) hce.1, Nat.le_trans (by omega) hce.2⟩ hS (fun a _ h => (hs2 a h).1) (fun a h => (hs2 a h).1) dL_law_556 (fun rb ub H locs hp hM9 hz hk hS => ?_)
  have hX := C0.kept hX (fun a ha => hk a (hX.lt ha) (hs1 a ha).2.1)
  have hO := O1.kept hO (hk o hO.lt (fun h => (hs2 o h).2 rfl))
  have hM := hM9
  rw [hp]
  refine lv_icmp_eq (tgt := 1666) hx hb dL_law_559 (by decide) (fun c559 => ?_) (fun c559 => ?_)
  · exact W.widen (by omega) (by omega) (KK N st v mk w 0 md ub f H locs ls ⟨⟨hX, hM, hO⟩, ⟨hok, hde, hmk⟩⟩ hS (lv_sub hl [0, 1, 2, 3, 4] rfl))
  · exact absurd rfl c559
set_option maxHeartbeats 4000000 in
set_option maxRecDepth 100000 in
theorem k_stepsHome (hF : CallFix p m c cL_law 9 s args wA RL) (hfx : FX l s q q2 o t1 t2 t3 sb L xs) (hce : cells + 20 ≤ 601024 ∧ slots + 150 ≤ 7293034) (hj : 4 * jj + 4 ≤ L)  (hI : RI D cyI cyZ cyL q q2 o N st v mk w th md w2 f s H) (hS : va_S (A9 s) s.heap H locs) (hl : lv_has ls 9 (LC sb q q2 o jj)) 
    (KK : KT p l ev s m args below meth c cells slots Q D cyI cyZ cyL q q2 o sb jj) : W p l ev room_1 s m args below meth c H locs cells slots Q (F0 m 564 ls []) := by
  obtain ⟨⟨hs1, hs2, hs3⟩, ⟨hZ, hZM, hTH, hNC⟩, ⟨hXs, hbl, hL⟩, hsT⟩ := hfx
  obtain ⟨⟨hX, hM, hO⟩, hok, hde, hmk⟩ := hI
  have hN := hok.1
  have ho : ¬ own 10 q o := fun h => (hs1 o h).2.2 rfl
  obtain ⟨hx, hb, hml, hown, hts⟩ := id hF
  refine lv_aload_n hx hb dL_law_564 rfl (lv_at hl 1 rfl) ?_
  refine cVi (As := []) (rest := []) hF (mX0_stepsHome hok hde) C0.mv hX hX.rc jyX0_stepsHome kl_RL_127 ⟨rfl, rfl⟩ ⟨Nat.le_of_ble_eq_true rfl, Nat.le_of_ble_eq_true rfl⟩ rfl hl.1 rfl (Nat.le_of_ble_eq_true rfl) ⟨Nat.le_trans (by omega) hce.1, Nat.le_trans (by omega) hce.2⟩ dL_law_565 (fun r hr9 => ?_)
  rw [hr9]
  refine lv_aload_n hx hb dL_law_568 rfl (lv_at hl 2 rfl) ?_
  refine wVi (mc := 0) (ms := 0) (As := []) (rest := [.int (mx (ab (px (v 0) (v 1) N)) (ab (py (v 0) (v 1) N)))]) hF (mX1_stepsHome hok) (Mv.and M0.mv SM1.mv) (fun _ => M0.mv) ⟨hM, (hZM.kept hS.2.1).narrow (fun a h => (hs2 a h).1)⟩ hM.rc jyX1_stepsHome kl_RL_130 ⟨rfl, rfl⟩ ⟨Nat.le_of_ble_eq_true rfl, Nat.le_of_ble_eq_true rfl⟩ rfl hl.1 rfl (Nat.le_of_ble_eq_true rfl) ⟨Nat.le_trans (by omega) hce.1, Nat.le_trans (by omega) hce.2⟩ hS (fun a _ h => (hs2 a h).1) (fun a h => (hs2 a h).1) dL_law_569 (fun rb ub H locs hp hM9 hz hk hS => ?_)
  have hX := C0.kept hX (fun a ha => hk a (hX.lt ha) (hs1 a ha).2.1)
  have hO := O1.kept hO (hk o hO.lt (fun h => (hs2 o h).2 rfl))
  have hM := hM9
  rw [hp]
  refine lv_icmp_eq (tgt := 1666) hx hb dL_law_572 (by decide) (fun c572 => ?_) (fun c572 => ?_)
  · exact W.widen (by omega) (by omega) (KK N st v mk w 0 md ub f H locs ls ⟨⟨hX, hM, hO⟩, ⟨hok, hde, hmk⟩⟩ hS (lv_sub hl [0, 1, 2, 3, 4] rfl))
  · exact absurd rfl c572
set_option maxHeartbeats 4000000 in
set_option maxRecDepth 100000 in
theorem k_returns (hF : CallFix p m c cL_law 9 s args wA RL) (hfx : FX l s q q2 o t1 t2 t3 sb L xs) (hce : cells + 20 ≤ 601024 ∧ slots + 150 ≤ 7293034) (hj : 4 * jj + 4 ≤ L)  (hI : RI D cyI cyZ cyL q q2 o N st v mk w th md w2 f s H) (hS : va_S (A9 s) s.heap H locs) (hl : lv_has ls 9 (LC sb q q2 o jj)) 
    (KK : KT p l ev s m args below meth c cells slots Q D cyI cyZ cyL q q2 o sb jj) : W p l ev room_1 s m args below meth c H locs cells slots Q (F0 m 577 ls []) := by
  obtain ⟨⟨hs1, hs2, hs3⟩, ⟨hZ, hZM, hTH, hNC⟩, ⟨hXs, hbl, hL⟩, hsT⟩ := hfx
  obtain ⟨⟨hX, hM, hO⟩, hok, hde, hmk⟩ := hI
  have hN := hok.1
  have ho : ¬ own 10 q o := fun h => (hs1 o h).2.2 rfl
  obtain ⟨hx, hb, hml, hown, hts⟩ := id hF
  refine lv_aload_n hx hb dL_law_577 rfl (lv_at hl 1 rfl) ?_
  refine cVi (As := []) (rest := []) hF (mX0_returns hok hde) C0.mv hX hX.rc jyX0_returns kl_RL_131 ⟨rfl, rfl⟩ ⟨Nat.le_of_ble_eq_true rfl, Nat.le_of_ble_eq_true rfl⟩ rfl hl.1 rfl (Nat.le_of_ble_eq_true rfl) ⟨Nat.le_trans (by omega) hce.1, Nat.le_trans (by omega) hce.2⟩ dL_law_578 (fun r hr9 => ?_)
  rw [hr9]
  refine lv_aload_n hx hb dL_law_581 rfl (lv_at hl 2 rfl) ?_
  refine wVi (mc := 0) (ms := 0) (As := []) (rest := [.int (rtn v N)]) hF (mX1_returns hok) (Mv.and M0.mv SM1.mv) (fun _ => M0.mv) ⟨hM, (hZM.kept hS.2.1).narrow (fun a h => (hs2 a h).1)⟩ hM.rc jyX1_returns kl_RL_134 ⟨rfl, rfl⟩ ⟨Nat.le_of_ble_eq_true rfl, Nat.le_of_ble_eq_true rfl⟩ rfl hl.1 rfl (Nat.le_of_ble_eq_true rfl) ⟨Nat.le_trans (by omega) hce.1, Nat.le_trans (by omega) hce.2⟩ hS (fun a _ h => (hs2 a h).1) (fun a h => (hs2 a h).1) dL_law_582 (fun rb ub H locs hp hM9 hz hk hS => ?_)
  have hX := C0.kept hX (fun a ha => hk a (hX.lt ha) (hs1 a ha).2.1)
  have hO := O1.kept hO (hk o hO.lt (fun h => (hs2 o h).2 rfl))
  have hM := hM9
  rw [hp]
  refine lv_icmp_eq (tgt := 1666) hx hb dL_law_585 (by decide) (fun c585 => ?_) (fun c585 => ?_)
  · exact W.widen (by omega) (by omega) (KK N st v mk w 0 md ub f H locs ls ⟨⟨hX, hM, hO⟩, ⟨hok, hde, hmk⟩⟩ hS (lv_sub hl [0, 1, 2, 3, 4] rfl))
  · exact absurd rfl c585
set_option maxHeartbeats 4000000 in
set_option maxRecDepth 100000 in
theorem k_beats (hF : CallFix p m c cL_law 9 s args wA RL) (hfx : FX l s q q2 o t1 t2 t3 sb L xs) (hce : cells + 20 ≤ 601024 ∧ slots + 150 ≤ 7293034) (hj : 4 * jj + 4 ≤ L)  (hI : RI D cyI cyZ cyL q q2 o N st v mk w th md w2 f s H) (hS : va_S (A9 s) s.heap H locs) (hl : lv_has ls 9 (LC sb q q2 o jj)) 
    (KK : KT p l ev s m args below meth c cells slots Q D cyI cyZ cyL q q2 o sb jj) : W p l ev room_1 s m args below meth c H locs cells slots Q (F0 m 989 ls []) := by
  obtain ⟨⟨hs1, hs2, hs3⟩, ⟨hZ, hZM, hTH, hNC⟩, ⟨hXs, hbl, hL⟩, hsT⟩ := hfx
  obtain ⟨⟨hX, hM, hO⟩, hok, hde, hmk⟩ := hI
  have hN := hok.1
  have ho : ¬ own 10 q o := fun h => (hs1 o h).2.2 rfl
  obtain ⟨hx, hb, hml, hown, hts⟩ := id hF
  refine lv_aload_n hx hb dL_law_989 rfl (lv_at hl 1 rfl) ?_
  refine cVi (As := []) (rest := []) hF (mX0_beats hok hde) C0.mv hX hX.rc jyX0_beats kl_RL_156 ⟨rfl, rfl⟩ ⟨Nat.le_of_ble_eq_true rfl, Nat.le_of_ble_eq_true rfl⟩ rfl hl.1 rfl (Nat.le_of_ble_eq_true rfl) ⟨Nat.le_trans (by omega) hce.1, Nat.le_trans (by omega) hce.2⟩ dL_law_990 (fun r hr9 => ?_)
  rw [hr9]
  refine lv_aload_n hx hb dL_law_993 rfl (lv_at hl 2 rfl) ?_
  refine wVi (mc := 0) (ms := 0) (As := []) (rest := [.int (sumI (v 1) N)]) hF (mX1_beats hok) M0.mv (fun _ => M0.mv) hM hM.rc jyX1_beats kl_RL_159 ⟨rfl, rfl⟩ ⟨Nat.le_of_ble_eq_true rfl, Nat.le_of_ble_eq_true rfl⟩ rfl hl.1 rfl (Nat.le_of_ble_eq_true rfl) ⟨Nat.le_trans (by omega) hce.1, Nat.le_trans (by omega) hce.2⟩ hS (fun a _ h => (hs2 a h).1) (fun a h => (hs2 a h).1) dL_law_994 (fun rb ub H locs hp hM9 hz hk hS => ?_)
  have hX := C0.kept hX (fun a ha => hk a (hX.lt ha) (hs1 a ha).2.1)
  have hO := O1.kept hO (hk o hO.lt (fun h => (hs2 o h).2 rfl))
  have hM := hM9
  rw [hp]
  refine lv_icmp_eq (tgt := 1666) hx hb dL_law_997 (by decide) (fun c997 => ?_) (fun c997 => ?_)
  · exact W.widen (by omega) (by omega) (KK N st v mk w 0 md ub f H locs ls ⟨⟨hX, hM, hO⟩, ⟨hok, hde, hmk⟩⟩ hS (lv_sub hl [0, 1, 2, 3, 4] rfl))
  · exact absurd rfl c997
set_option maxHeartbeats 4000000 in
set_option maxRecDepth 100000 in
theorem k_folded (hF : CallFix p m c cL_law 9 s args wA RL) (hfx : FX l s q q2 o t1 t2 t3 sb L xs) (hce : cells + 20 ≤ 601024 ∧ slots + 150 ≤ 7293034) (hj : 4 * jj + 4 ≤ L)  (hI : RI D cyI cyZ cyL q q2 o N st v mk w th md w2 f s H) (hS : va_S (A9 s) s.heap H locs) (hl : lv_has ls 9 (LC sb q q2 o jj)) 
    (KK : KT p l ev s m args below meth c cells slots Q D cyI cyZ cyL q q2 o sb jj) : W p l ev room_1 s m args below meth c H locs cells slots Q (F0 m 1002 ls []) := by
  obtain ⟨⟨hs1, hs2, hs3⟩, ⟨hZ, hZM, hTH, hNC⟩, ⟨hXs, hbl, hL⟩, hsT⟩ := hfx
  obtain ⟨⟨hX, hM, hO⟩, hok, hde, hmk⟩ := hI
  have hN := hok.1
  have ho : ¬ own 10 q o := fun h => (hs1 o h).2.2 rfl
  obtain ⟨hx, hb, hml, hown, hts⟩ := id hF
  refine lv_aload_n hx hb dL_law_1002 rfl (lv_at hl 1 rfl) ?_
  refine cVi (As := []) (rest := []) hF (mX0_folded hok hde) C0.mv hX hX.rc jyX0_folded kl_RL_160 ⟨rfl, rfl⟩ ⟨Nat.le_of_ble_eq_true rfl, Nat.le_of_ble_eq_true rfl⟩ rfl hl.1 rfl (Nat.le_of_ble_eq_true rfl) ⟨Nat.le_trans (by omega) hce.1, Nat.le_trans (by omega) hce.2⟩ dL_law_1003 (fun r hr9 => ?_)
  rw [hr9]
  refine lv_aload_n hx hb dL_law_1006 rfl (lv_at hl 2 rfl) ?_
  refine wVi (mc := 0) (ms := 0) (As := []) (rest := [.int (ctB (fold1 v st) N)]) hF (mX1_folded hok) M0.mv (fun _ => M0.mv) hM hM.rc jyX1_folded kl_RL_163 ⟨rfl, rfl⟩ ⟨Nat.le_of_ble_eq_true rfl, Nat.le_of_ble_eq_true rfl⟩ rfl hl.1 rfl (Nat.le_of_ble_eq_true rfl) ⟨Nat.le_trans (by omega) hce.1, Nat.le_trans (by omega) hce.2⟩ hS (fun a _ h => (hs2 a h).1) (fun a h => (hs2 a h).1) dL_law_1007 (fun rb ub H locs hp hM9 hz hk hS => ?_)
  have hX := C0.kept hX (fun a ha => hk a (hX.lt ha) (hs1 a ha).2.1)
  have hO := O1.kept hO (hk o hO.lt (fun h => (hs2 o h).2 rfl))
  have hM := hM9
  rw [hp]
  refine lv_icmp_eq (tgt := 1666) hx hb dL_law_1010 (by decide) (fun c1010 => ?_) (fun c1010 => ?_)
  · exact W.widen (by omega) (by omega) (KK N st v mk w 0 md ub f H locs ls ⟨⟨hX, hM, hO⟩, ⟨hok, hde, hmk⟩⟩ hS (lv_sub hl [0, 1, 2, 3, 4] rfl))
  · exact absurd rfl c1010
set_option maxHeartbeats 4000000 in
set_option maxRecDepth 100000 in
theorem k_range (hF : CallFix p m c cL_law 9 s args wA RL) (hfx : FX l s q q2 o t1 t2 t3 sb L xs) (hce : cells + 20 ≤ 601024 ∧ slots + 150 ≤ 7293034) (hj : 4 * jj + 4 ≤ L)  (hI : RI D cyI cyZ cyL q q2 o N st v mk w th md w2 f s H) (hS : va_S (A9 s) s.heap H locs) (hl : lv_has ls 9 (LC sb q q2 o jj)) 
    (KK : KT p l ev s m args below meth c cells slots Q D cyI cyZ cyL q q2 o sb jj) : W p l ev room_1 s m args below meth c H locs cells slots Q (F0 m 1015 ls []) := by
  obtain ⟨⟨hs1, hs2, hs3⟩, ⟨hZ, hZM, hTH, hNC⟩, ⟨hXs, hbl, hL⟩, hsT⟩ := hfx
  obtain ⟨⟨hX, hM, hO⟩, hok, hde, hmk⟩ := hI
  have hN := hok.1
  have ho : ¬ own 10 q o := fun h => (hs1 o h).2.2 rfl
  obtain ⟨hx, hb, hml, hown, hts⟩ := id hF
  refine lv_aload_n hx hb dL_law_1015 rfl (lv_at hl 1 rfl) ?_
  refine cVi (As := []) (rest := []) hF (mX0_range hok hde) C0.mv hX hX.rc jyX0_range kl_RL_164 ⟨rfl, rfl⟩ ⟨Nat.le_of_ble_eq_true rfl, Nat.le_of_ble_eq_true rfl⟩ rfl hl.1 rfl (Nat.le_of_ble_eq_true rfl) ⟨Nat.le_trans (by omega) hce.1, Nat.le_trans (by omega) hce.2⟩ dL_law_1016 (fun r hr9 => ?_)
  rw [hr9]
  refine lv_aload_n hx hb dL_law_1019 rfl (lv_at hl 2 rfl) ?_
  refine wVi (mc := 0) (ms := 0) (As := []) (rest := [.int (rng v st N)]) hF (mX1_range hok) M0.mv (fun _ => M0.mv) hM hM.rc jyX1_range kl_RL_167 ⟨rfl, rfl⟩ ⟨Nat.le_of_ble_eq_true rfl, Nat.le_of_ble_eq_true rfl⟩ rfl hl.1 rfl (Nat.le_of_ble_eq_true rfl) ⟨Nat.le_trans (by omega) hce.1, Nat.le_trans (by omega) hce.2⟩ hS (fun a _ h => (hs2 a h).1) (fun a h => (hs2 a h).1) dL_law_1020 (fun rb ub H locs hp hM9 hz hk hS => ?_)
  have hX := C0.kept hX (fun a ha => hk a (hX.lt ha) (hs1 a ha).2.1)
  have hO := O1.kept hO (hk o hO.lt (fun h => (hs2 o h).2 rfl))
  have hM := hM9
  rw [hp]
  refine lv_icmp_eq (tgt := 1666) hx hb dL_law_1023 (by decide) (fun c1023 => ?_) (fun c1023 => ?_)
  · exact W.widen (by omega) (by omega) (KK N st v mk w 0 md ub f H locs ls ⟨⟨hX, hM, hO⟩, ⟨hok, hde, hmk⟩⟩ hS (lv_sub hl [0, 1, 2, 3, 4] rfl))
  · exact absurd rfl c1023
set_option maxHeartbeats 4000000 in
set_option maxRecDepth 100000 in
theorem k_ambiguous (hF : CallFix p m c cL_law 9 s args wA RL) (hfx : FX l s q q2 o t1 t2 t3 sb L xs) (hce : cells + 20 ≤ 601024 ∧ slots + 150 ≤ 7293034) (hj : 4 * jj + 4 ≤ L)  (hI : RI D cyI cyZ cyL q q2 o N st v mk w th md w2 f s H) (hS : va_S (A9 s) s.heap H locs) (hl : lv_has ls 9 (LC sb q q2 o jj)) 
    (KK : KT p l ev s m args below meth c cells slots Q D cyI cyZ cyL q q2 o sb jj) : W p l ev room_1 s m args below meth c H locs cells slots Q (F0 m 1434 ls []) := by
  obtain ⟨⟨hs1, hs2, hs3⟩, ⟨hZ, hZM, hTH, hNC⟩, ⟨hXs, hbl, hL⟩, hsT⟩ := hfx
  obtain ⟨⟨hX, hM, hO⟩, hok, hde, hmk⟩ := hI
  have hN := hok.1
  have ho : ¬ own 10 q o := fun h => (hs1 o h).2.2 rfl
  obtain ⟨hx, hb, hml, hown, hts⟩ := id hF
  refine lv_aload_n hx hb dL_law_1434 rfl (lv_at hl 1 rfl) ?_
  refine cVi (As := []) (rest := []) hF (mX0_ambiguous hok hde) C0.mv hX hX.rc jyX0_ambiguous kl_RL_189 ⟨rfl, rfl⟩ ⟨Nat.le_of_ble_eq_true rfl, Nat.le_of_ble_eq_true rfl⟩ rfl hl.1 rfl (Nat.le_of_ble_eq_true rfl) ⟨Nat.le_trans (by omega) hce.1, Nat.le_trans (by omega) hce.2⟩ dL_law_1435 (fun r hr9 => ?_)
  rw [hr9]
  refine lv_aload_n hx hb dL_law_1438 rfl (lv_at hl 2 rfl) ?_
  refine wVi (mc := 0) (ms := 0) (As := []) (rest := [.int (ctB (amb v st mk) N)]) hF (mX1_ambiguous hok hmk) M0.mv (fun _ => M0.mv) hM hM.rc jyX1_ambiguous kl_RL_192 ⟨rfl, rfl⟩ ⟨Nat.le_of_ble_eq_true rfl, Nat.le_of_ble_eq_true rfl⟩ rfl hl.1 rfl (Nat.le_of_ble_eq_true rfl) ⟨Nat.le_trans (by omega) hce.1, Nat.le_trans (by omega) hce.2⟩ hS (fun a _ h => (hs2 a h).1) (fun a h => (hs2 a h).1) dL_law_1439 (fun rb ub H locs hp hM9 hz hk hS => ?_)
  have hX := C0.kept hX (fun a ha => hk a (hX.lt ha) (hs1 a ha).2.1)
  have hO := O1.kept hO (hk o hO.lt (fun h => (hs2 o h).2 rfl))
  have hM := hM9
  rw [hp]
  refine lv_icmp_eq (tgt := 1666) hx hb dL_law_1442 (by decide) (fun c1442 => ?_) (fun c1442 => ?_)
  · exact W.widen (by omega) (by omega) (KK N st v mk w 0 md ub f H locs ls ⟨⟨hX, hM, hO⟩, ⟨hok, hde, hmk⟩⟩ hS (lv_sub hl [0, 1, 2, 3, 4] rfl))
  · exact absurd rfl c1442
set_option maxHeartbeats 4000000 in
set_option maxRecDepth 100000 in
theorem k_ways (hF : CallFix p m c cL_law 9 s args wA RL) (hfx : FX l s q q2 o t1 t2 t3 sb L xs) (hce : cells + 20 ≤ 601024 ∧ slots + 150 ≤ 7293034) (hj : 4 * jj + 4 ≤ L)  (hI : RI D cyI cyZ cyL q q2 o N st v mk w th md w2 f s H) (hS : va_S (A9 s) s.heap H locs) (hl : lv_has ls 9 (LC sb q q2 o jj)) 
    (KK : KT p l ev s m args below meth c cells slots Q D cyI cyZ cyL q q2 o sb jj) : W p l ev room_1 s m args below meth c H locs cells slots Q (F0 m 1447 ls []) := by
  obtain ⟨⟨hs1, hs2, hs3⟩, ⟨hZ, hZM, hTH, hNC⟩, ⟨hXs, hbl, hL⟩, hsT⟩ := hfx
  obtain ⟨⟨hX, hM, hO⟩, hok, hde, hmk⟩ := hI
  have hN := hok.1
  have ho : ¬ own 10 q o := fun h => (hs1 o h).2.2 rfl
  obtain ⟨hx, hb, hml, hown, hts⟩ := id hF
  refine lv_aload_n hx hb dL_law_1447 rfl (lv_at hl 1 rfl) ?_
  refine cVl (As := []) (rest := []) hF (mX0_ways hok hde) C0.mv hX hX.rc jyX0_ways kl_RL_193 ⟨rfl, rfl⟩ ⟨Nat.le_of_ble_eq_true rfl, Nat.le_of_ble_eq_true rfl⟩ rfl hl.1 rfl (Nat.le_of_ble_eq_true rfl) ⟨Nat.le_trans (by omega) hce.1, Nat.le_trans (by omega) hce.2⟩ dL_law_1448 (fun r hr9 => ?_)
  rw [hr9]
  refine lv_aload_n hx hb dL_law_1451 rfl (lv_at hl 2 rfl) ?_
  refine wVl (mc := 0) (ms := 0) (As := []) (rest := [.long (wys v st mk N)]) hF (mX1_ways hok hmk) M0.mv (fun _ => M0.mv) hM hM.rc jyX1_ways kl_RL_197 ⟨rfl, rfl⟩ ⟨Nat.le_of_ble_eq_true rfl, Nat.le_of_ble_eq_true rfl⟩ rfl hl.1 rfl (Nat.le_of_ble_eq_true rfl) ⟨Nat.le_trans (by omega) hce.1, Nat.le_trans (by omega) hce.2⟩ hS (fun a _ h => (hs2 a h).1) (fun a h => (hs2 a h).1) dL_law_1452 (fun rb ub H locs hp hM9 hz hk hS => ?_)
  have hX := C0.kept hX (fun a ha => hk a (hX.lt ha) (hs1 a ha).2.1)
  have hO := O1.kept hO (hk o hO.lt (fun h => (hs2 o h).2 rfl))
  have hM := hM9
  rw [hp]
  refine W.lcmp hx hb dL_law_1455 ?_
  refine lv_if_eq (tgt := 1666) hx hb dL_law_1456 (by decide) (fun c1456 => ?_) (fun c1456 => ?_)
  · exact W.widen (by omega) (by omega) (KK N st v mk w 0 md ub f H locs ls ⟨⟨hX, hM, hO⟩, ⟨hok, hde, hmk⟩⟩ hS (lv_sub hl [0, 1, 2, 3, 4] rfl))
  · exact absurd ((lg_cmp_eq _ _).mpr rfl) c1456
set_option maxHeartbeats 4000000 in
set_option maxRecDepth 100000 in
theorem k_firstAmbiguous (hF : CallFix p m c cL_law 9 s args wA RL) (hfx : FX l s q q2 o t1 t2 t3 sb L xs) (hce : cells + 20 ≤ 601024 ∧ slots + 150 ≤ 7293034) (hj : 4 * jj + 4 ≤ L)  (hI : RI D cyI cyZ cyL q q2 o N st v mk w th md w2 f s H) (hS : va_S (A9 s) s.heap H locs) (hl : lv_has ls 9 (LC sb q q2 o jj)) 
    (KK : KT p l ev s m args below meth c cells slots Q D cyI cyZ cyL q q2 o sb jj) : W p l ev room_1 s m args below meth c H locs cells slots Q (F0 m 1461 ls []) := by
  obtain ⟨⟨hs1, hs2, hs3⟩, ⟨hZ, hZM, hTH, hNC⟩, ⟨hXs, hbl, hL⟩, hsT⟩ := hfx
  obtain ⟨⟨hX, hM, hO⟩, hok, hde, hmk⟩ := hI
  have hN := hok.1
  have ho : ¬ own 10 q o := fun h => (hs1 o h).2.2 rfl
  obtain ⟨hx, hb, hml, hown, hts⟩ := id hF
  refine lv_aload_n hx hb dL_law_1461 rfl (lv_at hl 1 rfl) ?_
  refine cVi (As := []) (rest := []) hF (mX0_firstAmbiguous hok hde) C0.mv hX hX.rc jyX0_firstAmbiguous kl_RL_198 ⟨rfl, rfl⟩ ⟨Nat.le_of_ble_eq_true rfl, Nat.le_of_ble_eq_true rfl⟩ rfl hl.1 rfl (Nat.le_of_ble_eq_true rfl) ⟨Nat.le_trans (by omega) hce.1, Nat.le_trans (by omega) hce.2⟩ dL_law_1462 (fun r hr9 => ?_)
  rw [hr9]
  refine lv_aload_n hx hb dL_law_1465 rfl (lv_at hl 2 rfl) ?_
  refine wVi (mc := 0) (ms := 0) (As := []) (rest := [.int (fam v st mk N)]) hF (mX1_firstAmbiguous hok hmk) M0.mv (fun _ => M0.mv) hM hM.rc jyX1_firstAmbiguous kl_RL_201 ⟨rfl, rfl⟩ ⟨Nat.le_of_ble_eq_true rfl, Nat.le_of_ble_eq_true rfl⟩ rfl hl.1 rfl (Nat.le_of_ble_eq_true rfl) ⟨Nat.le_trans (by omega) hce.1, Nat.le_trans (by omega) hce.2⟩ hS (fun a _ h => (hs2 a h).1) (fun a h => (hs2 a h).1) dL_law_1466 (fun rb ub H locs hp hM9 hz hk hS => ?_)
  have hX := C0.kept hX (fun a ha => hk a (hX.lt ha) (hs1 a ha).2.1)
  have hO := O1.kept hO (hk o hO.lt (fun h => (hs2 o h).2 rfl))
  have hM := hM9
  rw [hp]
  refine lv_icmp_eq (tgt := 1666) hx hb dL_law_1469 (by decide) (fun c1469 => ?_) (fun c1469 => ?_)
  · exact W.widen (by omega) (by omega) (KK N st v mk w 0 md ub f H locs ls ⟨⟨hX, hM, hO⟩, ⟨hok, hde, hmk⟩⟩ hS (lv_sub hl [0, 1, 2, 3, 4] rfl))
  · exact absurd rfl c1469
set_option maxHeartbeats 4000000 in
set_option maxRecDepth 100000 in
theorem k_bestStep (hF : CallFix p m c cL_law 9 s args wA RL) (hfx : FX l s q q2 o t1 t2 t3 sb L xs) (hce : cells + 20 ≤ 601024 ∧ slots + 150 ≤ 7293034) (hj : 4 * jj + 4 ≤ L)  (hI : RI D cyI cyZ cyL q q2 o N st v mk w th md w2 f s H) (hS : va_S (A9 s) s.heap H locs) (hl : lv_has ls 9 (LC sb q q2 o jj)) 
    (KK : KT p l ev s m args below meth c cells slots Q D cyI cyZ cyL q q2 o sb jj) : W p l ev room_1 s m args below meth c H locs cells slots Q (F0 m 1598 ls []) := by
  obtain ⟨⟨hs1, hs2, hs3⟩, ⟨hZ, hZM, hTH, hNC⟩, ⟨hXs, hbl, hL⟩, hsT⟩ := hfx
  obtain ⟨⟨hX, hM, hO⟩, hok, hde, hmk⟩ := hI
  have hN := hok.1
  have ho : ¬ own 10 q o := fun h => (hs1 o h).2.2 rfl
  obtain ⟨hx, hb, hml, hown, hts⟩ := id hF
  refine lv_aload_n hx hb dL_law_1598 rfl (lv_at hl 1 rfl) ?_
  refine cVi (As := []) (rest := []) hF (mX0_bestStep hok) C0.mv hX hX.rc jyX0_bestStep kl_RL_208 ⟨rfl, rfl⟩ ⟨Nat.le_of_ble_eq_true rfl, Nat.le_of_ble_eq_true rfl⟩ rfl hl.1 rfl (Nat.le_of_ble_eq_true rfl) ⟨Nat.le_trans (by omega) hce.1, Nat.le_trans (by omega) hce.2⟩ dL_law_1599 (fun r hr9 => ?_)
  rw [hr9]
  refine lv_aload_n hx hb dL_law_1602 rfl (lv_at hl 2 rfl) ?_
  refine wVi (mc := 0) (ms := 0) (As := []) (rest := [.int (nI (bst v N))]) hF (mX1_bestStep hok) M0.mv (fun _ => M0.mv) hM hM.rc jyX1_bestStep kl_RL_211 ⟨rfl, rfl⟩ ⟨Nat.le_of_ble_eq_true rfl, Nat.le_of_ble_eq_true rfl⟩ rfl hl.1 rfl (Nat.le_of_ble_eq_true rfl) ⟨Nat.le_trans (by omega) hce.1, Nat.le_trans (by omega) hce.2⟩ hS (fun a _ h => (hs2 a h).1) (fun a h => (hs2 a h).1) dL_law_1603 (fun rb ub H locs hp hM9 hz hk hS => ?_)
  have hX := C0.kept hX (fun a ha => hk a (hX.lt ha) (hs1 a ha).2.1)
  have hO := O1.kept hO (hk o hO.lt (fun h => (hs2 o h).2 rfl))
  have hM := hM9
  rw [hp]
  refine lv_icmp_eq (tgt := 1666) hx hb dL_law_1606 (by decide) (fun c1606 => ?_) (fun c1606 => ?_)
  · exact W.widen (by omega) (by omega) (KK N st v mk w 0 md ub f H locs ls ⟨⟨hX, hM, hO⟩, ⟨hok, hde, hmk⟩⟩ hS (lv_sub hl [0, 1, 2, 3, 4] rfl))
  · exact absurd rfl c1606
set_option maxHeartbeats 4000000 in
set_option maxRecDepth 100000 in
theorem k_digest (hF : CallFix p m c cL_law 9 s args wA RL) (hfx : FX l s q q2 o t1 t2 t3 sb L xs) (hce : cells + 20 ≤ 601024 ∧ slots + 150 ≤ 7293034) (hj : 4 * jj + 4 ≤ L)  (hI : RI D cyI cyZ cyL q q2 o N st v mk w th md w2 f s H) (hS : va_S (A9 s) s.heap H locs) (hl : lv_has ls 9 (LC sb q q2 o jj)) 
    (KK : KT p l ev s m args below meth c cells slots Q D cyI cyZ cyL q q2 o sb jj) : W p l ev room_1 s m args below meth c H locs cells slots Q (F0 m 1652 ls []) := by
  obtain ⟨⟨hs1, hs2, hs3⟩, ⟨hZ, hZM, hTH, hNC⟩, ⟨hXs, hbl, hL⟩, hsT⟩ := hfx
  obtain ⟨⟨hX, hM, hO⟩, hok, hde, hmk⟩ := hI
  have hN := hok.1
  have ho : ¬ own 10 q o := fun h => (hs1 o h).2.2 rfl
  obtain ⟨hx, hb, hml, hown, hts⟩ := id hF
  refine lv_aload_n hx hb dL_law_1652 rfl (lv_at hl 1 rfl) ?_
  refine cVl (As := []) (rest := []) hF (mX0_digest hok hde) C0.mv hX hX.rc jyX0_digest kl_RL_217 ⟨rfl, rfl⟩ ⟨Nat.le_of_ble_eq_true rfl, Nat.le_of_ble_eq_true rfl⟩ rfl hl.1 rfl (Nat.le_of_ble_eq_true rfl) ⟨Nat.le_trans (by omega) hce.1, Nat.le_trans (by omega) hce.2⟩ dL_law_1653 (fun r hr9 => ?_)
  rw [hr9]
  refine lv_aload_n hx hb dL_law_1656 rfl (lv_at hl 2 rfl) ?_
  refine wVl (mc := 17) (ms := 138) (rm := { frames := 7, cells := 17, slots := 138, locals := 157 }) (X := fun U H1 => M0 D cyI cyZ q2 th (nI N) st md v w2 U H1 ∧ SM1 t3 (fun a => own 8 q2 a ∨ H.size ≤ a) U H1 ∧ H1.size = H.size) (As := []) (rest := [.long (dgst v st mk N)]) hF (mX1_digest H.size hok hmk) (Mv.and M0.mv (Mv.and SM1.mv (fun _ _ _ _ h => h))) (fun _ => M0.mv) ⟨hM, (hZM.kept hS.2.1).narrow (fun a (h : own 8 q2 a ∨ H.size ≤ a) => h.elim (fun h => (hs2 a h).1) (fun h => Nat.le_trans hS.1 h)), rfl⟩ hM.rc jyX1_digest kl_RL_220 ⟨rfl, rfl⟩ ⟨Nat.le_of_ble_eq_true rfl, Nat.le_of_ble_eq_true rfl⟩ rfl hl.1 rfl (Nat.le_of_ble_eq_true rfl) ⟨Nat.le_trans (by omega) hce.1, Nat.le_trans (by omega) hce.2⟩ hS (fun a _ (h : own 8 q2 a ∨ H.size ≤ a) => h.elim (fun h => (hs2 a h).1) (fun h => Nat.le_trans hS.1 h)) (fun a (h : own 8 q2 a ∨ H.size ≤ a) => h.elim (fun h => (hs2 a h).1) (fun h => Nat.le_trans hS.1 h)) dL_law_1657 (fun rb ub H locs hp hM9 hz hk hS => ?_)
  have hX := C0.kept hX (fun a ha => hk a (hX.lt ha) (fun h => h.elim (hs1 a ha).2.1 (fun h => absurd (hX.lt ha) (Nat.not_lt.mpr h))))
  have hO := O1.kept hO (hk o hO.lt (fun h => h.elim (fun h => (hs2 o h).2 rfl) (fun h => absurd hO.lt (Nat.not_lt.mpr h))))
  have hM := hM9
  rw [hp]
  refine W.lcmp hx hb dL_law_1660 ?_
  refine lv_if_eq (tgt := 1666) hx hb dL_law_1661 (by decide) (fun c1661 => ?_) (fun c1661 => ?_)
  · exact W.widen (by omega) (by omega) (KK N st v mk w 0 md ub f H locs ls ⟨⟨hX, hM, hO⟩, ⟨hok, hde, hmk⟩⟩ hS (lv_sub hl [0, 1, 2, 3, 4] rfl))
  · exact absurd ((lg_cmp_eq _ _).mpr rfl) c1661
set_option maxHeartbeats 4000000 in
set_option maxRecDepth 100000 in
theorem k_turnOf_g (hF : CallFix p m c cL_law 9 s args wA RL) (hfx : FX l s q q2 o t1 t2 t3 sb L xs) (hce : cells + 20 ≤ 601024 ∧ slots + 150 ≤ 7293034) (hj : 4 * jj + 4 ≤ L) (i : Nat) (hi : i < N) (hI : RI D cyI cyZ cyL q q2 o N st v mk w th md w2 f s H) (hS : va_S (A9 s) s.heap H locs) (hl : lv_has ls 9 (LC sb q q2 o jj)) (hx1 : xs (4 * jj + 1) = (nI i))
    (KK : KT p l ev s m args below meth c cells slots Q D cyI cyZ cyL q q2 o sb jj) : W p l ev room_1 s m args below meth c H locs cells slots Q (F0 m 590 ls []) := by
  obtain ⟨⟨hs1, hs2, hs3⟩, ⟨hZ, hZM, hTH, hNC⟩, ⟨hXs, hbl, hL⟩, hsT⟩ := hfx
  obtain ⟨⟨hX, hM, hO⟩, hok, hde, hmk⟩ := hI
  have hN := hok.1
  have ho : ¬ own 10 q o := fun h => (hs1 o h).2.2 rfl
  obtain ⟨hx, hb, hml, hown, hts⟩ := id hF
  refine lv_aload_n hx hb dL_law_590 rfl (lv_at hl 1 rfl) ?_
  refine lv_aload_n hx hb dL_law_591 rfl (lv_at hl 0 rfl) ?_
  refine lv_iload hx hb dL_law_592 (lv_at hl 4 rfl) ?_
  refine lv_iconst (v := 1) hx hb dL_law_594 (by decide) ?_
  refine lv_iadd hx hb dL_law_595 ?_
  refine scr hF hXs hbl hL hS (nIadd (4 * jj) 1) (by omega) hx1 dL_law_596 ?_
  refine lv_aload_n hx hb dL_law_597 rfl (lv_at hl 3 rfl) ?_
  refine wSWi (mc := 0) (ms := 0) (As := [.ref (q 0), .int (nI i), .ref o]) (rest := []) hF (gL_turnOf hok hde i hi) (Wm.and C0.mv.wm O1.mv.wm) (fun _ => O1.mv) ⟨hX, hO⟩ jyL_turnOf kl_RL_135 ⟨rfl, rfl⟩ ⟨Nat.le_of_ble_eq_true rfl, Nat.le_of_ble_eq_true rfl⟩ rfl hl.1 rfl (Nat.le_of_ble_eq_true rfl) ⟨Nat.le_trans (by omega) hce.1, Nat.le_trans (by omega) hce.2⟩ hS (fun a _ h => by rw [h]; exact hs3) (fun a h => by rw [h]; exact hs3) dL_law_598 (fun ra ua H locs hp hX9 hz hk hS => ?_)
  have hX := C0.kept hX (fun a ha => hk a (hX.lt ha) (hs1 a ha).2.2)
  have hM := M0.kept hM (fun a ha => hk a (hM.lt ha) (hs2 a ha).2)
  have hO := hX9
  obtain ⟨hr0, hf0⟩ := hp
  rw [hr0]
  refine lv_istore (lv' := [(5, .int 0), (0, .ref sb), (1, .ref (q 0)), (2, .ref (q2 0)), (3, .ref o), (4, .int (nI (4 * jj)))]) hx hb dL_law_601 hl (by decide) rfl (fun ls hl => ?_)
  refine lv_aload_n hx hb dL_law_603 rfl (lv_at hl 3 rfl) ?_
  refine lv_aload_n hx hb dL_law_604 rfl (lv_at hl 1 rfl) ?_
  refine lv_iload hx hb dL_law_605 (lv_at hl 5 rfl) ?_
  refine lv_iconst (v := 1) hx hb dL_law_607 (by decide) ?_
  refine lv_iadd hx hb dL_law_608 ?_
  refine scr hF hXs hbl hL hS (nIadd (4 * jj) 1) (by omega) hx1 dL_law_609 ?_
  refine wVi (mc := 0) (ms := 0) (As := [.int (nI i)]) (rest := []) hF (mX1_turnOf hok i hi) M0.mv (fun _ => M0.mv) hM hM.rc jyX1_turnOf kl_RL_137 ⟨rfl, rfl⟩ ⟨Nat.le_of_ble_eq_true rfl, Nat.le_of_ble_eq_true rfl⟩ rfl hl.1 rfl (Nat.le_of_ble_eq_true rfl) ⟨Nat.le_trans (by omega) hce.1, Nat.le_trans (by omega) hce.2⟩ hS (fun a _ h => (hs2 a h).1) (fun a h => (hs2 a h).1) dL_law_610 (fun rb ub H locs hp hM9 hz hk hS => ?_)
  have hX := C0.kept hX (fun a ha => hk a (hX.lt ha) (hs1 a ha).2.1)
  have hO := O1.kept hO (hk o hO.lt (fun h => (hs2 o h).2 rfl))
  have hM := hM9
  rw [hp]
  refine lv_istore (lv' := [(6, .int (v 0 i)), (5, .int 0), (0, .ref sb), (1, .ref (q 0)), (2, .ref (q2 0)), (3, .ref o), (4, .int (nI (4 * jj)))]) hx hb dL_law_613 hl (by decide) rfl (fun ls hl => ?_)
  refine lv_aload_n hx hb dL_law_615 rfl (lv_at hl 4 rfl) ?_
  refine cVi (As := []) (rest := []) hF mX1_thrown M0.mv hM hM.rc jyX1_thrown kl_RL_93 ⟨rfl, rfl⟩ ⟨Nat.le_of_ble_eq_true rfl, Nat.le_of_ble_eq_true rfl⟩ rfl hl.1 rfl (Nat.le_of_ble_eq_true rfl) ⟨Nat.le_trans (by omega) hce.1, Nat.le_trans (by omega) hce.2⟩ dL_law_616 (fun r hr9 => ?_)
  rw [hr9]
  refine lv_iload hx hb dL_law_619 (lv_at hl 1 rfl) ?_
  refine lv_icmp_eq (tgt := 626) hx hb dL_law_621 (by decide) (fun c621 => ?_) (fun c621 => ?_)
  · refine lv_iload hx hb dL_law_626 (lv_at hl 1 rfl) ?_
    refine lv_if_ne (tgt := 643) hx hb dL_law_628 (by decide) (fun c628 => ?_) (fun c628 => ?_)
    · exact absurd rfl c628
    · refine lv_aload_n hx hb dL_law_631 rfl (lv_at hl 5 rfl) ?_
      refine lv_iconst (v := 0) hx hb dL_law_632 (by decide) ?_
      refine O1.ld hF hO dL_law_633 ?_
      refine topL hf0 ?_
      refine lv_iload hx hb dL_law_634 (lv_at hl 0 rfl) ?_
      refine lv_i2l hx hb dL_law_636 rfl ?_
      refine W.lcmp hx hb dL_law_637 ?_
      refine lv_if_eq (tgt := 643) hx hb dL_law_638 (by decide) (fun c638 => ?_) (fun c638 => ?_)
      · refine lv_goto (tgt := 1666) hx hb dL_law_643 (by decide) ?_
        exact W.widen (by omega) (by omega) (KK N st v mk w 0 md ub ua H locs ls ⟨⟨hX, hM, hO⟩, ⟨hok, hde, hmk⟩⟩ hS (lv_sub hl [2, 3, 4, 5, 6] rfl))
      · exact absurd ((lg_cmp_eq _ _).mpr rfl) c638
  · exact absurd rfl c621
set_option maxHeartbeats 4000000 in
set_option maxRecDepth 100000 in
theorem k_turnOf_b (hF : CallFix p m c cL_law 9 s args wA RL) (hfx : FX l s q q2 o t1 t2 t3 sb L xs) (hce : cells + 20 ≤ 601024 ∧ slots + 150 ≤ 7293034) (hj : 4 * jj + 4 ≤ L) (a : Int32) (hb9 : a < 0 ∨ nI N ≤ a) (hI : RI D cyI cyZ cyL q q2 o N st v mk w th md w2 f s H) (hS : va_S (A9 s) s.heap H locs) (hl : lv_has ls 9 (LC sb q q2 o jj)) (hx1 : xs (4 * jj + 1) = a)
    (KK : KT p l ev s m args below meth c cells slots Q D cyI cyZ cyL q q2 o sb jj) : W p l ev room_1 s m args below meth c H locs cells slots Q (F0 m 590 ls []) := by
  obtain ⟨⟨hs1, hs2, hs3⟩, ⟨hZ, hZM, hTH, hNC⟩, ⟨hXs, hbl, hL⟩, hsT⟩ := hfx
  obtain ⟨⟨hX, hM, hO⟩, hok, hde, hmk⟩ := hI
  have hN := hok.1
  have ho : ¬ own 10 q o := fun h => (hs1 o h).2.2 rfl
  obtain ⟨hx, hb, hml, hown, hts⟩ := id hF
  refine lv_aload_n hx hb dL_law_590 rfl (lv_at hl 1 rfl) ?_
  refine lv_aload_n hx hb dL_law_591 rfl (lv_at hl 0 rfl) ?_
  refine lv_iload hx hb dL_law_592 (lv_at hl 4 rfl) ?_
  refine lv_iconst (v := 1) hx hb dL_law_594 (by decide) ?_
  refine lv_iadd hx hb dL_law_595 ?_
  refine scr hF hXs hbl hL hS (nIadd (4 * jj) 1) (by omega) hx1 dL_law_596 ?_
  refine lv_aload_n hx hb dL_law_597 rfl (lv_at hl 3 rfl) ?_
  refine wSWi (mc := 1) (ms := 6) (X1 := fun (_ : Unit) _ _ => True) (As := [.ref (q 0), .int a, .ref o]) (rest := []) hF (bL_turnOf hsT a hb9) (Wm.and (Wm.and C0.mv.wm TH.wm) NC.mv.wm) (fun _ => Mv.const) ⟨⟨hX, (hTH.kept hS.2.1).narrow (fun _ h => h.elim)⟩, hNC⟩ jyL_turnOf kl_RL_135 ⟨rfl, rfl⟩ ⟨Nat.le_of_ble_eq_true rfl, Nat.le_of_ble_eq_true rfl⟩ rfl hl.1 rfl (Nat.le_of_ble_eq_true rfl) ⟨Nat.le_trans (by omega) hce.1, Nat.le_trans (by omega) hce.2⟩ hS (fun _ _ h => h.elim) (fun _ h => h.elim) dL_law_598 (fun ra ua H locs hp hX9 hz hk hS => ?_)
  have hX := C0.kept hX (fun a ha => hk a (hX.lt ha) (fun h => h))
  have hM := M0.kept hM (fun a ha => hk a (hM.lt ha) (fun h => h))
  have hO := O1.kept hO (hk o hO.lt (fun h => h))
  have hr0 := hp
  rw [hr0]
  refine lv_istore (lv' := [(5, .int 1), (0, .ref sb), (1, .ref (q 0)), (2, .ref (q2 0)), (3, .ref o), (4, .int (nI (4 * jj)))]) hx hb dL_law_601 hl (by decide) rfl (fun ls hl => ?_)
  refine lv_aload_n hx hb dL_law_603 rfl (lv_at hl 3 rfl) ?_
  refine lv_aload_n hx hb dL_law_604 rfl (lv_at hl 1 rfl) ?_
  refine lv_iload hx hb dL_law_605 (lv_at hl 5 rfl) ?_
  refine lv_iconst (v := 1) hx hb dL_law_607 (by decide) ?_
  refine lv_iadd hx hb dL_law_608 ?_
  refine scr hF hXs hbl hL hS (nIadd (4 * jj) 1) (by omega) hx1 dL_law_609 ?_
  refine wVi (mc := 0) (ms := 0) (As := [.int a]) (rest := []) hF (nX1_turnOf a (legB_f hN hb9)) M0.mv (fun _ => M0.mv) hM hM.rc jyX1_turnOf kl_RL_137 ⟨rfl, rfl⟩ ⟨Nat.le_of_ble_eq_true rfl, Nat.le_of_ble_eq_true rfl⟩ rfl hl.1 rfl (Nat.le_of_ble_eq_true rfl) ⟨Nat.le_trans (by omega) hce.1, Nat.le_trans (by omega) hce.2⟩ hS (fun a _ h => (hs2 a h).1) (fun a h => (hs2 a h).1) dL_law_610 (fun rb ub H locs hp hM9 hz hk hS => ?_)
  have hX := C0.kept hX (fun a ha => hk a (hX.lt ha) (hs1 a ha).2.1)
  have hO := O1.kept hO (hk o hO.lt (fun h => (hs2 o h).2 rfl))
  have hM := hM9
  refine lv_istore (lv' := [(6, .int rb), (5, .int 1), (0, .ref sb), (1, .ref (q 0)), (2, .ref (q2 0)), (3, .ref o), (4, .int (nI (4 * jj)))]) hx hb dL_law_613 hl (by decide) rfl (fun ls hl => ?_)
  refine lv_aload_n hx hb dL_law_615 rfl (lv_at hl 4 rfl) ?_
  refine cVi (As := []) (rest := []) hF mX1_thrown M0.mv hM hM.rc jyX1_thrown kl_RL_93 ⟨rfl, rfl⟩ ⟨Nat.le_of_ble_eq_true rfl, Nat.le_of_ble_eq_true rfl⟩ rfl hl.1 rfl (Nat.le_of_ble_eq_true rfl) ⟨Nat.le_trans (by omega) hce.1, Nat.le_trans (by omega) hce.2⟩ dL_law_616 (fun r hr9 => ?_)
  rw [hr9]
  refine lv_iload hx hb dL_law_619 (lv_at hl 1 rfl) ?_
  refine lv_icmp_eq (tgt := 626) hx hb dL_law_621 (by decide) (fun c621 => ?_) (fun c621 => ?_)
  · refine lv_iload hx hb dL_law_626 (lv_at hl 1 rfl) ?_
    refine lv_if_ne (tgt := 643) hx hb dL_law_628 (by decide) (fun c628 => ?_) (fun c628 => ?_)
    · refine lv_goto (tgt := 1666) hx hb dL_law_643 (by decide) ?_
      exact W.widen (by omega) (by omega) (KK N st v mk w 1 md ub f H locs ls ⟨⟨hX, hM, hO⟩, ⟨hok, hde, hmk⟩⟩ hS (lv_sub hl [2, 3, 4, 5, 6] rfl))
    · exact absurd c628 (by decide)
  · exact absurd rfl c621
set_option maxHeartbeats 4000000 in
set_option maxRecDepth 100000 in
theorem k_headingOf_g (hF : CallFix p m c cL_law 9 s args wA RL) (hfx : FX l s q q2 o t1 t2 t3 sb L xs) (hce : cells + 20 ≤ 601024 ∧ slots + 150 ≤ 7293034) (hj : 4 * jj + 4 ≤ L) (i : Nat) (hi : i < N) (hI : RI D cyI cyZ cyL q q2 o N st v mk w th md w2 f s H) (hS : va_S (A9 s) s.heap H locs) (hl : lv_has ls 9 (LC sb q q2 o jj)) (hx1 : xs (4 * jj + 1) = (nI i))
    (KK : KT p l ev s m args below meth c cells slots Q D cyI cyZ cyL q q2 o sb jj) : W p l ev room_1 s m args below meth c H locs cells slots Q (F0 m 646 ls []) := by
  obtain ⟨⟨hs1, hs2, hs3⟩, ⟨hZ, hZM, hTH, hNC⟩, ⟨hXs, hbl, hL⟩, hsT⟩ := hfx
  obtain ⟨⟨hX, hM, hO⟩, hok, hde, hmk⟩ := hI
  have hN := hok.1
  have ho : ¬ own 10 q o := fun h => (hs1 o h).2.2 rfl
  obtain ⟨hx, hb, hml, hown, hts⟩ := id hF
  refine lv_aload_n hx hb dL_law_646 rfl (lv_at hl 1 rfl) ?_
  refine lv_aload_n hx hb dL_law_647 rfl (lv_at hl 0 rfl) ?_
  refine lv_iload hx hb dL_law_648 (lv_at hl 4 rfl) ?_
  refine lv_iconst (v := 1) hx hb dL_law_650 (by decide) ?_
  refine lv_iadd hx hb dL_law_651 ?_
  refine scr hF hXs hbl hL hS (nIadd (4 * jj) 1) (by omega) hx1 dL_law_652 ?_
  refine lv_aload_n hx hb dL_law_653 rfl (lv_at hl 3 rfl) ?_
  refine wSWi (mc := 0) (ms := 0) (As := [.ref (q 0), .int (nI i), .ref o]) (rest := []) hF (gL_headingOf hok hde i hi) (Wm.and C0.mv.wm O1.mv.wm) (fun _ => O1.mv) ⟨hX, hO⟩ jyL_headingOf kl_RL_138 ⟨rfl, rfl⟩ ⟨Nat.le_of_ble_eq_true rfl, Nat.le_of_ble_eq_true rfl⟩ rfl hl.1 rfl (Nat.le_of_ble_eq_true rfl) ⟨Nat.le_trans (by omega) hce.1, Nat.le_trans (by omega) hce.2⟩ hS (fun a _ h => by rw [h]; exact hs3) (fun a h => by rw [h]; exact hs3) dL_law_654 (fun ra ua H locs hp hX9 hz hk hS => ?_)
  have hX := C0.kept hX (fun a ha => hk a (hX.lt ha) (hs1 a ha).2.2)
  have hM := M0.kept hM (fun a ha => hk a (hM.lt ha) (hs2 a ha).2)
  have hO := hX9
  obtain ⟨hr0, hf0⟩ := hp
  rw [hr0]
  refine lv_istore (lv' := [(5, .int 0), (0, .ref sb), (1, .ref (q 0)), (2, .ref (q2 0)), (3, .ref o), (4, .int (nI (4 * jj)))]) hx hb dL_law_657 hl (by decide) rfl (fun ls hl => ?_)
  refine lv_aload_n hx hb dL_law_659 rfl (lv_at hl 3 rfl) ?_
  refine lv_aload_n hx hb dL_law_660 rfl (lv_at hl 1 rfl) ?_
  refine lv_iload hx hb dL_law_661 (lv_at hl 5 rfl) ?_
  refine lv_iconst (v := 1) hx hb dL_law_663 (by decide) ?_
  refine lv_iadd hx hb dL_law_664 ?_
  refine scr hF hXs hbl hL hS (nIadd (4 * jj) 1) (by omega) hx1 dL_law_665 ?_
  refine wVi (mc := 0) (ms := 0) (As := [.int (nI i)]) (rest := []) hF (mX1_headingOf hok i hi) M0.mv (fun _ => M0.mv) hM hM.rc jyX1_headingOf kl_RL_140 ⟨rfl, rfl⟩ ⟨Nat.le_of_ble_eq_true rfl, Nat.le_of_ble_eq_true rfl⟩ rfl hl.1 rfl (Nat.le_of_ble_eq_true rfl) ⟨Nat.le_trans (by omega) hce.1, Nat.le_trans (by omega) hce.2⟩ hS (fun a _ h => (hs2 a h).1) (fun a h => (hs2 a h).1) dL_law_666 (fun rb ub H locs hp hM9 hz hk hS => ?_)
  have hX := C0.kept hX (fun a ha => hk a (hX.lt ha) (hs1 a ha).2.1)
  have hO := O1.kept hO (hk o hO.lt (fun h => (hs2 o h).2 rfl))
  have hM := hM9
  rw [hp]
  refine lv_istore (lv' := [(6, .int (hd (v 0) (i + 1))), (5, .int 0), (0, .ref sb), (1, .ref (q 0)), (2, .ref (q2 0)), (3, .ref o), (4, .int (nI (4 * jj)))]) hx hb dL_law_669 hl (by decide) rfl (fun ls hl => ?_)
  refine lv_aload_n hx hb dL_law_671 rfl (lv_at hl 4 rfl) ?_
  refine cVi (As := []) (rest := []) hF mX1_thrown M0.mv hM hM.rc jyX1_thrown kl_RL_93 ⟨rfl, rfl⟩ ⟨Nat.le_of_ble_eq_true rfl, Nat.le_of_ble_eq_true rfl⟩ rfl hl.1 rfl (Nat.le_of_ble_eq_true rfl) ⟨Nat.le_trans (by omega) hce.1, Nat.le_trans (by omega) hce.2⟩ dL_law_672 (fun r hr9 => ?_)
  rw [hr9]
  refine lv_iload hx hb dL_law_675 (lv_at hl 1 rfl) ?_
  refine lv_icmp_eq (tgt := 682) hx hb dL_law_677 (by decide) (fun c677 => ?_) (fun c677 => ?_)
  · refine lv_iload hx hb dL_law_682 (lv_at hl 1 rfl) ?_
    refine lv_if_ne (tgt := 699) hx hb dL_law_684 (by decide) (fun c684 => ?_) (fun c684 => ?_)
    · exact absurd rfl c684
    · refine lv_aload_n hx hb dL_law_687 rfl (lv_at hl 5 rfl) ?_
      refine lv_iconst (v := 0) hx hb dL_law_688 (by decide) ?_
      refine O1.ld hF hO dL_law_689 ?_
      refine topL hf0 ?_
      refine lv_iload hx hb dL_law_690 (lv_at hl 0 rfl) ?_
      refine lv_i2l hx hb dL_law_692 rfl ?_
      refine W.lcmp hx hb dL_law_693 ?_
      refine lv_if_eq (tgt := 699) hx hb dL_law_694 (by decide) (fun c694 => ?_) (fun c694 => ?_)
      · refine lv_goto (tgt := 1666) hx hb dL_law_699 (by decide) ?_
        exact W.widen (by omega) (by omega) (KK N st v mk w 0 md ub ua H locs ls ⟨⟨hX, hM, hO⟩, ⟨hok, hde, hmk⟩⟩ hS (lv_sub hl [2, 3, 4, 5, 6] rfl))
      · exact absurd ((lg_cmp_eq _ _).mpr rfl) c694
  · exact absurd rfl c677
set_option maxHeartbeats 4000000 in
set_option maxRecDepth 100000 in
theorem k_headingOf_b (hF : CallFix p m c cL_law 9 s args wA RL) (hfx : FX l s q q2 o t1 t2 t3 sb L xs) (hce : cells + 20 ≤ 601024 ∧ slots + 150 ≤ 7293034) (hj : 4 * jj + 4 ≤ L) (a : Int32) (hb9 : a < 0 ∨ nI N ≤ a) (hI : RI D cyI cyZ cyL q q2 o N st v mk w th md w2 f s H) (hS : va_S (A9 s) s.heap H locs) (hl : lv_has ls 9 (LC sb q q2 o jj)) (hx1 : xs (4 * jj + 1) = a)
    (KK : KT p l ev s m args below meth c cells slots Q D cyI cyZ cyL q q2 o sb jj) : W p l ev room_1 s m args below meth c H locs cells slots Q (F0 m 646 ls []) := by
  obtain ⟨⟨hs1, hs2, hs3⟩, ⟨hZ, hZM, hTH, hNC⟩, ⟨hXs, hbl, hL⟩, hsT⟩ := hfx
  obtain ⟨⟨hX, hM, hO⟩, hok, hde, hmk⟩ := hI
  have hN := hok.1
  have ho : ¬ own 10 q o := fun h => (hs1 o h).2.2 rfl
  obtain ⟨hx, hb, hml, hown, hts⟩ := id hF
  refine lv_aload_n hx hb dL_law_646 rfl (lv_at hl 1 rfl) ?_
  refine lv_aload_n hx hb dL_law_647 rfl (lv_at hl 0 rfl) ?_
  refine lv_iload hx hb dL_law_648 (lv_at hl 4 rfl) ?_
  refine lv_iconst (v := 1) hx hb dL_law_650 (by decide) ?_
  refine lv_iadd hx hb dL_law_651 ?_
  refine scr hF hXs hbl hL hS (nIadd (4 * jj) 1) (by omega) hx1 dL_law_652 ?_
  refine lv_aload_n hx hb dL_law_653 rfl (lv_at hl 3 rfl) ?_
  refine wSWi (mc := 1) (ms := 6) (X1 := fun (_ : Unit) _ _ => True) (As := [.ref (q 0), .int a, .ref o]) (rest := []) hF (bL_headingOf hsT a hb9) (Wm.and (Wm.and C0.mv.wm TH.wm) NC.mv.wm) (fun _ => Mv.const) ⟨⟨hX, (hTH.kept hS.2.1).narrow (fun _ h => h.elim)⟩, hNC⟩ jyL_headingOf kl_RL_138 ⟨rfl, rfl⟩ ⟨Nat.le_of_ble_eq_true rfl, Nat.le_of_ble_eq_true rfl⟩ rfl hl.1 rfl (Nat.le_of_ble_eq_true rfl) ⟨Nat.le_trans (by omega) hce.1, Nat.le_trans (by omega) hce.2⟩ hS (fun _ _ h => h.elim) (fun _ h => h.elim) dL_law_654 (fun ra ua H locs hp hX9 hz hk hS => ?_)
  have hX := C0.kept hX (fun a ha => hk a (hX.lt ha) (fun h => h))
  have hM := M0.kept hM (fun a ha => hk a (hM.lt ha) (fun h => h))
  have hO := O1.kept hO (hk o hO.lt (fun h => h))
  have hr0 := hp
  rw [hr0]
  refine lv_istore (lv' := [(5, .int 1), (0, .ref sb), (1, .ref (q 0)), (2, .ref (q2 0)), (3, .ref o), (4, .int (nI (4 * jj)))]) hx hb dL_law_657 hl (by decide) rfl (fun ls hl => ?_)
  refine lv_aload_n hx hb dL_law_659 rfl (lv_at hl 3 rfl) ?_
  refine lv_aload_n hx hb dL_law_660 rfl (lv_at hl 1 rfl) ?_
  refine lv_iload hx hb dL_law_661 (lv_at hl 5 rfl) ?_
  refine lv_iconst (v := 1) hx hb dL_law_663 (by decide) ?_
  refine lv_iadd hx hb dL_law_664 ?_
  refine scr hF hXs hbl hL hS (nIadd (4 * jj) 1) (by omega) hx1 dL_law_665 ?_
  refine wVi (mc := 0) (ms := 0) (As := [.int a]) (rest := []) hF (nX1_headingOf a (legB_f hN hb9)) M0.mv (fun _ => M0.mv) hM hM.rc jyX1_headingOf kl_RL_140 ⟨rfl, rfl⟩ ⟨Nat.le_of_ble_eq_true rfl, Nat.le_of_ble_eq_true rfl⟩ rfl hl.1 rfl (Nat.le_of_ble_eq_true rfl) ⟨Nat.le_trans (by omega) hce.1, Nat.le_trans (by omega) hce.2⟩ hS (fun a _ h => (hs2 a h).1) (fun a h => (hs2 a h).1) dL_law_666 (fun rb ub H locs hp hM9 hz hk hS => ?_)
  have hX := C0.kept hX (fun a ha => hk a (hX.lt ha) (hs1 a ha).2.1)
  have hO := O1.kept hO (hk o hO.lt (fun h => (hs2 o h).2 rfl))
  have hM := hM9
  refine lv_istore (lv' := [(6, .int rb), (5, .int 1), (0, .ref sb), (1, .ref (q 0)), (2, .ref (q2 0)), (3, .ref o), (4, .int (nI (4 * jj)))]) hx hb dL_law_669 hl (by decide) rfl (fun ls hl => ?_)
  refine lv_aload_n hx hb dL_law_671 rfl (lv_at hl 4 rfl) ?_
  refine cVi (As := []) (rest := []) hF mX1_thrown M0.mv hM hM.rc jyX1_thrown kl_RL_93 ⟨rfl, rfl⟩ ⟨Nat.le_of_ble_eq_true rfl, Nat.le_of_ble_eq_true rfl⟩ rfl hl.1 rfl (Nat.le_of_ble_eq_true rfl) ⟨Nat.le_trans (by omega) hce.1, Nat.le_trans (by omega) hce.2⟩ dL_law_672 (fun r hr9 => ?_)
  rw [hr9]
  refine lv_iload hx hb dL_law_675 (lv_at hl 1 rfl) ?_
  refine lv_icmp_eq (tgt := 682) hx hb dL_law_677 (by decide) (fun c677 => ?_) (fun c677 => ?_)
  · refine lv_iload hx hb dL_law_682 (lv_at hl 1 rfl) ?_
    refine lv_if_ne (tgt := 699) hx hb dL_law_684 (by decide) (fun c684 => ?_) (fun c684 => ?_)
    · refine lv_goto (tgt := 1666) hx hb dL_law_699 (by decide) ?_
      exact W.widen (by omega) (by omega) (KK N st v mk w 1 md ub f H locs ls ⟨⟨hX, hM, hO⟩, ⟨hok, hde, hmk⟩⟩ hS (lv_sub hl [2, 3, 4, 5, 6] rfl))
    · exact absurd c684 (by decide)
  · exact absurd rfl c677
set_option maxHeartbeats 4000000 in
set_option maxRecDepth 100000 in
theorem k_landmarkOf_g (hF : CallFix p m c cL_law 9 s args wA RL) (hfx : FX l s q q2 o t1 t2 t3 sb L xs) (hce : cells + 20 ≤ 601024 ∧ slots + 150 ≤ 7293034) (hj : 4 * jj + 4 ≤ L) (i : Nat) (hi : i < N) (hI : RI D cyI cyZ cyL q q2 o N st v mk w th md w2 f s H) (hS : va_S (A9 s) s.heap H locs) (hl : lv_has ls 9 (LC sb q q2 o jj)) (hx1 : xs (4 * jj + 1) = (nI i))
    (KK : KT p l ev s m args below meth c cells slots Q D cyI cyZ cyL q q2 o sb jj) : W p l ev room_1 s m args below meth c H locs cells slots Q (F0 m 702 ls []) := by
  obtain ⟨⟨hs1, hs2, hs3⟩, ⟨hZ, hZM, hTH, hNC⟩, ⟨hXs, hbl, hL⟩, hsT⟩ := hfx
  obtain ⟨⟨hX, hM, hO⟩, hok, hde, hmk⟩ := hI
  have hN := hok.1
  have ho : ¬ own 10 q o := fun h => (hs1 o h).2.2 rfl
  obtain ⟨hx, hb, hml, hown, hts⟩ := id hF
  refine lv_aload_n hx hb dL_law_702 rfl (lv_at hl 1 rfl) ?_
  refine lv_aload_n hx hb dL_law_703 rfl (lv_at hl 0 rfl) ?_
  refine lv_iload hx hb dL_law_704 (lv_at hl 4 rfl) ?_
  refine lv_iconst (v := 1) hx hb dL_law_706 (by decide) ?_
  refine lv_iadd hx hb dL_law_707 ?_
  refine scr hF hXs hbl hL hS (nIadd (4 * jj) 1) (by omega) hx1 dL_law_708 ?_
  refine lv_aload_n hx hb dL_law_709 rfl (lv_at hl 3 rfl) ?_
  refine wSWi (mc := 0) (ms := 0) (As := [.ref (q 0), .int (nI i), .ref o]) (rest := []) hF (gL_landmarkOf hok hde i hi) (Wm.and C0.mv.wm O1.mv.wm) (fun _ => O1.mv) ⟨hX, hO⟩ jyL_landmarkOf kl_RL_141 ⟨rfl, rfl⟩ ⟨Nat.le_of_ble_eq_true rfl, Nat.le_of_ble_eq_true rfl⟩ rfl hl.1 rfl (Nat.le_of_ble_eq_true rfl) ⟨Nat.le_trans (by omega) hce.1, Nat.le_trans (by omega) hce.2⟩ hS (fun a _ h => by rw [h]; exact hs3) (fun a h => by rw [h]; exact hs3) dL_law_710 (fun ra ua H locs hp hX9 hz hk hS => ?_)
  have hX := C0.kept hX (fun a ha => hk a (hX.lt ha) (hs1 a ha).2.2)
  have hM := M0.kept hM (fun a ha => hk a (hM.lt ha) (hs2 a ha).2)
  have hO := hX9
  obtain ⟨hr0, hf0⟩ := hp
  rw [hr0]
  refine lv_istore (lv' := [(5, .int 0), (0, .ref sb), (1, .ref (q 0)), (2, .ref (q2 0)), (3, .ref o), (4, .int (nI (4 * jj)))]) hx hb dL_law_713 hl (by decide) rfl (fun ls hl => ?_)
  refine lv_aload_n hx hb dL_law_715 rfl (lv_at hl 3 rfl) ?_
  refine lv_aload_n hx hb dL_law_716 rfl (lv_at hl 1 rfl) ?_
  refine lv_iload hx hb dL_law_717 (lv_at hl 5 rfl) ?_
  refine lv_iconst (v := 1) hx hb dL_law_719 (by decide) ?_
  refine lv_iadd hx hb dL_law_720 ?_
  refine scr hF hXs hbl hL hS (nIadd (4 * jj) 1) (by omega) hx1 dL_law_721 ?_
  refine wVi (mc := 0) (ms := 0) (As := [.int (nI i)]) (rest := []) hF (mX1_landmarkOf hok i hi) M0.mv (fun _ => M0.mv) hM hM.rc jyX1_landmarkOf kl_RL_143 ⟨rfl, rfl⟩ ⟨Nat.le_of_ble_eq_true rfl, Nat.le_of_ble_eq_true rfl⟩ rfl hl.1 rfl (Nat.le_of_ble_eq_true rfl) ⟨Nat.le_trans (by omega) hce.1, Nat.le_trans (by omega) hce.2⟩ hS (fun a _ h => (hs2 a h).1) (fun a h => (hs2 a h).1) dL_law_722 (fun rb ub H locs hp hM9 hz hk hS => ?_)
  have hX := C0.kept hX (fun a ha => hk a (hX.lt ha) (hs1 a ha).2.1)
  have hO := O1.kept hO (hk o hO.lt (fun h => (hs2 o h).2 rfl))
  have hM := hM9
  rw [hp]
  refine lv_istore (lv' := [(6, .int (v 2 i)), (5, .int 0), (0, .ref sb), (1, .ref (q 0)), (2, .ref (q2 0)), (3, .ref o), (4, .int (nI (4 * jj)))]) hx hb dL_law_725 hl (by decide) rfl (fun ls hl => ?_)
  refine lv_aload_n hx hb dL_law_727 rfl (lv_at hl 4 rfl) ?_
  refine cVi (As := []) (rest := []) hF mX1_thrown M0.mv hM hM.rc jyX1_thrown kl_RL_93 ⟨rfl, rfl⟩ ⟨Nat.le_of_ble_eq_true rfl, Nat.le_of_ble_eq_true rfl⟩ rfl hl.1 rfl (Nat.le_of_ble_eq_true rfl) ⟨Nat.le_trans (by omega) hce.1, Nat.le_trans (by omega) hce.2⟩ dL_law_728 (fun r hr9 => ?_)
  rw [hr9]
  refine lv_iload hx hb dL_law_731 (lv_at hl 1 rfl) ?_
  refine lv_icmp_eq (tgt := 738) hx hb dL_law_733 (by decide) (fun c733 => ?_) (fun c733 => ?_)
  · refine lv_iload hx hb dL_law_738 (lv_at hl 1 rfl) ?_
    refine lv_if_ne (tgt := 755) hx hb dL_law_740 (by decide) (fun c740 => ?_) (fun c740 => ?_)
    · exact absurd rfl c740
    · refine lv_aload_n hx hb dL_law_743 rfl (lv_at hl 5 rfl) ?_
      refine lv_iconst (v := 0) hx hb dL_law_744 (by decide) ?_
      refine O1.ld hF hO dL_law_745 ?_
      refine topL hf0 ?_
      refine lv_iload hx hb dL_law_746 (lv_at hl 0 rfl) ?_
      refine lv_i2l hx hb dL_law_748 rfl ?_
      refine W.lcmp hx hb dL_law_749 ?_
      refine lv_if_eq (tgt := 755) hx hb dL_law_750 (by decide) (fun c750 => ?_) (fun c750 => ?_)
      · refine lv_goto (tgt := 1666) hx hb dL_law_755 (by decide) ?_
        exact W.widen (by omega) (by omega) (KK N st v mk w 0 md ub ua H locs ls ⟨⟨hX, hM, hO⟩, ⟨hok, hde, hmk⟩⟩ hS (lv_sub hl [2, 3, 4, 5, 6] rfl))
      · exact absurd ((lg_cmp_eq _ _).mpr rfl) c750
  · exact absurd rfl c733
set_option maxHeartbeats 4000000 in
set_option maxRecDepth 100000 in
theorem k_landmarkOf_b (hF : CallFix p m c cL_law 9 s args wA RL) (hfx : FX l s q q2 o t1 t2 t3 sb L xs) (hce : cells + 20 ≤ 601024 ∧ slots + 150 ≤ 7293034) (hj : 4 * jj + 4 ≤ L) (a : Int32) (hb9 : a < 0 ∨ nI N ≤ a) (hI : RI D cyI cyZ cyL q q2 o N st v mk w th md w2 f s H) (hS : va_S (A9 s) s.heap H locs) (hl : lv_has ls 9 (LC sb q q2 o jj)) (hx1 : xs (4 * jj + 1) = a)
    (KK : KT p l ev s m args below meth c cells slots Q D cyI cyZ cyL q q2 o sb jj) : W p l ev room_1 s m args below meth c H locs cells slots Q (F0 m 702 ls []) := by
  obtain ⟨⟨hs1, hs2, hs3⟩, ⟨hZ, hZM, hTH, hNC⟩, ⟨hXs, hbl, hL⟩, hsT⟩ := hfx
  obtain ⟨⟨hX, hM, hO⟩, hok, hde, hmk⟩ := hI
  have hN := hok.1
  have ho : ¬ own 10 q o := fun h => (hs1 o h).2.2 rfl
  obtain ⟨hx, hb, hml, hown, hts⟩ := id hF
  refine lv_aload_n hx hb dL_law_702 rfl (lv_at hl 1 rfl) ?_
  refine lv_aload_n hx hb dL_law_703 rfl (lv_at hl 0 rfl) ?_
  refine lv_iload hx hb dL_law_704 (lv_at hl 4 rfl) ?_
  refine lv_iconst (v := 1) hx hb dL_law_706 (by decide) ?_
  refine lv_iadd hx hb dL_law_707 ?_
  refine scr hF hXs hbl hL hS (nIadd (4 * jj) 1) (by omega) hx1 dL_law_708 ?_
  refine lv_aload_n hx hb dL_law_709 rfl (lv_at hl 3 rfl) ?_
  refine wSWi (mc := 1) (ms := 6) (X1 := fun (_ : Unit) _ _ => True) (As := [.ref (q 0), .int a, .ref o]) (rest := []) hF (bL_landmarkOf hsT a hb9) (Wm.and (Wm.and C0.mv.wm TH.wm) NC.mv.wm) (fun _ => Mv.const) ⟨⟨hX, (hTH.kept hS.2.1).narrow (fun _ h => h.elim)⟩, hNC⟩ jyL_landmarkOf kl_RL_141 ⟨rfl, rfl⟩ ⟨Nat.le_of_ble_eq_true rfl, Nat.le_of_ble_eq_true rfl⟩ rfl hl.1 rfl (Nat.le_of_ble_eq_true rfl) ⟨Nat.le_trans (by omega) hce.1, Nat.le_trans (by omega) hce.2⟩ hS (fun _ _ h => h.elim) (fun _ h => h.elim) dL_law_710 (fun ra ua H locs hp hX9 hz hk hS => ?_)
  have hX := C0.kept hX (fun a ha => hk a (hX.lt ha) (fun h => h))
  have hM := M0.kept hM (fun a ha => hk a (hM.lt ha) (fun h => h))
  have hO := O1.kept hO (hk o hO.lt (fun h => h))
  have hr0 := hp
  rw [hr0]
  refine lv_istore (lv' := [(5, .int 1), (0, .ref sb), (1, .ref (q 0)), (2, .ref (q2 0)), (3, .ref o), (4, .int (nI (4 * jj)))]) hx hb dL_law_713 hl (by decide) rfl (fun ls hl => ?_)
  refine lv_aload_n hx hb dL_law_715 rfl (lv_at hl 3 rfl) ?_
  refine lv_aload_n hx hb dL_law_716 rfl (lv_at hl 1 rfl) ?_
  refine lv_iload hx hb dL_law_717 (lv_at hl 5 rfl) ?_
  refine lv_iconst (v := 1) hx hb dL_law_719 (by decide) ?_
  refine lv_iadd hx hb dL_law_720 ?_
  refine scr hF hXs hbl hL hS (nIadd (4 * jj) 1) (by omega) hx1 dL_law_721 ?_
  refine wVi (mc := 0) (ms := 0) (As := [.int a]) (rest := []) hF (nX1_landmarkOf a (legB_f hN hb9)) M0.mv (fun _ => M0.mv) hM hM.rc jyX1_landmarkOf kl_RL_143 ⟨rfl, rfl⟩ ⟨Nat.le_of_ble_eq_true rfl, Nat.le_of_ble_eq_true rfl⟩ rfl hl.1 rfl (Nat.le_of_ble_eq_true rfl) ⟨Nat.le_trans (by omega) hce.1, Nat.le_trans (by omega) hce.2⟩ hS (fun a _ h => (hs2 a h).1) (fun a h => (hs2 a h).1) dL_law_722 (fun rb ub H locs hp hM9 hz hk hS => ?_)
  have hX := C0.kept hX (fun a ha => hk a (hX.lt ha) (hs1 a ha).2.1)
  have hO := O1.kept hO (hk o hO.lt (fun h => (hs2 o h).2 rfl))
  have hM := hM9
  refine lv_istore (lv' := [(6, .int rb), (5, .int 1), (0, .ref sb), (1, .ref (q 0)), (2, .ref (q2 0)), (3, .ref o), (4, .int (nI (4 * jj)))]) hx hb dL_law_725 hl (by decide) rfl (fun ls hl => ?_)
  refine lv_aload_n hx hb dL_law_727 rfl (lv_at hl 4 rfl) ?_
  refine cVi (As := []) (rest := []) hF mX1_thrown M0.mv hM hM.rc jyX1_thrown kl_RL_93 ⟨rfl, rfl⟩ ⟨Nat.le_of_ble_eq_true rfl, Nat.le_of_ble_eq_true rfl⟩ rfl hl.1 rfl (Nat.le_of_ble_eq_true rfl) ⟨Nat.le_trans (by omega) hce.1, Nat.le_trans (by omega) hce.2⟩ dL_law_728 (fun r hr9 => ?_)
  rw [hr9]
  refine lv_iload hx hb dL_law_731 (lv_at hl 1 rfl) ?_
  refine lv_icmp_eq (tgt := 738) hx hb dL_law_733 (by decide) (fun c733 => ?_) (fun c733 => ?_)
  · refine lv_iload hx hb dL_law_738 (lv_at hl 1 rfl) ?_
    refine lv_if_ne (tgt := 755) hx hb dL_law_740 (by decide) (fun c740 => ?_) (fun c740 => ?_)
    · refine lv_goto (tgt := 1666) hx hb dL_law_755 (by decide) ?_
      exact W.widen (by omega) (by omega) (KK N st v mk w 1 md ub f H locs ls ⟨⟨hX, hM, hO⟩, ⟨hok, hde, hmk⟩⟩ hS (lv_sub hl [2, 3, 4, 5, 6] rfl))
    · exact absurd c740 (by decide)
  · exact absurd rfl c733
set_option maxHeartbeats 4000000 in
set_option maxRecDepth 100000 in
theorem k_noteOf_g (hF : CallFix p m c cL_law 9 s args wA RL) (hfx : FX l s q q2 o t1 t2 t3 sb L xs) (hce : cells + 20 ≤ 601024 ∧ slots + 150 ≤ 7293034) (hj : 4 * jj + 4 ≤ L) (i : Nat) (hi : i < N) (hI : RI D cyI cyZ cyL q q2 o N st v mk w th md w2 f s H) (hS : va_S (A9 s) s.heap H locs) (hl : lv_has ls 9 (LC sb q q2 o jj)) (hx1 : xs (4 * jj + 1) = (nI i))
    (KK : KT p l ev s m args below meth c cells slots Q D cyI cyZ cyL q q2 o sb jj) : W p l ev room_1 s m args below meth c H locs cells slots Q (F0 m 758 ls []) := by
  obtain ⟨⟨hs1, hs2, hs3⟩, ⟨hZ, hZM, hTH, hNC⟩, ⟨hXs, hbl, hL⟩, hsT⟩ := hfx
  obtain ⟨⟨hX, hM, hO⟩, hok, hde, hmk⟩ := hI
  have hN := hok.1
  have ho : ¬ own 10 q o := fun h => (hs1 o h).2.2 rfl
  obtain ⟨hx, hb, hml, hown, hts⟩ := id hF
  refine lv_aload_n hx hb dL_law_758 rfl (lv_at hl 1 rfl) ?_
  refine lv_aload_n hx hb dL_law_759 rfl (lv_at hl 0 rfl) ?_
  refine lv_iload hx hb dL_law_760 (lv_at hl 4 rfl) ?_
  refine lv_iconst (v := 1) hx hb dL_law_762 (by decide) ?_
  refine lv_iadd hx hb dL_law_763 ?_
  refine scr hF hXs hbl hL hS (nIadd (4 * jj) 1) (by omega) hx1 dL_law_764 ?_
  refine lv_aload_n hx hb dL_law_765 rfl (lv_at hl 3 rfl) ?_
  refine wSWi (mc := 0) (ms := 0) (As := [.ref (q 0), .int (nI i), .ref o]) (rest := []) hF (gL_noteOf hok hde i hi) (Wm.and C0.mv.wm O1.mv.wm) (fun _ => O1.mv) ⟨hX, hO⟩ jyL_noteOf kl_RL_144 ⟨rfl, rfl⟩ ⟨Nat.le_of_ble_eq_true rfl, Nat.le_of_ble_eq_true rfl⟩ rfl hl.1 rfl (Nat.le_of_ble_eq_true rfl) ⟨Nat.le_trans (by omega) hce.1, Nat.le_trans (by omega) hce.2⟩ hS (fun a _ h => by rw [h]; exact hs3) (fun a h => by rw [h]; exact hs3) dL_law_766 (fun ra ua H locs hp hX9 hz hk hS => ?_)
  have hX := C0.kept hX (fun a ha => hk a (hX.lt ha) (hs1 a ha).2.2)
  have hM := M0.kept hM (fun a ha => hk a (hM.lt ha) (hs2 a ha).2)
  have hO := hX9
  obtain ⟨hr0, hf0⟩ := hp
  rw [hr0]
  refine lv_istore (lv' := [(5, .int 0), (0, .ref sb), (1, .ref (q 0)), (2, .ref (q2 0)), (3, .ref o), (4, .int (nI (4 * jj)))]) hx hb dL_law_769 hl (by decide) rfl (fun ls hl => ?_)
  refine lv_aload_n hx hb dL_law_771 rfl (lv_at hl 3 rfl) ?_
  refine lv_aload_n hx hb dL_law_772 rfl (lv_at hl 1 rfl) ?_
  refine lv_iload hx hb dL_law_773 (lv_at hl 5 rfl) ?_
  refine lv_iconst (v := 1) hx hb dL_law_775 (by decide) ?_
  refine lv_iadd hx hb dL_law_776 ?_
  refine scr hF hXs hbl hL hS (nIadd (4 * jj) 1) (by omega) hx1 dL_law_777 ?_
  refine wVi (mc := 0) (ms := 0) (As := [.int (nI i)]) (rest := []) hF (mX1_noteOf hok i hi) M0.mv (fun _ => M0.mv) hM hM.rc jyX1_noteOf kl_RL_146 ⟨rfl, rfl⟩ ⟨Nat.le_of_ble_eq_true rfl, Nat.le_of_ble_eq_true rfl⟩ rfl hl.1 rfl (Nat.le_of_ble_eq_true rfl) ⟨Nat.le_trans (by omega) hce.1, Nat.le_trans (by omega) hce.2⟩ hS (fun a _ h => (hs2 a h).1) (fun a h => (hs2 a h).1) dL_law_778 (fun rb ub H locs hp hM9 hz hk hS => ?_)
  have hX := C0.kept hX (fun a ha => hk a (hX.lt ha) (hs1 a ha).2.1)
  have hO := O1.kept hO (hk o hO.lt (fun h => (hs2 o h).2 rfl))
  have hM := hM9
  rw [hp]
  refine lv_istore (lv' := [(6, .int (nt (v 0) st (i + 1))), (5, .int 0), (0, .ref sb), (1, .ref (q 0)), (2, .ref (q2 0)), (3, .ref o), (4, .int (nI (4 * jj)))]) hx hb dL_law_781 hl (by decide) rfl (fun ls hl => ?_)
  refine lv_aload_n hx hb dL_law_783 rfl (lv_at hl 4 rfl) ?_
  refine cVi (As := []) (rest := []) hF mX1_thrown M0.mv hM hM.rc jyX1_thrown kl_RL_93 ⟨rfl, rfl⟩ ⟨Nat.le_of_ble_eq_true rfl, Nat.le_of_ble_eq_true rfl⟩ rfl hl.1 rfl (Nat.le_of_ble_eq_true rfl) ⟨Nat.le_trans (by omega) hce.1, Nat.le_trans (by omega) hce.2⟩ dL_law_784 (fun r hr9 => ?_)
  rw [hr9]
  refine lv_iload hx hb dL_law_787 (lv_at hl 1 rfl) ?_
  refine lv_icmp_eq (tgt := 794) hx hb dL_law_789 (by decide) (fun c789 => ?_) (fun c789 => ?_)
  · refine lv_iload hx hb dL_law_794 (lv_at hl 1 rfl) ?_
    refine lv_if_ne (tgt := 811) hx hb dL_law_796 (by decide) (fun c796 => ?_) (fun c796 => ?_)
    · exact absurd rfl c796
    · refine lv_aload_n hx hb dL_law_799 rfl (lv_at hl 5 rfl) ?_
      refine lv_iconst (v := 0) hx hb dL_law_800 (by decide) ?_
      refine O1.ld hF hO dL_law_801 ?_
      refine topL hf0 ?_
      refine lv_iload hx hb dL_law_802 (lv_at hl 0 rfl) ?_
      refine lv_i2l hx hb dL_law_804 rfl ?_
      refine W.lcmp hx hb dL_law_805 ?_
      refine lv_if_eq (tgt := 811) hx hb dL_law_806 (by decide) (fun c806 => ?_) (fun c806 => ?_)
      · refine lv_goto (tgt := 1666) hx hb dL_law_811 (by decide) ?_
        exact W.widen (by omega) (by omega) (KK N st v mk w 0 md ub ua H locs ls ⟨⟨hX, hM, hO⟩, ⟨hok, hde, hmk⟩⟩ hS (lv_sub hl [2, 3, 4, 5, 6] rfl))
      · exact absurd ((lg_cmp_eq _ _).mpr rfl) c806
  · exact absurd rfl c789
set_option maxHeartbeats 4000000 in
set_option maxRecDepth 100000 in
theorem k_noteOf_b (hF : CallFix p m c cL_law 9 s args wA RL) (hfx : FX l s q q2 o t1 t2 t3 sb L xs) (hce : cells + 20 ≤ 601024 ∧ slots + 150 ≤ 7293034) (hj : 4 * jj + 4 ≤ L) (a : Int32) (hb9 : a < 0 ∨ nI N ≤ a) (hI : RI D cyI cyZ cyL q q2 o N st v mk w th md w2 f s H) (hS : va_S (A9 s) s.heap H locs) (hl : lv_has ls 9 (LC sb q q2 o jj)) (hx1 : xs (4 * jj + 1) = a)
    (KK : KT p l ev s m args below meth c cells slots Q D cyI cyZ cyL q q2 o sb jj) : W p l ev room_1 s m args below meth c H locs cells slots Q (F0 m 758 ls []) := by
  obtain ⟨⟨hs1, hs2, hs3⟩, ⟨hZ, hZM, hTH, hNC⟩, ⟨hXs, hbl, hL⟩, hsT⟩ := hfx
  obtain ⟨⟨hX, hM, hO⟩, hok, hde, hmk⟩ := hI
  have hN := hok.1
  have ho : ¬ own 10 q o := fun h => (hs1 o h).2.2 rfl
  obtain ⟨hx, hb, hml, hown, hts⟩ := id hF
  refine lv_aload_n hx hb dL_law_758 rfl (lv_at hl 1 rfl) ?_
  refine lv_aload_n hx hb dL_law_759 rfl (lv_at hl 0 rfl) ?_
  refine lv_iload hx hb dL_law_760 (lv_at hl 4 rfl) ?_
  refine lv_iconst (v := 1) hx hb dL_law_762 (by decide) ?_
  refine lv_iadd hx hb dL_law_763 ?_
  refine scr hF hXs hbl hL hS (nIadd (4 * jj) 1) (by omega) hx1 dL_law_764 ?_
  refine lv_aload_n hx hb dL_law_765 rfl (lv_at hl 3 rfl) ?_
  refine wSWi (mc := 1) (ms := 6) (X1 := fun (_ : Unit) _ _ => True) (As := [.ref (q 0), .int a, .ref o]) (rest := []) hF (bL_noteOf hsT a hb9) (Wm.and (Wm.and C0.mv.wm TH.wm) NC.mv.wm) (fun _ => Mv.const) ⟨⟨hX, (hTH.kept hS.2.1).narrow (fun _ h => h.elim)⟩, hNC⟩ jyL_noteOf kl_RL_144 ⟨rfl, rfl⟩ ⟨Nat.le_of_ble_eq_true rfl, Nat.le_of_ble_eq_true rfl⟩ rfl hl.1 rfl (Nat.le_of_ble_eq_true rfl) ⟨Nat.le_trans (by omega) hce.1, Nat.le_trans (by omega) hce.2⟩ hS (fun _ _ h => h.elim) (fun _ h => h.elim) dL_law_766 (fun ra ua H locs hp hX9 hz hk hS => ?_)
  have hX := C0.kept hX (fun a ha => hk a (hX.lt ha) (fun h => h))
  have hM := M0.kept hM (fun a ha => hk a (hM.lt ha) (fun h => h))
  have hO := O1.kept hO (hk o hO.lt (fun h => h))
  have hr0 := hp
  rw [hr0]
  refine lv_istore (lv' := [(5, .int 1), (0, .ref sb), (1, .ref (q 0)), (2, .ref (q2 0)), (3, .ref o), (4, .int (nI (4 * jj)))]) hx hb dL_law_769 hl (by decide) rfl (fun ls hl => ?_)
  refine lv_aload_n hx hb dL_law_771 rfl (lv_at hl 3 rfl) ?_
  refine lv_aload_n hx hb dL_law_772 rfl (lv_at hl 1 rfl) ?_
  refine lv_iload hx hb dL_law_773 (lv_at hl 5 rfl) ?_
  refine lv_iconst (v := 1) hx hb dL_law_775 (by decide) ?_
  refine lv_iadd hx hb dL_law_776 ?_
  refine scr hF hXs hbl hL hS (nIadd (4 * jj) 1) (by omega) hx1 dL_law_777 ?_
  refine wVi (mc := 0) (ms := 0) (As := [.int a]) (rest := []) hF (nX1_noteOf a (legB_f hN hb9)) M0.mv (fun _ => M0.mv) hM hM.rc jyX1_noteOf kl_RL_146 ⟨rfl, rfl⟩ ⟨Nat.le_of_ble_eq_true rfl, Nat.le_of_ble_eq_true rfl⟩ rfl hl.1 rfl (Nat.le_of_ble_eq_true rfl) ⟨Nat.le_trans (by omega) hce.1, Nat.le_trans (by omega) hce.2⟩ hS (fun a _ h => (hs2 a h).1) (fun a h => (hs2 a h).1) dL_law_778 (fun rb ub H locs hp hM9 hz hk hS => ?_)
  have hX := C0.kept hX (fun a ha => hk a (hX.lt ha) (hs1 a ha).2.1)
  have hO := O1.kept hO (hk o hO.lt (fun h => (hs2 o h).2 rfl))
  have hM := hM9
  refine lv_istore (lv' := [(6, .int rb), (5, .int 1), (0, .ref sb), (1, .ref (q 0)), (2, .ref (q2 0)), (3, .ref o), (4, .int (nI (4 * jj)))]) hx hb dL_law_781 hl (by decide) rfl (fun ls hl => ?_)
  refine lv_aload_n hx hb dL_law_783 rfl (lv_at hl 4 rfl) ?_
  refine cVi (As := []) (rest := []) hF mX1_thrown M0.mv hM hM.rc jyX1_thrown kl_RL_93 ⟨rfl, rfl⟩ ⟨Nat.le_of_ble_eq_true rfl, Nat.le_of_ble_eq_true rfl⟩ rfl hl.1 rfl (Nat.le_of_ble_eq_true rfl) ⟨Nat.le_trans (by omega) hce.1, Nat.le_trans (by omega) hce.2⟩ dL_law_784 (fun r hr9 => ?_)
  rw [hr9]
  refine lv_iload hx hb dL_law_787 (lv_at hl 1 rfl) ?_
  refine lv_icmp_eq (tgt := 794) hx hb dL_law_789 (by decide) (fun c789 => ?_) (fun c789 => ?_)
  · refine lv_iload hx hb dL_law_794 (lv_at hl 1 rfl) ?_
    refine lv_if_ne (tgt := 811) hx hb dL_law_796 (by decide) (fun c796 => ?_) (fun c796 => ?_)
    · refine lv_goto (tgt := 1666) hx hb dL_law_811 (by decide) ?_
      exact W.widen (by omega) (by omega) (KK N st v mk w 1 md ub f H locs ls ⟨⟨hX, hM, hO⟩, ⟨hok, hde, hmk⟩⟩ hS (lv_sub hl [2, 3, 4, 5, 6] rfl))
    · exact absurd c796 (by decide)
  · exact absurd rfl c789
set_option maxHeartbeats 4000000 in
set_option maxRecDepth 100000 in
theorem k_isFolded_g (hF : CallFix p m c cL_law 9 s args wA RL) (hfx : FX l s q q2 o t1 t2 t3 sb L xs) (hce : cells + 20 ≤ 601024 ∧ slots + 150 ≤ 7293034) (hj : 4 * jj + 4 ≤ L) (i : Nat) (hi : i < N) (hI : RI D cyI cyZ cyL q q2 o N st v mk w th md w2 f s H) (hS : va_S (A9 s) s.heap H locs) (hl : lv_has ls 9 (LC sb q q2 o jj)) (hx1 : xs (4 * jj + 1) = (nI i))
    (KK : KT p l ev s m args below meth c cells slots Q D cyI cyZ cyL q q2 o sb jj) : W p l ev room_1 s m args below meth c H locs cells slots Q (F0 m 814 ls []) := by
  obtain ⟨⟨hs1, hs2, hs3⟩, ⟨hZ, hZM, hTH, hNC⟩, ⟨hXs, hbl, hL⟩, hsT⟩ := hfx
  obtain ⟨⟨hX, hM, hO⟩, hok, hde, hmk⟩ := hI
  have hN := hok.1
  have ho : ¬ own 10 q o := fun h => (hs1 o h).2.2 rfl
  obtain ⟨hx, hb, hml, hown, hts⟩ := id hF
  refine lv_aload_n hx hb dL_law_814 rfl (lv_at hl 1 rfl) ?_
  refine lv_aload_n hx hb dL_law_815 rfl (lv_at hl 0 rfl) ?_
  refine lv_iload hx hb dL_law_816 (lv_at hl 4 rfl) ?_
  refine lv_iconst (v := 1) hx hb dL_law_818 (by decide) ?_
  refine lv_iadd hx hb dL_law_819 ?_
  refine scr hF hXs hbl hL hS (nIadd (4 * jj) 1) (by omega) hx1 dL_law_820 ?_
  refine lv_aload_n hx hb dL_law_821 rfl (lv_at hl 3 rfl) ?_
  refine wSWi (mc := 0) (ms := 0) (As := [.ref (q 0), .int (nI i), .ref o]) (rest := []) hF (gL_isFolded hok hde i hi) (Wm.and C0.mv.wm O1.mv.wm) (fun _ => O1.mv) ⟨hX, hO⟩ jyL_isFolded kl_RL_147 ⟨rfl, rfl⟩ ⟨Nat.le_of_ble_eq_true rfl, Nat.le_of_ble_eq_true rfl⟩ rfl hl.1 rfl (Nat.le_of_ble_eq_true rfl) ⟨Nat.le_trans (by omega) hce.1, Nat.le_trans (by omega) hce.2⟩ hS (fun a _ h => by rw [h]; exact hs3) (fun a h => by rw [h]; exact hs3) dL_law_822 (fun ra ua H locs hp hX9 hz hk hS => ?_)
  have hX := C0.kept hX (fun a ha => hk a (hX.lt ha) (hs1 a ha).2.2)
  have hM := M0.kept hM (fun a ha => hk a (hM.lt ha) (hs2 a ha).2)
  have hO := hX9
  obtain ⟨hr0, hf0⟩ := hp
  rw [hr0]
  refine lv_istore (lv' := [(5, .int 0), (0, .ref sb), (1, .ref (q 0)), (2, .ref (q2 0)), (3, .ref o), (4, .int (nI (4 * jj)))]) hx hb dL_law_825 hl (by decide) rfl (fun ls hl => ?_)
  refine lv_aload_n hx hb dL_law_827 rfl (lv_at hl 3 rfl) ?_
  refine lv_aload_n hx hb dL_law_828 rfl (lv_at hl 1 rfl) ?_
  refine lv_iload hx hb dL_law_829 (lv_at hl 5 rfl) ?_
  refine lv_iconst (v := 1) hx hb dL_law_831 (by decide) ?_
  refine lv_iadd hx hb dL_law_832 ?_
  refine scr hF hXs hbl hL hS (nIadd (4 * jj) 1) (by omega) hx1 dL_law_833 ?_
  refine wVi (mc := 0) (ms := 0) (As := [.int (nI i)]) (rest := []) hF (mX1_isFolded hok i hi) M0.mv (fun _ => M0.mv) hM hM.rc jyX1_isFolded kl_RL_149 ⟨rfl, rfl⟩ ⟨Nat.le_of_ble_eq_true rfl, Nat.le_of_ble_eq_true rfl⟩ rfl hl.1 rfl (Nat.le_of_ble_eq_true rfl) ⟨Nat.le_trans (by omega) hce.1, Nat.le_trans (by omega) hce.2⟩ hS (fun a _ h => (hs2 a h).1) (fun a h => (hs2 a h).1) dL_law_834 (fun rb ub H locs hp hM9 hz hk hS => ?_)
  have hX := C0.kept hX (fun a ha => hk a (hX.lt ha) (hs1 a ha).2.1)
  have hO := O1.kept hO (hk o hO.lt (fun h => (hs2 o h).2 rfl))
  have hM := hM9
  rw [hp]
  refine lv_istore (lv' := [(6, .int (b2i (fold1 v st i))), (5, .int 0), (0, .ref sb), (1, .ref (q 0)), (2, .ref (q2 0)), (3, .ref o), (4, .int (nI (4 * jj)))]) hx hb dL_law_837 hl (by decide) rfl (fun ls hl => ?_)
  refine lv_aload_n hx hb dL_law_839 rfl (lv_at hl 4 rfl) ?_
  refine cVi (As := []) (rest := []) hF mX1_thrown M0.mv hM hM.rc jyX1_thrown kl_RL_93 ⟨rfl, rfl⟩ ⟨Nat.le_of_ble_eq_true rfl, Nat.le_of_ble_eq_true rfl⟩ rfl hl.1 rfl (Nat.le_of_ble_eq_true rfl) ⟨Nat.le_trans (by omega) hce.1, Nat.le_trans (by omega) hce.2⟩ dL_law_840 (fun r hr9 => ?_)
  rw [hr9]
  refine lv_iload hx hb dL_law_843 (lv_at hl 1 rfl) ?_
  refine lv_icmp_eq (tgt := 850) hx hb dL_law_845 (by decide) (fun c845 => ?_) (fun c845 => ?_)
  · refine lv_iload hx hb dL_law_850 (lv_at hl 1 rfl) ?_
    refine lv_if_ne (tgt := 874) hx hb dL_law_852 (by decide) (fun c852 => ?_) (fun c852 => ?_)
    · exact absurd rfl c852
    · refine lv_aload_n hx hb dL_law_855 rfl (lv_at hl 5 rfl) ?_
      refine lv_iconst (v := 0) hx hb dL_law_856 (by decide) ?_
      refine O1.ld hF hO dL_law_857 ?_
      refine topL hf0 ?_
      refine lv_iload hx hb dL_law_858 (lv_at hl 0 rfl) ?_
      refine lv_if_eq (tgt := 867) hx hb dL_law_860 (by decide) (fun c860 => ?_) (fun c860 => ?_)
      · have c860b := b2i_f c860
        refine lv_lconst (v := 0) hx hb dL_law_867 (by decide) ?_
        refine W.lcmp hx hb dL_law_868 ?_
        refine lv_if_eq (tgt := 874) hx hb dL_law_869 (by decide) (fun c869 => ?_) (fun c869 => ?_)
        · refine lv_goto (tgt := 1666) hx hb dL_law_874 (by decide) ?_
          exact W.widen (by omega) (by omega) (KK N st v mk w 0 md ub ua H locs ls ⟨⟨hX, hM, hO⟩, ⟨hok, hde, hmk⟩⟩ hS (lv_sub hl [2, 3, 4, 5, 6] rfl))
        · exact absurd ((lg_cmp_eq _ _).mpr (by rw [c860b]; decide)) c869
      · have c860b := b2i_t c860
        refine lv_lconst (v := 1) hx hb dL_law_863 (by decide) ?_
        refine lv_goto (tgt := 868) hx hb dL_law_864 (by decide) ?_
        refine W.lcmp hx hb dL_law_868 ?_
        refine lv_if_eq (tgt := 874) hx hb dL_law_869 (by decide) (fun c869 => ?_) (fun c869 => ?_)
        · refine lv_goto (tgt := 1666) hx hb dL_law_874 (by decide) ?_
          exact W.widen (by omega) (by omega) (KK N st v mk w 0 md ub ua H locs ls ⟨⟨hX, hM, hO⟩, ⟨hok, hde, hmk⟩⟩ hS (lv_sub hl [2, 3, 4, 5, 6] rfl))
        · exact absurd ((lg_cmp_eq _ _).mpr (by rw [c860b]; decide)) c869
  · exact absurd rfl c845
set_option maxHeartbeats 4000000 in
set_option maxRecDepth 100000 in
theorem k_isFolded_b (hF : CallFix p m c cL_law 9 s args wA RL) (hfx : FX l s q q2 o t1 t2 t3 sb L xs) (hce : cells + 20 ≤ 601024 ∧ slots + 150 ≤ 7293034) (hj : 4 * jj + 4 ≤ L) (a : Int32) (hb9 : a < 0 ∨ nI N ≤ a) (hI : RI D cyI cyZ cyL q q2 o N st v mk w th md w2 f s H) (hS : va_S (A9 s) s.heap H locs) (hl : lv_has ls 9 (LC sb q q2 o jj)) (hx1 : xs (4 * jj + 1) = a)
    (KK : KT p l ev s m args below meth c cells slots Q D cyI cyZ cyL q q2 o sb jj) : W p l ev room_1 s m args below meth c H locs cells slots Q (F0 m 814 ls []) := by
  obtain ⟨⟨hs1, hs2, hs3⟩, ⟨hZ, hZM, hTH, hNC⟩, ⟨hXs, hbl, hL⟩, hsT⟩ := hfx
  obtain ⟨⟨hX, hM, hO⟩, hok, hde, hmk⟩ := hI
  have hN := hok.1
  have ho : ¬ own 10 q o := fun h => (hs1 o h).2.2 rfl
  obtain ⟨hx, hb, hml, hown, hts⟩ := id hF
  refine lv_aload_n hx hb dL_law_814 rfl (lv_at hl 1 rfl) ?_
  refine lv_aload_n hx hb dL_law_815 rfl (lv_at hl 0 rfl) ?_
  refine lv_iload hx hb dL_law_816 (lv_at hl 4 rfl) ?_
  refine lv_iconst (v := 1) hx hb dL_law_818 (by decide) ?_
  refine lv_iadd hx hb dL_law_819 ?_
  refine scr hF hXs hbl hL hS (nIadd (4 * jj) 1) (by omega) hx1 dL_law_820 ?_
  refine lv_aload_n hx hb dL_law_821 rfl (lv_at hl 3 rfl) ?_
  refine wSWi (mc := 1) (ms := 6) (X1 := fun (_ : Unit) _ _ => True) (As := [.ref (q 0), .int a, .ref o]) (rest := []) hF (bL_isFolded hsT a hb9) (Wm.and (Wm.and C0.mv.wm TH.wm) NC.mv.wm) (fun _ => Mv.const) ⟨⟨hX, (hTH.kept hS.2.1).narrow (fun _ h => h.elim)⟩, hNC⟩ jyL_isFolded kl_RL_147 ⟨rfl, rfl⟩ ⟨Nat.le_of_ble_eq_true rfl, Nat.le_of_ble_eq_true rfl⟩ rfl hl.1 rfl (Nat.le_of_ble_eq_true rfl) ⟨Nat.le_trans (by omega) hce.1, Nat.le_trans (by omega) hce.2⟩ hS (fun _ _ h => h.elim) (fun _ h => h.elim) dL_law_822 (fun ra ua H locs hp hX9 hz hk hS => ?_)
  have hX := C0.kept hX (fun a ha => hk a (hX.lt ha) (fun h => h))
  have hM := M0.kept hM (fun a ha => hk a (hM.lt ha) (fun h => h))
  have hO := O1.kept hO (hk o hO.lt (fun h => h))
  have hr0 := hp
  rw [hr0]
  refine lv_istore (lv' := [(5, .int 1), (0, .ref sb), (1, .ref (q 0)), (2, .ref (q2 0)), (3, .ref o), (4, .int (nI (4 * jj)))]) hx hb dL_law_825 hl (by decide) rfl (fun ls hl => ?_)
  refine lv_aload_n hx hb dL_law_827 rfl (lv_at hl 3 rfl) ?_
  refine lv_aload_n hx hb dL_law_828 rfl (lv_at hl 1 rfl) ?_
  refine lv_iload hx hb dL_law_829 (lv_at hl 5 rfl) ?_
  refine lv_iconst (v := 1) hx hb dL_law_831 (by decide) ?_
  refine lv_iadd hx hb dL_law_832 ?_
  refine scr hF hXs hbl hL hS (nIadd (4 * jj) 1) (by omega) hx1 dL_law_833 ?_
  refine wVi (mc := 0) (ms := 0) (As := [.int a]) (rest := []) hF (nX1_isFolded a (legB_f hN hb9)) M0.mv (fun _ => M0.mv) hM hM.rc jyX1_isFolded kl_RL_149 ⟨rfl, rfl⟩ ⟨Nat.le_of_ble_eq_true rfl, Nat.le_of_ble_eq_true rfl⟩ rfl hl.1 rfl (Nat.le_of_ble_eq_true rfl) ⟨Nat.le_trans (by omega) hce.1, Nat.le_trans (by omega) hce.2⟩ hS (fun a _ h => (hs2 a h).1) (fun a h => (hs2 a h).1) dL_law_834 (fun rb ub H locs hp hM9 hz hk hS => ?_)
  have hX := C0.kept hX (fun a ha => hk a (hX.lt ha) (hs1 a ha).2.1)
  have hO := O1.kept hO (hk o hO.lt (fun h => (hs2 o h).2 rfl))
  have hM := hM9
  refine lv_istore (lv' := [(6, .int rb), (5, .int 1), (0, .ref sb), (1, .ref (q 0)), (2, .ref (q2 0)), (3, .ref o), (4, .int (nI (4 * jj)))]) hx hb dL_law_837 hl (by decide) rfl (fun ls hl => ?_)
  refine lv_aload_n hx hb dL_law_839 rfl (lv_at hl 4 rfl) ?_
  refine cVi (As := []) (rest := []) hF mX1_thrown M0.mv hM hM.rc jyX1_thrown kl_RL_93 ⟨rfl, rfl⟩ ⟨Nat.le_of_ble_eq_true rfl, Nat.le_of_ble_eq_true rfl⟩ rfl hl.1 rfl (Nat.le_of_ble_eq_true rfl) ⟨Nat.le_trans (by omega) hce.1, Nat.le_trans (by omega) hce.2⟩ dL_law_840 (fun r hr9 => ?_)
  rw [hr9]
  refine lv_iload hx hb dL_law_843 (lv_at hl 1 rfl) ?_
  refine lv_icmp_eq (tgt := 850) hx hb dL_law_845 (by decide) (fun c845 => ?_) (fun c845 => ?_)
  · refine lv_iload hx hb dL_law_850 (lv_at hl 1 rfl) ?_
    refine lv_if_ne (tgt := 874) hx hb dL_law_852 (by decide) (fun c852 => ?_) (fun c852 => ?_)
    · refine lv_goto (tgt := 1666) hx hb dL_law_874 (by decide) ?_
      exact W.widen (by omega) (by omega) (KK N st v mk w 1 md ub f H locs ls ⟨⟨hX, hM, hO⟩, ⟨hok, hde, hmk⟩⟩ hS (lv_sub hl [2, 3, 4, 5, 6] rfl))
    · exact absurd c852 (by decide)
  · exact absurd rfl c845
set_option maxHeartbeats 4000000 in
set_option maxRecDepth 100000 in
theorem k_wordIn_g (hF : CallFix p m c cL_law 9 s args wA RL) (hfx : FX l s q q2 o t1 t2 t3 sb L xs) (hce : cells + 20 ≤ 601024 ∧ slots + 150 ≤ 7293034) (hj : 4 * jj + 4 ≤ L) (i : Nat) (hi : i < N) (hI : RI D cyI cyZ cyL q q2 o N st v mk w th md w2 f s H) (hS : va_S (A9 s) s.heap H locs) (hl : lv_has ls 9 (LC sb q q2 o jj)) (hx1 : xs (4 * jj + 1) = (nI i))
    (KK : KT p l ev s m args below meth c cells slots Q D cyI cyZ cyL q q2 o sb jj) : W p l ev room_1 s m args below meth c H locs cells slots Q (F0 m 877 ls []) := by
  obtain ⟨⟨hs1, hs2, hs3⟩, ⟨hZ, hZM, hTH, hNC⟩, ⟨hXs, hbl, hL⟩, hsT⟩ := hfx
  obtain ⟨⟨hX, hM, hO⟩, hok, hde, hmk⟩ := hI
  have hN := hok.1
  have ho : ¬ own 10 q o := fun h => (hs1 o h).2.2 rfl
  obtain ⟨hx, hb, hml, hown, hts⟩ := id hF
  refine lv_aload_n hx hb dL_law_877 rfl (lv_at hl 1 rfl) ?_
  refine lv_aload_n hx hb dL_law_878 rfl (lv_at hl 0 rfl) ?_
  refine lv_iload hx hb dL_law_879 (lv_at hl 4 rfl) ?_
  refine lv_iconst (v := 1) hx hb dL_law_881 (by decide) ?_
  refine lv_iadd hx hb dL_law_882 ?_
  refine scr hF hXs hbl hL hS (nIadd (4 * jj) 1) (by omega) hx1 dL_law_883 ?_
  refine lv_aload_n hx hb dL_law_884 rfl (lv_at hl 3 rfl) ?_
  refine wSWi (mc := 0) (ms := 0) (As := [.ref (q 0), .int (nI i), .ref o]) (rest := []) hF (gL_wordIn hok hde i hi) (Wm.and C0.mv.wm O1.mv.wm) (fun _ => O1.mv) ⟨hX, hO⟩ jyL_wordIn kl_RL_150 ⟨rfl, rfl⟩ ⟨Nat.le_of_ble_eq_true rfl, Nat.le_of_ble_eq_true rfl⟩ rfl hl.1 rfl (Nat.le_of_ble_eq_true rfl) ⟨Nat.le_trans (by omega) hce.1, Nat.le_trans (by omega) hce.2⟩ hS (fun a _ h => by rw [h]; exact hs3) (fun a h => by rw [h]; exact hs3) dL_law_885 (fun ra ua H locs hp hX9 hz hk hS => ?_)
  have hX := C0.kept hX (fun a ha => hk a (hX.lt ha) (hs1 a ha).2.2)
  have hM := M0.kept hM (fun a ha => hk a (hM.lt ha) (hs2 a ha).2)
  have hO := hX9
  obtain ⟨hr0, hf0⟩ := hp
  rw [hr0]
  refine lv_istore (lv' := [(5, .int 0), (0, .ref sb), (1, .ref (q 0)), (2, .ref (q2 0)), (3, .ref o), (4, .int (nI (4 * jj)))]) hx hb dL_law_888 hl (by decide) rfl (fun ls hl => ?_)
  refine lv_aload_n hx hb dL_law_890 rfl (lv_at hl 3 rfl) ?_
  refine lv_aload_n hx hb dL_law_891 rfl (lv_at hl 1 rfl) ?_
  refine lv_iload hx hb dL_law_892 (lv_at hl 5 rfl) ?_
  refine lv_iconst (v := 1) hx hb dL_law_894 (by decide) ?_
  refine lv_iadd hx hb dL_law_895 ?_
  refine scr hF hXs hbl hL hS (nIadd (4 * jj) 1) (by omega) hx1 dL_law_896 ?_
  refine wVi (mc := 0) (ms := 0) (As := [.int (nI i)]) (rest := []) hF (mX1_wordIn hok i hi) M0.mv (fun _ => M0.mv) hM hM.rc jyX1_wordIn kl_RL_152 ⟨rfl, rfl⟩ ⟨Nat.le_of_ble_eq_true rfl, Nat.le_of_ble_eq_true rfl⟩ rfl hl.1 rfl (Nat.le_of_ble_eq_true rfl) ⟨Nat.le_trans (by omega) hce.1, Nat.le_trans (by omega) hce.2⟩ hS (fun a _ h => (hs2 a h).1) (fun a h => (hs2 a h).1) dL_law_897 (fun rb ub H locs hp hM9 hz hk hS => ?_)
  have hX := C0.kept hX (fun a ha => hk a (hX.lt ha) (hs1 a ha).2.1)
  have hO := O1.kept hO (hk o hO.lt (fun h => (hs2 o h).2 rfl))
  have hM := hM9
  rw [hp]
  refine lv_istore (lv' := [(6, .int (wd v i)), (5, .int 0), (0, .ref sb), (1, .ref (q 0)), (2, .ref (q2 0)), (3, .ref o), (4, .int (nI (4 * jj)))]) hx hb dL_law_900 hl (by decide) rfl (fun ls hl => ?_)
  refine lv_aload_n hx hb dL_law_902 rfl (lv_at hl 4 rfl) ?_
  refine cVi (As := []) (rest := []) hF mX1_thrown M0.mv hM hM.rc jyX1_thrown kl_RL_93 ⟨rfl, rfl⟩ ⟨Nat.le_of_ble_eq_true rfl, Nat.le_of_ble_eq_true rfl⟩ rfl hl.1 rfl (Nat.le_of_ble_eq_true rfl) ⟨Nat.le_trans (by omega) hce.1, Nat.le_trans (by omega) hce.2⟩ dL_law_903 (fun r hr9 => ?_)
  rw [hr9]
  refine lv_iload hx hb dL_law_906 (lv_at hl 1 rfl) ?_
  refine lv_icmp_eq (tgt := 913) hx hb dL_law_908 (by decide) (fun c908 => ?_) (fun c908 => ?_)
  · refine lv_iload hx hb dL_law_913 (lv_at hl 1 rfl) ?_
    refine lv_if_ne (tgt := 930) hx hb dL_law_915 (by decide) (fun c915 => ?_) (fun c915 => ?_)
    · exact absurd rfl c915
    · refine lv_aload_n hx hb dL_law_918 rfl (lv_at hl 5 rfl) ?_
      refine lv_iconst (v := 0) hx hb dL_law_919 (by decide) ?_
      refine O1.ld hF hO dL_law_920 ?_
      refine topL hf0 ?_
      refine lv_iload hx hb dL_law_921 (lv_at hl 0 rfl) ?_
      refine lv_i2l hx hb dL_law_923 rfl ?_
      refine W.lcmp hx hb dL_law_924 ?_
      refine lv_if_eq (tgt := 930) hx hb dL_law_925 (by decide) (fun c925 => ?_) (fun c925 => ?_)
      · refine lv_goto (tgt := 1666) hx hb dL_law_930 (by decide) ?_
        exact W.widen (by omega) (by omega) (KK N st v mk w 0 md ub ua H locs ls ⟨⟨hX, hM, hO⟩, ⟨hok, hde, hmk⟩⟩ hS (lv_sub hl [2, 3, 4, 5, 6] rfl))
      · exact absurd ((lg_cmp_eq _ _).mpr rfl) c925
  · exact absurd rfl c908
set_option maxHeartbeats 4000000 in
set_option maxRecDepth 100000 in
theorem k_wordIn_b (hF : CallFix p m c cL_law 9 s args wA RL) (hfx : FX l s q q2 o t1 t2 t3 sb L xs) (hce : cells + 20 ≤ 601024 ∧ slots + 150 ≤ 7293034) (hj : 4 * jj + 4 ≤ L) (a : Int32) (hb9 : a < 0 ∨ nI N ≤ a) (hI : RI D cyI cyZ cyL q q2 o N st v mk w th md w2 f s H) (hS : va_S (A9 s) s.heap H locs) (hl : lv_has ls 9 (LC sb q q2 o jj)) (hx1 : xs (4 * jj + 1) = a)
    (KK : KT p l ev s m args below meth c cells slots Q D cyI cyZ cyL q q2 o sb jj) : W p l ev room_1 s m args below meth c H locs cells slots Q (F0 m 877 ls []) := by
  obtain ⟨⟨hs1, hs2, hs3⟩, ⟨hZ, hZM, hTH, hNC⟩, ⟨hXs, hbl, hL⟩, hsT⟩ := hfx
  obtain ⟨⟨hX, hM, hO⟩, hok, hde, hmk⟩ := hI
  have hN := hok.1
  have ho : ¬ own 10 q o := fun h => (hs1 o h).2.2 rfl
  obtain ⟨hx, hb, hml, hown, hts⟩ := id hF
  refine lv_aload_n hx hb dL_law_877 rfl (lv_at hl 1 rfl) ?_
  refine lv_aload_n hx hb dL_law_878 rfl (lv_at hl 0 rfl) ?_
  refine lv_iload hx hb dL_law_879 (lv_at hl 4 rfl) ?_
  refine lv_iconst (v := 1) hx hb dL_law_881 (by decide) ?_
  refine lv_iadd hx hb dL_law_882 ?_
  refine scr hF hXs hbl hL hS (nIadd (4 * jj) 1) (by omega) hx1 dL_law_883 ?_
  refine lv_aload_n hx hb dL_law_884 rfl (lv_at hl 3 rfl) ?_
  refine wSWi (mc := 1) (ms := 6) (X1 := fun (_ : Unit) _ _ => True) (As := [.ref (q 0), .int a, .ref o]) (rest := []) hF (bL_wordIn hsT a hb9) (Wm.and (Wm.and C0.mv.wm TH.wm) NC.mv.wm) (fun _ => Mv.const) ⟨⟨hX, (hTH.kept hS.2.1).narrow (fun _ h => h.elim)⟩, hNC⟩ jyL_wordIn kl_RL_150 ⟨rfl, rfl⟩ ⟨Nat.le_of_ble_eq_true rfl, Nat.le_of_ble_eq_true rfl⟩ rfl hl.1 rfl (Nat.le_of_ble_eq_true rfl) ⟨Nat.le_trans (by omega) hce.1, Nat.le_trans (by omega) hce.2⟩ hS (fun _ _ h => h.elim) (fun _ h => h.elim) dL_law_885 (fun ra ua H locs hp hX9 hz hk hS => ?_)
  have hX := C0.kept hX (fun a ha => hk a (hX.lt ha) (fun h => h))
  have hM := M0.kept hM (fun a ha => hk a (hM.lt ha) (fun h => h))
  have hO := O1.kept hO (hk o hO.lt (fun h => h))
  have hr0 := hp
  rw [hr0]
  refine lv_istore (lv' := [(5, .int 1), (0, .ref sb), (1, .ref (q 0)), (2, .ref (q2 0)), (3, .ref o), (4, .int (nI (4 * jj)))]) hx hb dL_law_888 hl (by decide) rfl (fun ls hl => ?_)
  refine lv_aload_n hx hb dL_law_890 rfl (lv_at hl 3 rfl) ?_
  refine lv_aload_n hx hb dL_law_891 rfl (lv_at hl 1 rfl) ?_
  refine lv_iload hx hb dL_law_892 (lv_at hl 5 rfl) ?_
  refine lv_iconst (v := 1) hx hb dL_law_894 (by decide) ?_
  refine lv_iadd hx hb dL_law_895 ?_
  refine scr hF hXs hbl hL hS (nIadd (4 * jj) 1) (by omega) hx1 dL_law_896 ?_
  refine wVi (mc := 0) (ms := 0) (As := [.int a]) (rest := []) hF (nX1_wordIn a (legB_f hN hb9)) M0.mv (fun _ => M0.mv) hM hM.rc jyX1_wordIn kl_RL_152 ⟨rfl, rfl⟩ ⟨Nat.le_of_ble_eq_true rfl, Nat.le_of_ble_eq_true rfl⟩ rfl hl.1 rfl (Nat.le_of_ble_eq_true rfl) ⟨Nat.le_trans (by omega) hce.1, Nat.le_trans (by omega) hce.2⟩ hS (fun a _ h => (hs2 a h).1) (fun a h => (hs2 a h).1) dL_law_897 (fun rb ub H locs hp hM9 hz hk hS => ?_)
  have hX := C0.kept hX (fun a ha => hk a (hX.lt ha) (hs1 a ha).2.1)
  have hO := O1.kept hO (hk o hO.lt (fun h => (hs2 o h).2 rfl))
  have hM := hM9
  refine lv_istore (lv' := [(6, .int rb), (5, .int 1), (0, .ref sb), (1, .ref (q 0)), (2, .ref (q2 0)), (3, .ref o), (4, .int (nI (4 * jj)))]) hx hb dL_law_900 hl (by decide) rfl (fun ls hl => ?_)
  refine lv_aload_n hx hb dL_law_902 rfl (lv_at hl 4 rfl) ?_
  refine cVi (As := []) (rest := []) hF mX1_thrown M0.mv hM hM.rc jyX1_thrown kl_RL_93 ⟨rfl, rfl⟩ ⟨Nat.le_of_ble_eq_true rfl, Nat.le_of_ble_eq_true rfl⟩ rfl hl.1 rfl (Nat.le_of_ble_eq_true rfl) ⟨Nat.le_trans (by omega) hce.1, Nat.le_trans (by omega) hce.2⟩ dL_law_903 (fun r hr9 => ?_)
  rw [hr9]
  refine lv_iload hx hb dL_law_906 (lv_at hl 1 rfl) ?_
  refine lv_icmp_eq (tgt := 913) hx hb dL_law_908 (by decide) (fun c908 => ?_) (fun c908 => ?_)
  · refine lv_iload hx hb dL_law_913 (lv_at hl 1 rfl) ?_
    refine lv_if_ne (tgt := 930) hx hb dL_law_915 (by decide) (fun c915 => ?_) (fun c915 => ?_)
    · refine lv_goto (tgt := 1666) hx hb dL_law_930 (by decide) ?_
      exact W.widen (by omega) (by omega) (KK N st v mk w 1 md ub f H locs ls ⟨⟨hX, hM, hO⟩, ⟨hok, hde, hmk⟩⟩ hS (lv_sub hl [2, 3, 4, 5, 6] rfl))
    · exact absurd c915 (by decide)
  · exact absurd rfl c908
set_option maxHeartbeats 4000000 in
set_option maxRecDepth 100000 in
theorem k_readings_g (hF : CallFix p m c cL_law 9 s args wA RL) (hfx : FX l s q q2 o t1 t2 t3 sb L xs) (hce : cells + 20 ≤ 601024 ∧ slots + 150 ≤ 7293034) (hj : 4 * jj + 4 ≤ L) (i : Nat) (hi : i < N) (hI : RI D cyI cyZ cyL q q2 o N st v mk w th md w2 f s H) (hS : va_S (A9 s) s.heap H locs) (hl : lv_has ls 9 (LC sb q q2 o jj)) (hx1 : xs (4 * jj + 1) = (nI i))
    (KK : KT p l ev s m args below meth c cells slots Q D cyI cyZ cyL q q2 o sb jj) : W p l ev room_1 s m args below meth c H locs cells slots Q (F0 m 1084 ls []) := by
  obtain ⟨⟨hs1, hs2, hs3⟩, ⟨hZ, hZM, hTH, hNC⟩, ⟨hXs, hbl, hL⟩, hsT⟩ := hfx
  obtain ⟨⟨hX, hM, hO⟩, hok, hde, hmk⟩ := hI
  have hN := hok.1
  have ho : ¬ own 10 q o := fun h => (hs1 o h).2.2 rfl
  obtain ⟨hx, hb, hml, hown, hts⟩ := id hF
  refine lv_aload_n hx hb dL_law_1084 rfl (lv_at hl 1 rfl) ?_
  refine lv_aload_n hx hb dL_law_1085 rfl (lv_at hl 0 rfl) ?_
  refine lv_iload hx hb dL_law_1086 (lv_at hl 4 rfl) ?_
  refine lv_iconst (v := 1) hx hb dL_law_1088 (by decide) ?_
  refine lv_iadd hx hb dL_law_1089 ?_
  refine scr hF hXs hbl hL hS (nIadd (4 * jj) 1) (by omega) hx1 dL_law_1090 ?_
  refine lv_aload_n hx hb dL_law_1091 rfl (lv_at hl 3 rfl) ?_
  refine wSWi (mc := 0) (ms := 0) (As := [.ref (q 0), .int (nI i), .ref o]) (rest := []) hF (gL_readings hok hde i hi) (Wm.and C0.mv.wm O1.mv.wm) (fun _ => O1.mv) ⟨hX, hO⟩ jyL_readings kl_RL_171 ⟨rfl, rfl⟩ ⟨Nat.le_of_ble_eq_true rfl, Nat.le_of_ble_eq_true rfl⟩ rfl hl.1 rfl (Nat.le_of_ble_eq_true rfl) ⟨Nat.le_trans (by omega) hce.1, Nat.le_trans (by omega) hce.2⟩ hS (fun a _ h => by rw [h]; exact hs3) (fun a h => by rw [h]; exact hs3) dL_law_1092 (fun ra ua H locs hp hX9 hz hk hS => ?_)
  have hX := C0.kept hX (fun a ha => hk a (hX.lt ha) (hs1 a ha).2.2)
  have hM := M0.kept hM (fun a ha => hk a (hM.lt ha) (hs2 a ha).2)
  have hO := hX9
  obtain ⟨hr0, hf0⟩ := hp
  rw [hr0]
  refine lv_istore (lv' := [(5, .int 0), (0, .ref sb), (1, .ref (q 0)), (2, .ref (q2 0)), (3, .ref o), (4, .int (nI (4 * jj)))]) hx hb dL_law_1095 hl (by decide) rfl (fun ls hl => ?_)
  refine lv_aload_n hx hb dL_law_1097 rfl (lv_at hl 3 rfl) ?_
  refine lv_aload_n hx hb dL_law_1098 rfl (lv_at hl 1 rfl) ?_
  refine lv_iload hx hb dL_law_1099 (lv_at hl 5 rfl) ?_
  refine lv_iconst (v := 1) hx hb dL_law_1101 (by decide) ?_
  refine lv_iadd hx hb dL_law_1102 ?_
  refine scr hF hXs hbl hL hS (nIadd (4 * jj) 1) (by omega) hx1 dL_law_1103 ?_
  refine wVi (mc := 0) (ms := 0) (As := [.int (nI i)]) (rest := []) hF (mX1_readings hok i hi) M0.mv (fun _ => M0.mv) hM hM.rc jyX1_readings kl_RL_173 ⟨rfl, rfl⟩ ⟨Nat.le_of_ble_eq_true rfl, Nat.le_of_ble_eq_true rfl⟩ rfl hl.1 rfl (Nat.le_of_ble_eq_true rfl) ⟨Nat.le_trans (by omega) hce.1, Nat.le_trans (by omega) hce.2⟩ hS (fun a _ h => (hs2 a h).1) (fun a h => (hs2 a h).1) dL_law_1104 (fun rb ub H locs hp hM9 hz hk hS => ?_)
  have hX := C0.kept hX (fun a ha => hk a (hX.lt ha) (hs1 a ha).2.1)
  have hO := O1.kept hO (hk o hO.lt (fun h => (hs2 o h).2 rfl))
  have hM := hM9
  rw [hp]
  refine lv_istore (lv' := [(6, .int (rdn v st i)), (5, .int 0), (0, .ref sb), (1, .ref (q 0)), (2, .ref (q2 0)), (3, .ref o), (4, .int (nI (4 * jj)))]) hx hb dL_law_1107 hl (by decide) rfl (fun ls hl => ?_)
  refine lv_aload_n hx hb dL_law_1109 rfl (lv_at hl 4 rfl) ?_
  refine cVi (As := []) (rest := []) hF mX1_thrown M0.mv hM hM.rc jyX1_thrown kl_RL_93 ⟨rfl, rfl⟩ ⟨Nat.le_of_ble_eq_true rfl, Nat.le_of_ble_eq_true rfl⟩ rfl hl.1 rfl (Nat.le_of_ble_eq_true rfl) ⟨Nat.le_trans (by omega) hce.1, Nat.le_trans (by omega) hce.2⟩ dL_law_1110 (fun r hr9 => ?_)
  rw [hr9]
  refine lv_iload hx hb dL_law_1113 (lv_at hl 1 rfl) ?_
  refine lv_icmp_eq (tgt := 1120) hx hb dL_law_1115 (by decide) (fun c1115 => ?_) (fun c1115 => ?_)
  · refine lv_iload hx hb dL_law_1120 (lv_at hl 1 rfl) ?_
    refine lv_if_ne (tgt := 1137) hx hb dL_law_1122 (by decide) (fun c1122 => ?_) (fun c1122 => ?_)
    · exact absurd rfl c1122
    · refine lv_aload_n hx hb dL_law_1125 rfl (lv_at hl 5 rfl) ?_
      refine lv_iconst (v := 0) hx hb dL_law_1126 (by decide) ?_
      refine O1.ld hF hO dL_law_1127 ?_
      refine topL hf0 ?_
      refine lv_iload hx hb dL_law_1128 (lv_at hl 0 rfl) ?_
      refine lv_i2l hx hb dL_law_1130 rfl ?_
      refine W.lcmp hx hb dL_law_1131 ?_
      refine lv_if_eq (tgt := 1137) hx hb dL_law_1132 (by decide) (fun c1132 => ?_) (fun c1132 => ?_)
      · refine lv_goto (tgt := 1666) hx hb dL_law_1137 (by decide) ?_
        exact W.widen (by omega) (by omega) (KK N st v mk w 0 md ub ua H locs ls ⟨⟨hX, hM, hO⟩, ⟨hok, hde, hmk⟩⟩ hS (lv_sub hl [2, 3, 4, 5, 6] rfl))
      · exact absurd ((lg_cmp_eq _ _).mpr rfl) c1132
  · exact absurd rfl c1115
set_option maxHeartbeats 4000000 in
set_option maxRecDepth 100000 in
theorem k_readings_b (hF : CallFix p m c cL_law 9 s args wA RL) (hfx : FX l s q q2 o t1 t2 t3 sb L xs) (hce : cells + 20 ≤ 601024 ∧ slots + 150 ≤ 7293034) (hj : 4 * jj + 4 ≤ L) (a : Int32) (hb9 : a < 0 ∨ nI N ≤ a) (hI : RI D cyI cyZ cyL q q2 o N st v mk w th md w2 f s H) (hS : va_S (A9 s) s.heap H locs) (hl : lv_has ls 9 (LC sb q q2 o jj)) (hx1 : xs (4 * jj + 1) = a)
    (KK : KT p l ev s m args below meth c cells slots Q D cyI cyZ cyL q q2 o sb jj) : W p l ev room_1 s m args below meth c H locs cells slots Q (F0 m 1084 ls []) := by
  obtain ⟨⟨hs1, hs2, hs3⟩, ⟨hZ, hZM, hTH, hNC⟩, ⟨hXs, hbl, hL⟩, hsT⟩ := hfx
  obtain ⟨⟨hX, hM, hO⟩, hok, hde, hmk⟩ := hI
  have hN := hok.1
  have ho : ¬ own 10 q o := fun h => (hs1 o h).2.2 rfl
  obtain ⟨hx, hb, hml, hown, hts⟩ := id hF
  refine lv_aload_n hx hb dL_law_1084 rfl (lv_at hl 1 rfl) ?_
  refine lv_aload_n hx hb dL_law_1085 rfl (lv_at hl 0 rfl) ?_
  refine lv_iload hx hb dL_law_1086 (lv_at hl 4 rfl) ?_
  refine lv_iconst (v := 1) hx hb dL_law_1088 (by decide) ?_
  refine lv_iadd hx hb dL_law_1089 ?_
  refine scr hF hXs hbl hL hS (nIadd (4 * jj) 1) (by omega) hx1 dL_law_1090 ?_
  refine lv_aload_n hx hb dL_law_1091 rfl (lv_at hl 3 rfl) ?_
  refine wSWi (mc := 1) (ms := 6) (X1 := fun (_ : Unit) _ _ => True) (As := [.ref (q 0), .int a, .ref o]) (rest := []) hF (bL_readings hsT a hb9) (Wm.and (Wm.and C0.mv.wm TH.wm) NC.mv.wm) (fun _ => Mv.const) ⟨⟨hX, (hTH.kept hS.2.1).narrow (fun _ h => h.elim)⟩, hNC⟩ jyL_readings kl_RL_171 ⟨rfl, rfl⟩ ⟨Nat.le_of_ble_eq_true rfl, Nat.le_of_ble_eq_true rfl⟩ rfl hl.1 rfl (Nat.le_of_ble_eq_true rfl) ⟨Nat.le_trans (by omega) hce.1, Nat.le_trans (by omega) hce.2⟩ hS (fun _ _ h => h.elim) (fun _ h => h.elim) dL_law_1092 (fun ra ua H locs hp hX9 hz hk hS => ?_)
  have hX := C0.kept hX (fun a ha => hk a (hX.lt ha) (fun h => h))
  have hM := M0.kept hM (fun a ha => hk a (hM.lt ha) (fun h => h))
  have hO := O1.kept hO (hk o hO.lt (fun h => h))
  have hr0 := hp
  rw [hr0]
  refine lv_istore (lv' := [(5, .int 1), (0, .ref sb), (1, .ref (q 0)), (2, .ref (q2 0)), (3, .ref o), (4, .int (nI (4 * jj)))]) hx hb dL_law_1095 hl (by decide) rfl (fun ls hl => ?_)
  refine lv_aload_n hx hb dL_law_1097 rfl (lv_at hl 3 rfl) ?_
  refine lv_aload_n hx hb dL_law_1098 rfl (lv_at hl 1 rfl) ?_
  refine lv_iload hx hb dL_law_1099 (lv_at hl 5 rfl) ?_
  refine lv_iconst (v := 1) hx hb dL_law_1101 (by decide) ?_
  refine lv_iadd hx hb dL_law_1102 ?_
  refine scr hF hXs hbl hL hS (nIadd (4 * jj) 1) (by omega) hx1 dL_law_1103 ?_
  refine wVi (mc := 0) (ms := 0) (As := [.int a]) (rest := []) hF (nX1_readings a (legB_f hN hb9)) M0.mv (fun _ => M0.mv) hM hM.rc jyX1_readings kl_RL_173 ⟨rfl, rfl⟩ ⟨Nat.le_of_ble_eq_true rfl, Nat.le_of_ble_eq_true rfl⟩ rfl hl.1 rfl (Nat.le_of_ble_eq_true rfl) ⟨Nat.le_trans (by omega) hce.1, Nat.le_trans (by omega) hce.2⟩ hS (fun a _ h => (hs2 a h).1) (fun a h => (hs2 a h).1) dL_law_1104 (fun rb ub H locs hp hM9 hz hk hS => ?_)
  have hX := C0.kept hX (fun a ha => hk a (hX.lt ha) (hs1 a ha).2.1)
  have hO := O1.kept hO (hk o hO.lt (fun h => (hs2 o h).2 rfl))
  have hM := hM9
  refine lv_istore (lv' := [(6, .int rb), (5, .int 1), (0, .ref sb), (1, .ref (q 0)), (2, .ref (q2 0)), (3, .ref o), (4, .int (nI (4 * jj)))]) hx hb dL_law_1107 hl (by decide) rfl (fun ls hl => ?_)
  refine lv_aload_n hx hb dL_law_1109 rfl (lv_at hl 4 rfl) ?_
  refine cVi (As := []) (rest := []) hF mX1_thrown M0.mv hM hM.rc jyX1_thrown kl_RL_93 ⟨rfl, rfl⟩ ⟨Nat.le_of_ble_eq_true rfl, Nat.le_of_ble_eq_true rfl⟩ rfl hl.1 rfl (Nat.le_of_ble_eq_true rfl) ⟨Nat.le_trans (by omega) hce.1, Nat.le_trans (by omega) hce.2⟩ dL_law_1110 (fun r hr9 => ?_)
  rw [hr9]
  refine lv_iload hx hb dL_law_1113 (lv_at hl 1 rfl) ?_
  refine lv_icmp_eq (tgt := 1120) hx hb dL_law_1115 (by decide) (fun c1115 => ?_) (fun c1115 => ?_)
  · refine lv_iload hx hb dL_law_1120 (lv_at hl 1 rfl) ?_
    refine lv_if_ne (tgt := 1137) hx hb dL_law_1122 (by decide) (fun c1122 => ?_) (fun c1122 => ?_)
    · refine lv_goto (tgt := 1666) hx hb dL_law_1137 (by decide) ?_
      exact W.widen (by omega) (by omega) (KK N st v mk w 1 md ub f H locs ls ⟨⟨hX, hM, hO⟩, ⟨hok, hde, hmk⟩⟩ hS (lv_sub hl [2, 3, 4, 5, 6] rfl))
    · exact absurd c1122 (by decide)
  · exact absurd rfl c1115
set_option maxHeartbeats 4000000 in
set_option maxRecDepth 100000 in
theorem k_rightReading_g (hF : CallFix p m c cL_law 9 s args wA RL) (hfx : FX l s q q2 o t1 t2 t3 sb L xs) (hce : cells + 20 ≤ 601024 ∧ slots + 150 ≤ 7293034) (hj : 4 * jj + 4 ≤ L) (i : Nat) (hi : i < N) (hI : RI D cyI cyZ cyL q q2 o N st v mk w th md w2 f s H) (hS : va_S (A9 s) s.heap H locs) (hl : lv_has ls 9 (LC sb q q2 o jj)) (hx1 : xs (4 * jj + 1) = (nI i))
    (KK : KT p l ev s m args below meth c cells slots Q D cyI cyZ cyL q q2 o sb jj) : W p l ev room_1 s m args below meth c H locs cells slots Q (F0 m 1140 ls []) := by
  obtain ⟨⟨hs1, hs2, hs3⟩, ⟨hZ, hZM, hTH, hNC⟩, ⟨hXs, hbl, hL⟩, hsT⟩ := hfx
  obtain ⟨⟨hX, hM, hO⟩, hok, hde, hmk⟩ := hI
  have hN := hok.1
  have ho : ¬ own 10 q o := fun h => (hs1 o h).2.2 rfl
  obtain ⟨hx, hb, hml, hown, hts⟩ := id hF
  refine lv_aload_n hx hb dL_law_1140 rfl (lv_at hl 1 rfl) ?_
  refine lv_aload_n hx hb dL_law_1141 rfl (lv_at hl 0 rfl) ?_
  refine lv_iload hx hb dL_law_1142 (lv_at hl 4 rfl) ?_
  refine lv_iconst (v := 1) hx hb dL_law_1144 (by decide) ?_
  refine lv_iadd hx hb dL_law_1145 ?_
  refine scr hF hXs hbl hL hS (nIadd (4 * jj) 1) (by omega) hx1 dL_law_1146 ?_
  refine lv_aload_n hx hb dL_law_1147 rfl (lv_at hl 3 rfl) ?_
  refine wSWi (mc := 0) (ms := 0) (As := [.ref (q 0), .int (nI i), .ref o]) (rest := []) hF (gL_rightReading hok hde i hi) (Wm.and C0.mv.wm O1.mv.wm) (fun _ => O1.mv) ⟨hX, hO⟩ jyL_rightReading kl_RL_174 ⟨rfl, rfl⟩ ⟨Nat.le_of_ble_eq_true rfl, Nat.le_of_ble_eq_true rfl⟩ rfl hl.1 rfl (Nat.le_of_ble_eq_true rfl) ⟨Nat.le_trans (by omega) hce.1, Nat.le_trans (by omega) hce.2⟩ hS (fun a _ h => by rw [h]; exact hs3) (fun a h => by rw [h]; exact hs3) dL_law_1148 (fun ra ua H locs hp hX9 hz hk hS => ?_)
  have hX := C0.kept hX (fun a ha => hk a (hX.lt ha) (hs1 a ha).2.2)
  have hM := M0.kept hM (fun a ha => hk a (hM.lt ha) (hs2 a ha).2)
  have hO := hX9
  obtain ⟨hr0, hf0⟩ := hp
  rw [hr0]
  refine lv_istore (lv' := [(5, .int 0), (0, .ref sb), (1, .ref (q 0)), (2, .ref (q2 0)), (3, .ref o), (4, .int (nI (4 * jj)))]) hx hb dL_law_1151 hl (by decide) rfl (fun ls hl => ?_)
  refine lv_aload_n hx hb dL_law_1153 rfl (lv_at hl 3 rfl) ?_
  refine lv_aload_n hx hb dL_law_1154 rfl (lv_at hl 1 rfl) ?_
  refine lv_iload hx hb dL_law_1155 (lv_at hl 5 rfl) ?_
  refine lv_iconst (v := 1) hx hb dL_law_1157 (by decide) ?_
  refine lv_iadd hx hb dL_law_1158 ?_
  refine scr hF hXs hbl hL hS (nIadd (4 * jj) 1) (by omega) hx1 dL_law_1159 ?_
  refine wVi (mc := 0) (ms := 0) (As := [.int (nI i)]) (rest := []) hF (mX1_rightReading hok i hi) M0.mv (fun _ => M0.mv) hM hM.rc jyX1_rightReading kl_RL_176 ⟨rfl, rfl⟩ ⟨Nat.le_of_ble_eq_true rfl, Nat.le_of_ble_eq_true rfl⟩ rfl hl.1 rfl (Nat.le_of_ble_eq_true rfl) ⟨Nat.le_trans (by omega) hce.1, Nat.le_trans (by omega) hce.2⟩ hS (fun a _ h => (hs2 a h).1) (fun a h => (hs2 a h).1) dL_law_1160 (fun rb ub H locs hp hM9 hz hk hS => ?_)
  have hX := C0.kept hX (fun a ha => hk a (hX.lt ha) (hs1 a ha).2.1)
  have hO := O1.kept hO (hk o hO.lt (fun h => (hs2 o h).2 rfl))
  have hM := hM9
  rw [hp]
  refine lv_istore (lv' := [(6, .int (rrn v st i)), (5, .int 0), (0, .ref sb), (1, .ref (q 0)), (2, .ref (q2 0)), (3, .ref o), (4, .int (nI (4 * jj)))]) hx hb dL_law_1163 hl (by decide) rfl (fun ls hl => ?_)
  refine lv_aload_n hx hb dL_law_1165 rfl (lv_at hl 4 rfl) ?_
  refine cVi (As := []) (rest := []) hF mX1_thrown M0.mv hM hM.rc jyX1_thrown kl_RL_93 ⟨rfl, rfl⟩ ⟨Nat.le_of_ble_eq_true rfl, Nat.le_of_ble_eq_true rfl⟩ rfl hl.1 rfl (Nat.le_of_ble_eq_true rfl) ⟨Nat.le_trans (by omega) hce.1, Nat.le_trans (by omega) hce.2⟩ dL_law_1166 (fun r hr9 => ?_)
  rw [hr9]
  refine lv_iload hx hb dL_law_1169 (lv_at hl 1 rfl) ?_
  refine lv_icmp_eq (tgt := 1176) hx hb dL_law_1171 (by decide) (fun c1171 => ?_) (fun c1171 => ?_)
  · refine lv_iload hx hb dL_law_1176 (lv_at hl 1 rfl) ?_
    refine lv_if_ne (tgt := 1193) hx hb dL_law_1178 (by decide) (fun c1178 => ?_) (fun c1178 => ?_)
    · exact absurd rfl c1178
    · refine lv_aload_n hx hb dL_law_1181 rfl (lv_at hl 5 rfl) ?_
      refine lv_iconst (v := 0) hx hb dL_law_1182 (by decide) ?_
      refine O1.ld hF hO dL_law_1183 ?_
      refine topL hf0 ?_
      refine lv_iload hx hb dL_law_1184 (lv_at hl 0 rfl) ?_
      refine lv_i2l hx hb dL_law_1186 rfl ?_
      refine W.lcmp hx hb dL_law_1187 ?_
      refine lv_if_eq (tgt := 1193) hx hb dL_law_1188 (by decide) (fun c1188 => ?_) (fun c1188 => ?_)
      · refine lv_goto (tgt := 1666) hx hb dL_law_1193 (by decide) ?_
        exact W.widen (by omega) (by omega) (KK N st v mk w 0 md ub ua H locs ls ⟨⟨hX, hM, hO⟩, ⟨hok, hde, hmk⟩⟩ hS (lv_sub hl [2, 3, 4, 5, 6] rfl))
      · exact absurd ((lg_cmp_eq _ _).mpr rfl) c1188
  · exact absurd rfl c1171
set_option maxHeartbeats 4000000 in
set_option maxRecDepth 100000 in
theorem k_rightReading_b (hF : CallFix p m c cL_law 9 s args wA RL) (hfx : FX l s q q2 o t1 t2 t3 sb L xs) (hce : cells + 20 ≤ 601024 ∧ slots + 150 ≤ 7293034) (hj : 4 * jj + 4 ≤ L) (a : Int32) (hb9 : a < 0 ∨ nI N ≤ a) (hI : RI D cyI cyZ cyL q q2 o N st v mk w th md w2 f s H) (hS : va_S (A9 s) s.heap H locs) (hl : lv_has ls 9 (LC sb q q2 o jj)) (hx1 : xs (4 * jj + 1) = a)
    (KK : KT p l ev s m args below meth c cells slots Q D cyI cyZ cyL q q2 o sb jj) : W p l ev room_1 s m args below meth c H locs cells slots Q (F0 m 1140 ls []) := by
  obtain ⟨⟨hs1, hs2, hs3⟩, ⟨hZ, hZM, hTH, hNC⟩, ⟨hXs, hbl, hL⟩, hsT⟩ := hfx
  obtain ⟨⟨hX, hM, hO⟩, hok, hde, hmk⟩ := hI
  have hN := hok.1
  have ho : ¬ own 10 q o := fun h => (hs1 o h).2.2 rfl
  obtain ⟨hx, hb, hml, hown, hts⟩ := id hF
  refine lv_aload_n hx hb dL_law_1140 rfl (lv_at hl 1 rfl) ?_
  refine lv_aload_n hx hb dL_law_1141 rfl (lv_at hl 0 rfl) ?_
  refine lv_iload hx hb dL_law_1142 (lv_at hl 4 rfl) ?_
  refine lv_iconst (v := 1) hx hb dL_law_1144 (by decide) ?_
  refine lv_iadd hx hb dL_law_1145 ?_
  refine scr hF hXs hbl hL hS (nIadd (4 * jj) 1) (by omega) hx1 dL_law_1146 ?_
  refine lv_aload_n hx hb dL_law_1147 rfl (lv_at hl 3 rfl) ?_
  refine wSWi (mc := 1) (ms := 6) (X1 := fun (_ : Unit) _ _ => True) (As := [.ref (q 0), .int a, .ref o]) (rest := []) hF (bL_rightReading hsT a hb9) (Wm.and (Wm.and C0.mv.wm TH.wm) NC.mv.wm) (fun _ => Mv.const) ⟨⟨hX, (hTH.kept hS.2.1).narrow (fun _ h => h.elim)⟩, hNC⟩ jyL_rightReading kl_RL_174 ⟨rfl, rfl⟩ ⟨Nat.le_of_ble_eq_true rfl, Nat.le_of_ble_eq_true rfl⟩ rfl hl.1 rfl (Nat.le_of_ble_eq_true rfl) ⟨Nat.le_trans (by omega) hce.1, Nat.le_trans (by omega) hce.2⟩ hS (fun _ _ h => h.elim) (fun _ h => h.elim) dL_law_1148 (fun ra ua H locs hp hX9 hz hk hS => ?_)
  have hX := C0.kept hX (fun a ha => hk a (hX.lt ha) (fun h => h))
  have hM := M0.kept hM (fun a ha => hk a (hM.lt ha) (fun h => h))
  have hO := O1.kept hO (hk o hO.lt (fun h => h))
  have hr0 := hp
  rw [hr0]
  refine lv_istore (lv' := [(5, .int 1), (0, .ref sb), (1, .ref (q 0)), (2, .ref (q2 0)), (3, .ref o), (4, .int (nI (4 * jj)))]) hx hb dL_law_1151 hl (by decide) rfl (fun ls hl => ?_)
  refine lv_aload_n hx hb dL_law_1153 rfl (lv_at hl 3 rfl) ?_
  refine lv_aload_n hx hb dL_law_1154 rfl (lv_at hl 1 rfl) ?_
  refine lv_iload hx hb dL_law_1155 (lv_at hl 5 rfl) ?_
  refine lv_iconst (v := 1) hx hb dL_law_1157 (by decide) ?_
  refine lv_iadd hx hb dL_law_1158 ?_
  refine scr hF hXs hbl hL hS (nIadd (4 * jj) 1) (by omega) hx1 dL_law_1159 ?_
  refine wVi (mc := 0) (ms := 0) (As := [.int a]) (rest := []) hF (nX1_rightReading a (legB_f hN hb9)) M0.mv (fun _ => M0.mv) hM hM.rc jyX1_rightReading kl_RL_176 ⟨rfl, rfl⟩ ⟨Nat.le_of_ble_eq_true rfl, Nat.le_of_ble_eq_true rfl⟩ rfl hl.1 rfl (Nat.le_of_ble_eq_true rfl) ⟨Nat.le_trans (by omega) hce.1, Nat.le_trans (by omega) hce.2⟩ hS (fun a _ h => (hs2 a h).1) (fun a h => (hs2 a h).1) dL_law_1160 (fun rb ub H locs hp hM9 hz hk hS => ?_)
  have hX := C0.kept hX (fun a ha => hk a (hX.lt ha) (hs1 a ha).2.1)
  have hO := O1.kept hO (hk o hO.lt (fun h => (hs2 o h).2 rfl))
  have hM := hM9
  refine lv_istore (lv' := [(6, .int rb), (5, .int 1), (0, .ref sb), (1, .ref (q 0)), (2, .ref (q2 0)), (3, .ref o), (4, .int (nI (4 * jj)))]) hx hb dL_law_1163 hl (by decide) rfl (fun ls hl => ?_)
  refine lv_aload_n hx hb dL_law_1165 rfl (lv_at hl 4 rfl) ?_
  refine cVi (As := []) (rest := []) hF mX1_thrown M0.mv hM hM.rc jyX1_thrown kl_RL_93 ⟨rfl, rfl⟩ ⟨Nat.le_of_ble_eq_true rfl, Nat.le_of_ble_eq_true rfl⟩ rfl hl.1 rfl (Nat.le_of_ble_eq_true rfl) ⟨Nat.le_trans (by omega) hce.1, Nat.le_trans (by omega) hce.2⟩ dL_law_1166 (fun r hr9 => ?_)
  rw [hr9]
  refine lv_iload hx hb dL_law_1169 (lv_at hl 1 rfl) ?_
  refine lv_icmp_eq (tgt := 1176) hx hb dL_law_1171 (by decide) (fun c1171 => ?_) (fun c1171 => ?_)
  · refine lv_iload hx hb dL_law_1176 (lv_at hl 1 rfl) ?_
    refine lv_if_ne (tgt := 1193) hx hb dL_law_1178 (by decide) (fun c1178 => ?_) (fun c1178 => ?_)
    · refine lv_goto (tgt := 1666) hx hb dL_law_1193 (by decide) ?_
      exact W.widen (by omega) (by omega) (KK N st v mk w 1 md ub f H locs ls ⟨⟨hX, hM, hO⟩, ⟨hok, hde, hmk⟩⟩ hS (lv_sub hl [2, 3, 4, 5, 6] rfl))
    · exact absurd c1178 (by decide)
  · exact absurd rfl c1171
set_option maxHeartbeats 4000000 in
set_option maxRecDepth 100000 in
theorem k_isAmbiguous_g (hF : CallFix p m c cL_law 9 s args wA RL) (hfx : FX l s q q2 o t1 t2 t3 sb L xs) (hce : cells + 20 ≤ 601024 ∧ slots + 150 ≤ 7293034) (hj : 4 * jj + 4 ≤ L) (i : Nat) (hi : i < N) (hI : RI D cyI cyZ cyL q q2 o N st v mk w th md w2 f s H) (hS : va_S (A9 s) s.heap H locs) (hl : lv_has ls 9 (LC sb q q2 o jj)) (hx1 : xs (4 * jj + 1) = (nI i))
    (KK : KT p l ev s m args below meth c cells slots Q D cyI cyZ cyL q q2 o sb jj) : W p l ev room_1 s m args below meth c H locs cells slots Q (F0 m 1196 ls []) := by
  obtain ⟨⟨hs1, hs2, hs3⟩, ⟨hZ, hZM, hTH, hNC⟩, ⟨hXs, hbl, hL⟩, hsT⟩ := hfx
  obtain ⟨⟨hX, hM, hO⟩, hok, hde, hmk⟩ := hI
  have hN := hok.1
  have ho : ¬ own 10 q o := fun h => (hs1 o h).2.2 rfl
  obtain ⟨hx, hb, hml, hown, hts⟩ := id hF
  refine lv_aload_n hx hb dL_law_1196 rfl (lv_at hl 1 rfl) ?_
  refine lv_aload_n hx hb dL_law_1197 rfl (lv_at hl 0 rfl) ?_
  refine lv_iload hx hb dL_law_1198 (lv_at hl 4 rfl) ?_
  refine lv_iconst (v := 1) hx hb dL_law_1200 (by decide) ?_
  refine lv_iadd hx hb dL_law_1201 ?_
  refine scr hF hXs hbl hL hS (nIadd (4 * jj) 1) (by omega) hx1 dL_law_1202 ?_
  refine lv_aload_n hx hb dL_law_1203 rfl (lv_at hl 3 rfl) ?_
  refine wSWi (mc := 0) (ms := 0) (As := [.ref (q 0), .int (nI i), .ref o]) (rest := []) hF (gL_isAmbiguous hok hde i hi) (Wm.and C0.mv.wm O1.mv.wm) (fun _ => O1.mv) ⟨hX, hO⟩ jyL_isAmbiguous kl_RL_177 ⟨rfl, rfl⟩ ⟨Nat.le_of_ble_eq_true rfl, Nat.le_of_ble_eq_true rfl⟩ rfl hl.1 rfl (Nat.le_of_ble_eq_true rfl) ⟨Nat.le_trans (by omega) hce.1, Nat.le_trans (by omega) hce.2⟩ hS (fun a _ h => by rw [h]; exact hs3) (fun a h => by rw [h]; exact hs3) dL_law_1204 (fun ra ua H locs hp hX9 hz hk hS => ?_)
  have hX := C0.kept hX (fun a ha => hk a (hX.lt ha) (hs1 a ha).2.2)
  have hM := M0.kept hM (fun a ha => hk a (hM.lt ha) (hs2 a ha).2)
  have hO := hX9
  obtain ⟨hr0, hf0⟩ := hp
  rw [hr0]
  refine lv_istore (lv' := [(5, .int 0), (0, .ref sb), (1, .ref (q 0)), (2, .ref (q2 0)), (3, .ref o), (4, .int (nI (4 * jj)))]) hx hb dL_law_1207 hl (by decide) rfl (fun ls hl => ?_)
  refine lv_aload_n hx hb dL_law_1209 rfl (lv_at hl 3 rfl) ?_
  refine lv_aload_n hx hb dL_law_1210 rfl (lv_at hl 1 rfl) ?_
  refine lv_iload hx hb dL_law_1211 (lv_at hl 5 rfl) ?_
  refine lv_iconst (v := 1) hx hb dL_law_1213 (by decide) ?_
  refine lv_iadd hx hb dL_law_1214 ?_
  refine scr hF hXs hbl hL hS (nIadd (4 * jj) 1) (by omega) hx1 dL_law_1215 ?_
  refine wVi (mc := 0) (ms := 0) (As := [.int (nI i)]) (rest := []) hF (mX1_isAmbiguous hok hmk i hi) M0.mv (fun _ => M0.mv) hM hM.rc jyX1_isAmbiguous kl_RL_179 ⟨rfl, rfl⟩ ⟨Nat.le_of_ble_eq_true rfl, Nat.le_of_ble_eq_true rfl⟩ rfl hl.1 rfl (Nat.le_of_ble_eq_true rfl) ⟨Nat.le_trans (by omega) hce.1, Nat.le_trans (by omega) hce.2⟩ hS (fun a _ h => (hs2 a h).1) (fun a h => (hs2 a h).1) dL_law_1216 (fun rb ub H locs hp hM9 hz hk hS => ?_)
  have hX := C0.kept hX (fun a ha => hk a (hX.lt ha) (hs1 a ha).2.1)
  have hO := O1.kept hO (hk o hO.lt (fun h => (hs2 o h).2 rfl))
  have hM := hM9
  rw [hp]
  refine lv_istore (lv' := [(6, .int (b2i (amb v st mk i))), (5, .int 0), (0, .ref sb), (1, .ref (q 0)), (2, .ref (q2 0)), (3, .ref o), (4, .int (nI (4 * jj)))]) hx hb dL_law_1219 hl (by decide) rfl (fun ls hl => ?_)
  refine lv_aload_n hx hb dL_law_1221 rfl (lv_at hl 4 rfl) ?_
  refine cVi (As := []) (rest := []) hF mX1_thrown M0.mv hM hM.rc jyX1_thrown kl_RL_93 ⟨rfl, rfl⟩ ⟨Nat.le_of_ble_eq_true rfl, Nat.le_of_ble_eq_true rfl⟩ rfl hl.1 rfl (Nat.le_of_ble_eq_true rfl) ⟨Nat.le_trans (by omega) hce.1, Nat.le_trans (by omega) hce.2⟩ dL_law_1222 (fun r hr9 => ?_)
  rw [hr9]
  refine lv_iload hx hb dL_law_1225 (lv_at hl 1 rfl) ?_
  refine lv_icmp_eq (tgt := 1232) hx hb dL_law_1227 (by decide) (fun c1227 => ?_) (fun c1227 => ?_)
  · refine lv_iload hx hb dL_law_1232 (lv_at hl 1 rfl) ?_
    refine lv_if_ne (tgt := 1256) hx hb dL_law_1234 (by decide) (fun c1234 => ?_) (fun c1234 => ?_)
    · exact absurd rfl c1234
    · refine lv_aload_n hx hb dL_law_1237 rfl (lv_at hl 5 rfl) ?_
      refine lv_iconst (v := 0) hx hb dL_law_1238 (by decide) ?_
      refine O1.ld hF hO dL_law_1239 ?_
      refine topL hf0 ?_
      refine lv_iload hx hb dL_law_1240 (lv_at hl 0 rfl) ?_
      refine lv_if_eq (tgt := 1249) hx hb dL_law_1242 (by decide) (fun c1242 => ?_) (fun c1242 => ?_)
      · have c1242b := b2i_f c1242
        refine lv_lconst (v := 0) hx hb dL_law_1249 (by decide) ?_
        refine W.lcmp hx hb dL_law_1250 ?_
        refine lv_if_eq (tgt := 1256) hx hb dL_law_1251 (by decide) (fun c1251 => ?_) (fun c1251 => ?_)
        · refine lv_goto (tgt := 1666) hx hb dL_law_1256 (by decide) ?_
          exact W.widen (by omega) (by omega) (KK N st v mk w 0 md ub ua H locs ls ⟨⟨hX, hM, hO⟩, ⟨hok, hde, hmk⟩⟩ hS (lv_sub hl [2, 3, 4, 5, 6] rfl))
        · exact absurd ((lg_cmp_eq _ _).mpr (by rw [c1242b]; decide)) c1251
      · have c1242b := b2i_t c1242
        refine lv_lconst (v := 1) hx hb dL_law_1245 (by decide) ?_
        refine lv_goto (tgt := 1250) hx hb dL_law_1246 (by decide) ?_
        refine W.lcmp hx hb dL_law_1250 ?_
        refine lv_if_eq (tgt := 1256) hx hb dL_law_1251 (by decide) (fun c1251 => ?_) (fun c1251 => ?_)
        · refine lv_goto (tgt := 1666) hx hb dL_law_1256 (by decide) ?_
          exact W.widen (by omega) (by omega) (KK N st v mk w 0 md ub ua H locs ls ⟨⟨hX, hM, hO⟩, ⟨hok, hde, hmk⟩⟩ hS (lv_sub hl [2, 3, 4, 5, 6] rfl))
        · exact absurd ((lg_cmp_eq _ _).mpr (by rw [c1242b]; decide)) c1251
  · exact absurd rfl c1227
set_option maxHeartbeats 4000000 in
set_option maxRecDepth 100000 in
theorem k_isAmbiguous_b (hF : CallFix p m c cL_law 9 s args wA RL) (hfx : FX l s q q2 o t1 t2 t3 sb L xs) (hce : cells + 20 ≤ 601024 ∧ slots + 150 ≤ 7293034) (hj : 4 * jj + 4 ≤ L) (a : Int32) (hb9 : a < 0 ∨ nI N ≤ a) (hI : RI D cyI cyZ cyL q q2 o N st v mk w th md w2 f s H) (hS : va_S (A9 s) s.heap H locs) (hl : lv_has ls 9 (LC sb q q2 o jj)) (hx1 : xs (4 * jj + 1) = a)
    (KK : KT p l ev s m args below meth c cells slots Q D cyI cyZ cyL q q2 o sb jj) : W p l ev room_1 s m args below meth c H locs cells slots Q (F0 m 1196 ls []) := by
  obtain ⟨⟨hs1, hs2, hs3⟩, ⟨hZ, hZM, hTH, hNC⟩, ⟨hXs, hbl, hL⟩, hsT⟩ := hfx
  obtain ⟨⟨hX, hM, hO⟩, hok, hde, hmk⟩ := hI
  have hN := hok.1
  have ho : ¬ own 10 q o := fun h => (hs1 o h).2.2 rfl
  obtain ⟨hx, hb, hml, hown, hts⟩ := id hF
  refine lv_aload_n hx hb dL_law_1196 rfl (lv_at hl 1 rfl) ?_
  refine lv_aload_n hx hb dL_law_1197 rfl (lv_at hl 0 rfl) ?_
  refine lv_iload hx hb dL_law_1198 (lv_at hl 4 rfl) ?_
  refine lv_iconst (v := 1) hx hb dL_law_1200 (by decide) ?_
  refine lv_iadd hx hb dL_law_1201 ?_
  refine scr hF hXs hbl hL hS (nIadd (4 * jj) 1) (by omega) hx1 dL_law_1202 ?_
  refine lv_aload_n hx hb dL_law_1203 rfl (lv_at hl 3 rfl) ?_
  refine wSWi (mc := 1) (ms := 6) (X1 := fun (_ : Unit) _ _ => True) (As := [.ref (q 0), .int a, .ref o]) (rest := []) hF (bL_isAmbiguous hsT a hb9) (Wm.and (Wm.and C0.mv.wm TH.wm) NC.mv.wm) (fun _ => Mv.const) ⟨⟨hX, (hTH.kept hS.2.1).narrow (fun _ h => h.elim)⟩, hNC⟩ jyL_isAmbiguous kl_RL_177 ⟨rfl, rfl⟩ ⟨Nat.le_of_ble_eq_true rfl, Nat.le_of_ble_eq_true rfl⟩ rfl hl.1 rfl (Nat.le_of_ble_eq_true rfl) ⟨Nat.le_trans (by omega) hce.1, Nat.le_trans (by omega) hce.2⟩ hS (fun _ _ h => h.elim) (fun _ h => h.elim) dL_law_1204 (fun ra ua H locs hp hX9 hz hk hS => ?_)
  have hX := C0.kept hX (fun a ha => hk a (hX.lt ha) (fun h => h))
  have hM := M0.kept hM (fun a ha => hk a (hM.lt ha) (fun h => h))
  have hO := O1.kept hO (hk o hO.lt (fun h => h))
  have hr0 := hp
  rw [hr0]
  refine lv_istore (lv' := [(5, .int 1), (0, .ref sb), (1, .ref (q 0)), (2, .ref (q2 0)), (3, .ref o), (4, .int (nI (4 * jj)))]) hx hb dL_law_1207 hl (by decide) rfl (fun ls hl => ?_)
  refine lv_aload_n hx hb dL_law_1209 rfl (lv_at hl 3 rfl) ?_
  refine lv_aload_n hx hb dL_law_1210 rfl (lv_at hl 1 rfl) ?_
  refine lv_iload hx hb dL_law_1211 (lv_at hl 5 rfl) ?_
  refine lv_iconst (v := 1) hx hb dL_law_1213 (by decide) ?_
  refine lv_iadd hx hb dL_law_1214 ?_
  refine scr hF hXs hbl hL hS (nIadd (4 * jj) 1) (by omega) hx1 dL_law_1215 ?_
  refine wVi (mc := 0) (ms := 0) (As := [.int a]) (rest := []) hF (nX1_isAmbiguous a (legB_f hN hb9)) M0.mv (fun _ => M0.mv) hM hM.rc jyX1_isAmbiguous kl_RL_179 ⟨rfl, rfl⟩ ⟨Nat.le_of_ble_eq_true rfl, Nat.le_of_ble_eq_true rfl⟩ rfl hl.1 rfl (Nat.le_of_ble_eq_true rfl) ⟨Nat.le_trans (by omega) hce.1, Nat.le_trans (by omega) hce.2⟩ hS (fun a _ h => (hs2 a h).1) (fun a h => (hs2 a h).1) dL_law_1216 (fun rb ub H locs hp hM9 hz hk hS => ?_)
  have hX := C0.kept hX (fun a ha => hk a (hX.lt ha) (hs1 a ha).2.1)
  have hO := O1.kept hO (hk o hO.lt (fun h => (hs2 o h).2 rfl))
  have hM := hM9
  refine lv_istore (lv' := [(6, .int rb), (5, .int 1), (0, .ref sb), (1, .ref (q 0)), (2, .ref (q2 0)), (3, .ref o), (4, .int (nI (4 * jj)))]) hx hb dL_law_1219 hl (by decide) rfl (fun ls hl => ?_)
  refine lv_aload_n hx hb dL_law_1221 rfl (lv_at hl 4 rfl) ?_
  refine cVi (As := []) (rest := []) hF mX1_thrown M0.mv hM hM.rc jyX1_thrown kl_RL_93 ⟨rfl, rfl⟩ ⟨Nat.le_of_ble_eq_true rfl, Nat.le_of_ble_eq_true rfl⟩ rfl hl.1 rfl (Nat.le_of_ble_eq_true rfl) ⟨Nat.le_trans (by omega) hce.1, Nat.le_trans (by omega) hce.2⟩ dL_law_1222 (fun r hr9 => ?_)
  rw [hr9]
  refine lv_iload hx hb dL_law_1225 (lv_at hl 1 rfl) ?_
  refine lv_icmp_eq (tgt := 1232) hx hb dL_law_1227 (by decide) (fun c1227 => ?_) (fun c1227 => ?_)
  · refine lv_iload hx hb dL_law_1232 (lv_at hl 1 rfl) ?_
    refine lv_if_ne (tgt := 1256) hx hb dL_law_1234 (by decide) (fun c1234 => ?_) (fun c1234 => ?_)
    · refine lv_goto (tgt := 1666) hx hb dL_law_1256 (by decide) ?_
      exact W.widen (by omega) (by omega) (KK N st v mk w 1 md ub f H locs ls ⟨⟨hX, hM, hO⟩, ⟨hok, hde, hmk⟩⟩ hS (lv_sub hl [2, 3, 4, 5, 6] rfl))
    · exact absurd c1234 (by decide)
  · exact absurd rfl c1227
set_option maxHeartbeats 4000000 in
set_option maxRecDepth 100000 in
theorem k_isMended_g (hF : CallFix p m c cL_law 9 s args wA RL) (hfx : FX l s q q2 o t1 t2 t3 sb L xs) (hce : cells + 20 ≤ 601024 ∧ slots + 150 ≤ 7293034) (hj : 4 * jj + 4 ≤ L) (i : Nat) (hi : i < N) (hI : RI D cyI cyZ cyL q q2 o N st v mk w th md w2 f s H) (hS : va_S (A9 s) s.heap H locs) (hl : lv_has ls 9 (LC sb q q2 o jj)) (hx1 : xs (4 * jj + 1) = (nI i))
    (KK : KT p l ev s m args below meth c cells slots Q D cyI cyZ cyL q q2 o sb jj) : W p l ev room_1 s m args below meth c H locs cells slots Q (F0 m 1259 ls []) := by
  obtain ⟨⟨hs1, hs2, hs3⟩, ⟨hZ, hZM, hTH, hNC⟩, ⟨hXs, hbl, hL⟩, hsT⟩ := hfx
  obtain ⟨⟨hX, hM, hO⟩, hok, hde, hmk⟩ := hI
  have hN := hok.1
  have ho : ¬ own 10 q o := fun h => (hs1 o h).2.2 rfl
  obtain ⟨hx, hb, hml, hown, hts⟩ := id hF
  refine lv_aload_n hx hb dL_law_1259 rfl (lv_at hl 1 rfl) ?_
  refine lv_aload_n hx hb dL_law_1260 rfl (lv_at hl 0 rfl) ?_
  refine lv_iload hx hb dL_law_1261 (lv_at hl 4 rfl) ?_
  refine lv_iconst (v := 1) hx hb dL_law_1263 (by decide) ?_
  refine lv_iadd hx hb dL_law_1264 ?_
  refine scr hF hXs hbl hL hS (nIadd (4 * jj) 1) (by omega) hx1 dL_law_1265 ?_
  refine lv_aload_n hx hb dL_law_1266 rfl (lv_at hl 3 rfl) ?_
  refine wSWi (mc := 0) (ms := 0) (As := [.ref (q 0), .int (nI i), .ref o]) (rest := []) hF (gL_isMended hok hde i hi) (Wm.and C0.mv.wm O1.mv.wm) (fun _ => O1.mv) ⟨hX, hO⟩ jyL_isMended kl_RL_180 ⟨rfl, rfl⟩ ⟨Nat.le_of_ble_eq_true rfl, Nat.le_of_ble_eq_true rfl⟩ rfl hl.1 rfl (Nat.le_of_ble_eq_true rfl) ⟨Nat.le_trans (by omega) hce.1, Nat.le_trans (by omega) hce.2⟩ hS (fun a _ h => by rw [h]; exact hs3) (fun a h => by rw [h]; exact hs3) dL_law_1267 (fun ra ua H locs hp hX9 hz hk hS => ?_)
  have hX := C0.kept hX (fun a ha => hk a (hX.lt ha) (hs1 a ha).2.2)
  have hM := M0.kept hM (fun a ha => hk a (hM.lt ha) (hs2 a ha).2)
  have hO := hX9
  obtain ⟨hr0, hf0⟩ := hp
  rw [hr0]
  refine lv_istore (lv' := [(5, .int 0), (0, .ref sb), (1, .ref (q 0)), (2, .ref (q2 0)), (3, .ref o), (4, .int (nI (4 * jj)))]) hx hb dL_law_1270 hl (by decide) rfl (fun ls hl => ?_)
  refine lv_aload_n hx hb dL_law_1272 rfl (lv_at hl 3 rfl) ?_
  refine lv_aload_n hx hb dL_law_1273 rfl (lv_at hl 1 rfl) ?_
  refine lv_iload hx hb dL_law_1274 (lv_at hl 5 rfl) ?_
  refine lv_iconst (v := 1) hx hb dL_law_1276 (by decide) ?_
  refine lv_iadd hx hb dL_law_1277 ?_
  refine scr hF hXs hbl hL hS (nIadd (4 * jj) 1) (by omega) hx1 dL_law_1278 ?_
  refine wVi (mc := 0) (ms := 0) (As := [.int (nI i)]) (rest := []) hF (mX1_isMended hok hmk i hi) M0.mv (fun _ => M0.mv) hM hM.rc jyX1_isMended kl_RL_182 ⟨rfl, rfl⟩ ⟨Nat.le_of_ble_eq_true rfl, Nat.le_of_ble_eq_true rfl⟩ rfl hl.1 rfl (Nat.le_of_ble_eq_true rfl) ⟨Nat.le_trans (by omega) hce.1, Nat.le_trans (by omega) hce.2⟩ hS (fun a _ h => (hs2 a h).1) (fun a h => (hs2 a h).1) dL_law_1279 (fun rb ub H locs hp hM9 hz hk hS => ?_)
  have hX := C0.kept hX (fun a ha => hk a (hX.lt ha) (hs1 a ha).2.1)
  have hO := O1.kept hO (hk o hO.lt (fun h => (hs2 o h).2 rfl))
  have hM := hM9
  rw [hp]
  refine lv_istore (lv' := [(6, .int (b2i (mk i))), (5, .int 0), (0, .ref sb), (1, .ref (q 0)), (2, .ref (q2 0)), (3, .ref o), (4, .int (nI (4 * jj)))]) hx hb dL_law_1282 hl (by decide) rfl (fun ls hl => ?_)
  refine lv_aload_n hx hb dL_law_1284 rfl (lv_at hl 4 rfl) ?_
  refine cVi (As := []) (rest := []) hF mX1_thrown M0.mv hM hM.rc jyX1_thrown kl_RL_93 ⟨rfl, rfl⟩ ⟨Nat.le_of_ble_eq_true rfl, Nat.le_of_ble_eq_true rfl⟩ rfl hl.1 rfl (Nat.le_of_ble_eq_true rfl) ⟨Nat.le_trans (by omega) hce.1, Nat.le_trans (by omega) hce.2⟩ dL_law_1285 (fun r hr9 => ?_)
  rw [hr9]
  refine lv_iload hx hb dL_law_1288 (lv_at hl 1 rfl) ?_
  refine lv_icmp_eq (tgt := 1295) hx hb dL_law_1290 (by decide) (fun c1290 => ?_) (fun c1290 => ?_)
  · refine lv_iload hx hb dL_law_1295 (lv_at hl 1 rfl) ?_
    refine lv_if_ne (tgt := 1319) hx hb dL_law_1297 (by decide) (fun c1297 => ?_) (fun c1297 => ?_)
    · exact absurd rfl c1297
    · refine lv_aload_n hx hb dL_law_1300 rfl (lv_at hl 5 rfl) ?_
      refine lv_iconst (v := 0) hx hb dL_law_1301 (by decide) ?_
      refine O1.ld hF hO dL_law_1302 ?_
      refine topL hf0 ?_
      refine lv_iload hx hb dL_law_1303 (lv_at hl 0 rfl) ?_
      refine lv_if_eq (tgt := 1312) hx hb dL_law_1305 (by decide) (fun c1305 => ?_) (fun c1305 => ?_)
      · have c1305b := b2i_f c1305
        refine lv_lconst (v := 0) hx hb dL_law_1312 (by decide) ?_
        refine W.lcmp hx hb dL_law_1313 ?_
        refine lv_if_eq (tgt := 1319) hx hb dL_law_1314 (by decide) (fun c1314 => ?_) (fun c1314 => ?_)
        · refine lv_goto (tgt := 1666) hx hb dL_law_1319 (by decide) ?_
          exact W.widen (by omega) (by omega) (KK N st v mk w 0 md ub ua H locs ls ⟨⟨hX, hM, hO⟩, ⟨hok, hde, hmk⟩⟩ hS (lv_sub hl [2, 3, 4, 5, 6] rfl))
        · exact absurd ((lg_cmp_eq _ _).mpr (by rw [c1305b]; decide)) c1314
      · have c1305b := b2i_t c1305
        refine lv_lconst (v := 1) hx hb dL_law_1308 (by decide) ?_
        refine lv_goto (tgt := 1313) hx hb dL_law_1309 (by decide) ?_
        refine W.lcmp hx hb dL_law_1313 ?_
        refine lv_if_eq (tgt := 1319) hx hb dL_law_1314 (by decide) (fun c1314 => ?_) (fun c1314 => ?_)
        · refine lv_goto (tgt := 1666) hx hb dL_law_1319 (by decide) ?_
          exact W.widen (by omega) (by omega) (KK N st v mk w 0 md ub ua H locs ls ⟨⟨hX, hM, hO⟩, ⟨hok, hde, hmk⟩⟩ hS (lv_sub hl [2, 3, 4, 5, 6] rfl))
        · exact absurd ((lg_cmp_eq _ _).mpr (by rw [c1305b]; decide)) c1314
  · exact absurd rfl c1290
set_option maxHeartbeats 4000000 in
set_option maxRecDepth 100000 in
theorem k_isMended_b (hF : CallFix p m c cL_law 9 s args wA RL) (hfx : FX l s q q2 o t1 t2 t3 sb L xs) (hce : cells + 20 ≤ 601024 ∧ slots + 150 ≤ 7293034) (hj : 4 * jj + 4 ≤ L) (a : Int32) (hb9 : a < 0 ∨ nI N ≤ a) (hI : RI D cyI cyZ cyL q q2 o N st v mk w th md w2 f s H) (hS : va_S (A9 s) s.heap H locs) (hl : lv_has ls 9 (LC sb q q2 o jj)) (hx1 : xs (4 * jj + 1) = a)
    (KK : KT p l ev s m args below meth c cells slots Q D cyI cyZ cyL q q2 o sb jj) : W p l ev room_1 s m args below meth c H locs cells slots Q (F0 m 1259 ls []) := by
  obtain ⟨⟨hs1, hs2, hs3⟩, ⟨hZ, hZM, hTH, hNC⟩, ⟨hXs, hbl, hL⟩, hsT⟩ := hfx
  obtain ⟨⟨hX, hM, hO⟩, hok, hde, hmk⟩ := hI
  have hN := hok.1
  have ho : ¬ own 10 q o := fun h => (hs1 o h).2.2 rfl
  obtain ⟨hx, hb, hml, hown, hts⟩ := id hF
  refine lv_aload_n hx hb dL_law_1259 rfl (lv_at hl 1 rfl) ?_
  refine lv_aload_n hx hb dL_law_1260 rfl (lv_at hl 0 rfl) ?_
  refine lv_iload hx hb dL_law_1261 (lv_at hl 4 rfl) ?_
  refine lv_iconst (v := 1) hx hb dL_law_1263 (by decide) ?_
  refine lv_iadd hx hb dL_law_1264 ?_
  refine scr hF hXs hbl hL hS (nIadd (4 * jj) 1) (by omega) hx1 dL_law_1265 ?_
  refine lv_aload_n hx hb dL_law_1266 rfl (lv_at hl 3 rfl) ?_
  refine wSWi (mc := 1) (ms := 6) (X1 := fun (_ : Unit) _ _ => True) (As := [.ref (q 0), .int a, .ref o]) (rest := []) hF (bL_isMended hsT a hb9) (Wm.and (Wm.and C0.mv.wm TH.wm) NC.mv.wm) (fun _ => Mv.const) ⟨⟨hX, (hTH.kept hS.2.1).narrow (fun _ h => h.elim)⟩, hNC⟩ jyL_isMended kl_RL_180 ⟨rfl, rfl⟩ ⟨Nat.le_of_ble_eq_true rfl, Nat.le_of_ble_eq_true rfl⟩ rfl hl.1 rfl (Nat.le_of_ble_eq_true rfl) ⟨Nat.le_trans (by omega) hce.1, Nat.le_trans (by omega) hce.2⟩ hS (fun _ _ h => h.elim) (fun _ h => h.elim) dL_law_1267 (fun ra ua H locs hp hX9 hz hk hS => ?_)
  have hX := C0.kept hX (fun a ha => hk a (hX.lt ha) (fun h => h))
  have hM := M0.kept hM (fun a ha => hk a (hM.lt ha) (fun h => h))
  have hO := O1.kept hO (hk o hO.lt (fun h => h))
  have hr0 := hp
  rw [hr0]
  refine lv_istore (lv' := [(5, .int 1), (0, .ref sb), (1, .ref (q 0)), (2, .ref (q2 0)), (3, .ref o), (4, .int (nI (4 * jj)))]) hx hb dL_law_1270 hl (by decide) rfl (fun ls hl => ?_)
  refine lv_aload_n hx hb dL_law_1272 rfl (lv_at hl 3 rfl) ?_
  refine lv_aload_n hx hb dL_law_1273 rfl (lv_at hl 1 rfl) ?_
  refine lv_iload hx hb dL_law_1274 (lv_at hl 5 rfl) ?_
  refine lv_iconst (v := 1) hx hb dL_law_1276 (by decide) ?_
  refine lv_iadd hx hb dL_law_1277 ?_
  refine scr hF hXs hbl hL hS (nIadd (4 * jj) 1) (by omega) hx1 dL_law_1278 ?_
  refine wVi (mc := 0) (ms := 0) (As := [.int a]) (rest := []) hF (nX1_isMended a (legB_f hN hb9)) M0.mv (fun _ => M0.mv) hM hM.rc jyX1_isMended kl_RL_182 ⟨rfl, rfl⟩ ⟨Nat.le_of_ble_eq_true rfl, Nat.le_of_ble_eq_true rfl⟩ rfl hl.1 rfl (Nat.le_of_ble_eq_true rfl) ⟨Nat.le_trans (by omega) hce.1, Nat.le_trans (by omega) hce.2⟩ hS (fun a _ h => (hs2 a h).1) (fun a h => (hs2 a h).1) dL_law_1279 (fun rb ub H locs hp hM9 hz hk hS => ?_)
  have hX := C0.kept hX (fun a ha => hk a (hX.lt ha) (hs1 a ha).2.1)
  have hO := O1.kept hO (hk o hO.lt (fun h => (hs2 o h).2 rfl))
  have hM := hM9
  refine lv_istore (lv' := [(6, .int rb), (5, .int 1), (0, .ref sb), (1, .ref (q 0)), (2, .ref (q2 0)), (3, .ref o), (4, .int (nI (4 * jj)))]) hx hb dL_law_1282 hl (by decide) rfl (fun ls hl => ?_)
  refine lv_aload_n hx hb dL_law_1284 rfl (lv_at hl 4 rfl) ?_
  refine cVi (As := []) (rest := []) hF mX1_thrown M0.mv hM hM.rc jyX1_thrown kl_RL_93 ⟨rfl, rfl⟩ ⟨Nat.le_of_ble_eq_true rfl, Nat.le_of_ble_eq_true rfl⟩ rfl hl.1 rfl (Nat.le_of_ble_eq_true rfl) ⟨Nat.le_trans (by omega) hce.1, Nat.le_trans (by omega) hce.2⟩ dL_law_1285 (fun r hr9 => ?_)
  rw [hr9]
  refine lv_iload hx hb dL_law_1288 (lv_at hl 1 rfl) ?_
  refine lv_icmp_eq (tgt := 1295) hx hb dL_law_1290 (by decide) (fun c1290 => ?_) (fun c1290 => ?_)
  · refine lv_iload hx hb dL_law_1295 (lv_at hl 1 rfl) ?_
    refine lv_if_ne (tgt := 1319) hx hb dL_law_1297 (by decide) (fun c1297 => ?_) (fun c1297 => ?_)
    · refine lv_goto (tgt := 1666) hx hb dL_law_1319 (by decide) ?_
      exact W.widen (by omega) (by omega) (KK N st v mk w 1 md ub f H locs ls ⟨⟨hX, hM, hO⟩, ⟨hok, hde, hmk⟩⟩ hS (lv_sub hl [2, 3, 4, 5, 6] rfl))
    · exact absurd c1297 (by decide)
  · exact absurd rfl c1290
set_option maxHeartbeats 4000000 in
set_option maxRecDepth 100000 in
theorem k_wordOf_g (hF : CallFix p m c cL_law 9 s args wA RL) (hfx : FX l s q q2 o t1 t2 t3 sb L xs) (hce : cells + 20 ≤ 601024 ∧ slots + 150 ≤ 7293034) (hj : 4 * jj + 4 ≤ L) (j : Nat) (hj : j < 10) (hI : RI D cyI cyZ cyL q q2 o N st v mk w th md w2 f s H) (hS : va_S (A9 s) s.heap H locs) (hl : lv_has ls 9 (LC sb q q2 o jj)) (hx1 : xs (4 * jj + 1) = (nI j))
    (KK : KT p l ev s m args below meth c cells slots Q D cyI cyZ cyL q q2 o sb jj) : W p l ev room_1 s m args below meth c H locs cells slots Q (F0 m 933 ls []) := by
  obtain ⟨⟨hs1, hs2, hs3⟩, ⟨hZ, hZM, hTH, hNC⟩, ⟨hXs, hbl, hL⟩, hsT⟩ := hfx
  obtain ⟨⟨hX, hM, hO⟩, hok, hde, hmk⟩ := hI
  have hN := hok.1
  have ho : ¬ own 10 q o := fun h => (hs1 o h).2.2 rfl
  obtain ⟨hx, hb, hml, hown, hts⟩ := id hF
  refine lv_aload_n hx hb dL_law_933 rfl (lv_at hl 1 rfl) ?_
  refine lv_aload_n hx hb dL_law_934 rfl (lv_at hl 0 rfl) ?_
  refine lv_iload hx hb dL_law_935 (lv_at hl 4 rfl) ?_
  refine lv_iconst (v := 1) hx hb dL_law_937 (by decide) ?_
  refine lv_iadd hx hb dL_law_938 ?_
  refine scr hF hXs hbl hL hS (nIadd (4 * jj) 1) (by omega) hx1 dL_law_939 ?_
  refine lv_aload_n hx hb dL_law_940 rfl (lv_at hl 3 rfl) ?_
  refine wSWi (mc := 0) (ms := 0) (As := [.ref (q 0), .int (nI j), .ref o]) (rest := []) hF (gL_wordOf j hj) (Wm.and C0.mv.wm O1.mv.wm) (fun _ => O1.mv) ⟨hX, hO⟩ jyL_wordOf kl_RL_153 ⟨rfl, rfl⟩ ⟨Nat.le_of_ble_eq_true rfl, Nat.le_of_ble_eq_true rfl⟩ rfl hl.1 rfl (Nat.le_of_ble_eq_true rfl) ⟨Nat.le_trans (by omega) hce.1, Nat.le_trans (by omega) hce.2⟩ hS (fun a _ h => by rw [h]; exact hs3) (fun a h => by rw [h]; exact hs3) dL_law_941 (fun ra ua H locs hp hX9 hz hk hS => ?_)
  have hX := C0.kept hX (fun a ha => hk a (hX.lt ha) (hs1 a ha).2.2)
  have hM := M0.kept hM (fun a ha => hk a (hM.lt ha) (hs2 a ha).2)
  have hO := hX9
  obtain ⟨hr0, hf0⟩ := hp
  rw [hr0]
  refine lv_istore (lv' := [(5, .int 0), (0, .ref sb), (1, .ref (q 0)), (2, .ref (q2 0)), (3, .ref o), (4, .int (nI (4 * jj)))]) hx hb dL_law_944 hl (by decide) rfl (fun ls hl => ?_)
  refine lv_aload_n hx hb dL_law_946 rfl (lv_at hl 3 rfl) ?_
  refine lv_aload_n hx hb dL_law_947 rfl (lv_at hl 1 rfl) ?_
  refine lv_iload hx hb dL_law_948 (lv_at hl 5 rfl) ?_
  refine lv_iconst (v := 1) hx hb dL_law_950 (by decide) ?_
  refine lv_iadd hx hb dL_law_951 ?_
  refine scr hF hXs hbl hL hS (nIadd (4 * jj) 1) (by omega) hx1 dL_law_952 ?_
  refine wVi (mc := 0) (ms := 0) (As := [.int (nI j)]) (rest := []) hF (mX1_wordOf hok j hj) M0.mv (fun _ => M0.mv) hM hM.rc jyX1_wordOf kl_RL_155 ⟨rfl, rfl⟩ ⟨Nat.le_of_ble_eq_true rfl, Nat.le_of_ble_eq_true rfl⟩ rfl hl.1 rfl (Nat.le_of_ble_eq_true rfl) ⟨Nat.le_trans (by omega) hce.1, Nat.le_trans (by omega) hce.2⟩ hS (fun a _ h => (hs2 a h).1) (fun a h => (hs2 a h).1) dL_law_953 (fun rb ub H locs hp hM9 hz hk hS => ?_)
  have hX := C0.kept hX (fun a ha => hk a (hX.lt ha) (hs1 a ha).2.1)
  have hO := O1.kept hO (hk o hO.lt (fun h => (hs2 o h).2 rfl))
  have hM := hM9
  rw [hp]
  refine lv_istore (lv' := [(6, .int (v 3 j)), (5, .int 0), (0, .ref sb), (1, .ref (q 0)), (2, .ref (q2 0)), (3, .ref o), (4, .int (nI (4 * jj)))]) hx hb dL_law_956 hl (by decide) rfl (fun ls hl => ?_)
  refine lv_aload_n hx hb dL_law_958 rfl (lv_at hl 4 rfl) ?_
  refine cVi (As := []) (rest := []) hF mX1_thrown M0.mv hM hM.rc jyX1_thrown kl_RL_93 ⟨rfl, rfl⟩ ⟨Nat.le_of_ble_eq_true rfl, Nat.le_of_ble_eq_true rfl⟩ rfl hl.1 rfl (Nat.le_of_ble_eq_true rfl) ⟨Nat.le_trans (by omega) hce.1, Nat.le_trans (by omega) hce.2⟩ dL_law_959 (fun r hr9 => ?_)
  rw [hr9]
  refine lv_iload hx hb dL_law_962 (lv_at hl 1 rfl) ?_
  refine lv_icmp_eq (tgt := 969) hx hb dL_law_964 (by decide) (fun c964 => ?_) (fun c964 => ?_)
  · refine lv_iload hx hb dL_law_969 (lv_at hl 1 rfl) ?_
    refine lv_if_ne (tgt := 986) hx hb dL_law_971 (by decide) (fun c971 => ?_) (fun c971 => ?_)
    · exact absurd rfl c971
    · refine lv_aload_n hx hb dL_law_974 rfl (lv_at hl 5 rfl) ?_
      refine lv_iconst (v := 0) hx hb dL_law_975 (by decide) ?_
      refine O1.ld hF hO dL_law_976 ?_
      refine topL hf0 ?_
      refine lv_iload hx hb dL_law_977 (lv_at hl 0 rfl) ?_
      refine lv_i2l hx hb dL_law_979 rfl ?_
      refine W.lcmp hx hb dL_law_980 ?_
      refine lv_if_eq (tgt := 986) hx hb dL_law_981 (by decide) (fun c981 => ?_) (fun c981 => ?_)
      · refine lv_goto (tgt := 1666) hx hb dL_law_986 (by decide) ?_
        exact W.widen (by omega) (by omega) (KK N st v mk w 0 md ub ua H locs ls ⟨⟨hX, hM, hO⟩, ⟨hok, hde, hmk⟩⟩ hS (lv_sub hl [2, 3, 4, 5, 6] rfl))
      · exact absurd ((lg_cmp_eq _ _).mpr rfl) c981
  · exact absurd rfl c964
set_option maxHeartbeats 4000000 in
set_option maxRecDepth 100000 in
theorem k_wordOf_b (hF : CallFix p m c cL_law 9 s args wA RL) (hfx : FX l s q q2 o t1 t2 t3 sb L xs) (hce : cells + 20 ≤ 601024 ∧ slots + 150 ≤ 7293034) (hj : 4 * jj + 4 ≤ L) (a : Int32) (hb9 : in10 a = false) (hI : RI D cyI cyZ cyL q q2 o N st v mk w th md w2 f s H) (hS : va_S (A9 s) s.heap H locs) (hl : lv_has ls 9 (LC sb q q2 o jj)) (hx1 : xs (4 * jj + 1) = a)
    (KK : KT p l ev s m args below meth c cells slots Q D cyI cyZ cyL q q2 o sb jj) : W p l ev room_1 s m args below meth c H locs cells slots Q (F0 m 933 ls []) := by
  obtain ⟨⟨hs1, hs2, hs3⟩, ⟨hZ, hZM, hTH, hNC⟩, ⟨hXs, hbl, hL⟩, hsT⟩ := hfx
  obtain ⟨⟨hX, hM, hO⟩, hok, hde, hmk⟩ := hI
  have hN := hok.1
  have ho : ¬ own 10 q o := fun h => (hs1 o h).2.2 rfl
  obtain ⟨hx, hb, hml, hown, hts⟩ := id hF
  refine lv_aload_n hx hb dL_law_933 rfl (lv_at hl 1 rfl) ?_
  refine lv_aload_n hx hb dL_law_934 rfl (lv_at hl 0 rfl) ?_
  refine lv_iload hx hb dL_law_935 (lv_at hl 4 rfl) ?_
  refine lv_iconst (v := 1) hx hb dL_law_937 (by decide) ?_
  refine lv_iadd hx hb dL_law_938 ?_
  refine scr hF hXs hbl hL hS (nIadd (4 * jj) 1) (by omega) hx1 dL_law_939 ?_
  refine lv_aload_n hx hb dL_law_940 rfl (lv_at hl 3 rfl) ?_
  refine wSWi (mc := 1) (ms := 6) (X1 := fun (_ : Unit) _ _ => True) (As := [.ref (q 0), .int a, .ref o]) (rest := []) hF (bL_wordOf hsT a hb9) (Wm.and (Wm.and C0.mv.wm TH.wm) NC.mv.wm) (fun _ => Mv.const) ⟨⟨hX, (hTH.kept hS.2.1).narrow (fun _ h => h.elim)⟩, hNC⟩ jyL_wordOf kl_RL_153 ⟨rfl, rfl⟩ ⟨Nat.le_of_ble_eq_true rfl, Nat.le_of_ble_eq_true rfl⟩ rfl hl.1 rfl (Nat.le_of_ble_eq_true rfl) ⟨Nat.le_trans (by omega) hce.1, Nat.le_trans (by omega) hce.2⟩ hS (fun _ _ h => h.elim) (fun _ h => h.elim) dL_law_941 (fun ra ua H locs hp hX9 hz hk hS => ?_)
  have hX := C0.kept hX (fun a ha => hk a (hX.lt ha) (fun h => h))
  have hM := M0.kept hM (fun a ha => hk a (hM.lt ha) (fun h => h))
  have hO := O1.kept hO (hk o hO.lt (fun h => h))
  have hr0 := hp
  rw [hr0]
  refine lv_istore (lv' := [(5, .int 1), (0, .ref sb), (1, .ref (q 0)), (2, .ref (q2 0)), (3, .ref o), (4, .int (nI (4 * jj)))]) hx hb dL_law_944 hl (by decide) rfl (fun ls hl => ?_)
  refine lv_aload_n hx hb dL_law_946 rfl (lv_at hl 3 rfl) ?_
  refine lv_aload_n hx hb dL_law_947 rfl (lv_at hl 1 rfl) ?_
  refine lv_iload hx hb dL_law_948 (lv_at hl 5 rfl) ?_
  refine lv_iconst (v := 1) hx hb dL_law_950 (by decide) ?_
  refine lv_iadd hx hb dL_law_951 ?_
  refine scr hF hXs hbl hL hS (nIadd (4 * jj) 1) (by omega) hx1 dL_law_952 ?_
  refine wVi (mc := 0) (ms := 0) (As := [.int a]) (rest := []) hF (nX1_wordOf a (in10_isI hb9)) M0.mv (fun _ => M0.mv) hM hM.rc jyX1_wordOf kl_RL_155 ⟨rfl, rfl⟩ ⟨Nat.le_of_ble_eq_true rfl, Nat.le_of_ble_eq_true rfl⟩ rfl hl.1 rfl (Nat.le_of_ble_eq_true rfl) ⟨Nat.le_trans (by omega) hce.1, Nat.le_trans (by omega) hce.2⟩ hS (fun a _ h => (hs2 a h).1) (fun a h => (hs2 a h).1) dL_law_953 (fun rb ub H locs hp hM9 hz hk hS => ?_)
  have hX := C0.kept hX (fun a ha => hk a (hX.lt ha) (hs1 a ha).2.1)
  have hO := O1.kept hO (hk o hO.lt (fun h => (hs2 o h).2 rfl))
  have hM := hM9
  refine lv_istore (lv' := [(6, .int rb), (5, .int 1), (0, .ref sb), (1, .ref (q 0)), (2, .ref (q2 0)), (3, .ref o), (4, .int (nI (4 * jj)))]) hx hb dL_law_956 hl (by decide) rfl (fun ls hl => ?_)
  refine lv_aload_n hx hb dL_law_958 rfl (lv_at hl 4 rfl) ?_
  refine cVi (As := []) (rest := []) hF mX1_thrown M0.mv hM hM.rc jyX1_thrown kl_RL_93 ⟨rfl, rfl⟩ ⟨Nat.le_of_ble_eq_true rfl, Nat.le_of_ble_eq_true rfl⟩ rfl hl.1 rfl (Nat.le_of_ble_eq_true rfl) ⟨Nat.le_trans (by omega) hce.1, Nat.le_trans (by omega) hce.2⟩ dL_law_959 (fun r hr9 => ?_)
  rw [hr9]
  refine lv_iload hx hb dL_law_962 (lv_at hl 1 rfl) ?_
  refine lv_icmp_eq (tgt := 969) hx hb dL_law_964 (by decide) (fun c964 => ?_) (fun c964 => ?_)
  · refine lv_iload hx hb dL_law_969 (lv_at hl 1 rfl) ?_
    refine lv_if_ne (tgt := 986) hx hb dL_law_971 (by decide) (fun c971 => ?_) (fun c971 => ?_)
    · refine lv_goto (tgt := 1666) hx hb dL_law_986 (by decide) ?_
      exact W.widen (by omega) (by omega) (KK N st v mk w 1 md ub f H locs ls ⟨⟨hX, hM, hO⟩, ⟨hok, hde, hmk⟩⟩ hS (lv_sub hl [2, 3, 4, 5, 6] rfl))
    · exact absurd c971 (by decide)
  · exact absurd rfl c964
set_option maxHeartbeats 4000000 in
set_option maxRecDepth 100000 in
theorem k_bestWord_g (hF : CallFix p m c cL_law 9 s args wA RL) (hfx : FX l s q q2 o t1 t2 t3 sb L xs) (hce : cells + 20 ≤ 601024 ∧ slots + 150 ≤ 7293034) (hj : 4 * jj + 4 ≤ L) (i : Nat) (hi : i < 10) (hI : RI D cyI cyZ cyL q q2 o N st v mk w th md w2 f s H) (hS : va_S (A9 s) s.heap H locs) (hl : lv_has ls 9 (LC sb q q2 o jj)) (hx1 : xs (4 * jj + 1) = (nI i))
    (KK : KT p l ev s m args below meth c cells slots Q D cyI cyZ cyL q q2 o sb jj) : W p l ev room_1 s m args below meth c H locs cells slots Q (F0 m 1542 ls []) := by
  obtain ⟨⟨hs1, hs2, hs3⟩, ⟨hZ, hZM, hTH, hNC⟩, ⟨hXs, hbl, hL⟩, hsT⟩ := hfx
  obtain ⟨⟨hX, hM, hO⟩, hok, hde, hmk⟩ := hI
  have hN := hok.1
  have ho : ¬ own 10 q o := fun h => (hs1 o h).2.2 rfl
  obtain ⟨hx, hb, hml, hown, hts⟩ := id hF
  refine lv_aload_n hx hb dL_law_1542 rfl (lv_at hl 1 rfl) ?_
  refine lv_aload_n hx hb dL_law_1543 rfl (lv_at hl 0 rfl) ?_
  refine lv_iload hx hb dL_law_1544 (lv_at hl 4 rfl) ?_
  refine lv_iconst (v := 1) hx hb dL_law_1546 (by decide) ?_
  refine lv_iadd hx hb dL_law_1547 ?_
  refine scr hF hXs hbl hL hS (nIadd (4 * jj) 1) (by omega) hx1 dL_law_1548 ?_
  refine lv_aload_n hx hb dL_law_1549 rfl (lv_at hl 3 rfl) ?_
  refine wSWi (mc := 0) (ms := 0) (As := [.ref (q 0), .int (nI i), .ref o]) (rest := []) hF (gL_bestWord hok i hi) (Wm.and C0.mv.wm O1.mv.wm) (fun _ => O1.mv) ⟨hX, hO⟩ jyL_bestWord kl_RL_205 ⟨rfl, rfl⟩ ⟨Nat.le_of_ble_eq_true rfl, Nat.le_of_ble_eq_true rfl⟩ rfl hl.1 rfl (Nat.le_of_ble_eq_true rfl) ⟨Nat.le_trans (by omega) hce.1, Nat.le_trans (by omega) hce.2⟩ hS (fun a _ h => by rw [h]; exact hs3) (fun a h => by rw [h]; exact hs3) dL_law_1550 (fun ra ua H locs hp hX9 hz hk hS => ?_)
  have hX := C0.kept hX (fun a ha => hk a (hX.lt ha) (hs1 a ha).2.2)
  have hM := M0.kept hM (fun a ha => hk a (hM.lt ha) (hs2 a ha).2)
  have hO := hX9
  obtain ⟨hr0, hf0⟩ := hp
  rw [hr0]
  refine lv_istore (lv' := [(5, .int 0), (0, .ref sb), (1, .ref (q 0)), (2, .ref (q2 0)), (3, .ref o), (4, .int (nI (4 * jj)))]) hx hb dL_law_1553 hl (by decide) rfl (fun ls hl => ?_)
  refine lv_aload_n hx hb dL_law_1555 rfl (lv_at hl 3 rfl) ?_
  refine lv_aload_n hx hb dL_law_1556 rfl (lv_at hl 1 rfl) ?_
  refine lv_iload hx hb dL_law_1557 (lv_at hl 5 rfl) ?_
  refine lv_iconst (v := 1) hx hb dL_law_1559 (by decide) ?_
  refine lv_iadd hx hb dL_law_1560 ?_
  refine scr hF hXs hbl hL hS (nIadd (4 * jj) 1) (by omega) hx1 dL_law_1561 ?_
  refine wVi (mc := 0) (ms := 0) (As := [.int (nI i)]) (rest := []) hF (mX1_bestWord hok i hi) M0.mv (fun _ => M0.mv) hM hM.rc jyX1_bestWord kl_RL_207 ⟨rfl, rfl⟩ ⟨Nat.le_of_ble_eq_true rfl, Nat.le_of_ble_eq_true rfl⟩ rfl hl.1 rfl (Nat.le_of_ble_eq_true rfl) ⟨Nat.le_trans (by omega) hce.1, Nat.le_trans (by omega) hce.2⟩ hS (fun a _ h => (hs2 a h).1) (fun a h => (hs2 a h).1) dL_law_1562 (fun rb ub H locs hp hM9 hz hk hS => ?_)
  have hX := C0.kept hX (fun a ha => hk a (hX.lt ha) (hs1 a ha).2.1)
  have hO := O1.kept hO (hk o hO.lt (fun h => (hs2 o h).2 rfl))
  have hM := hM9
  rw [hp]
  refine lv_istore (lv' := [(6, .int (nI (bwd v st N i))), (5, .int 0), (0, .ref sb), (1, .ref (q 0)), (2, .ref (q2 0)), (3, .ref o), (4, .int (nI (4 * jj)))]) hx hb dL_law_1565 hl (by decide) rfl (fun ls hl => ?_)
  refine lv_aload_n hx hb dL_law_1567 rfl (lv_at hl 4 rfl) ?_
  refine cVi (As := []) (rest := []) hF mX1_thrown M0.mv hM hM.rc jyX1_thrown kl_RL_93 ⟨rfl, rfl⟩ ⟨Nat.le_of_ble_eq_true rfl, Nat.le_of_ble_eq_true rfl⟩ rfl hl.1 rfl (Nat.le_of_ble_eq_true rfl) ⟨Nat.le_trans (by omega) hce.1, Nat.le_trans (by omega) hce.2⟩ dL_law_1568 (fun r hr9 => ?_)
  rw [hr9]
  refine lv_iload hx hb dL_law_1571 (lv_at hl 1 rfl) ?_
  refine lv_icmp_eq (tgt := 1578) hx hb dL_law_1573 (by decide) (fun c1573 => ?_) (fun c1573 => ?_)
  · refine lv_iload hx hb dL_law_1578 (lv_at hl 1 rfl) ?_
    refine lv_if_ne (tgt := 1595) hx hb dL_law_1580 (by decide) (fun c1580 => ?_) (fun c1580 => ?_)
    · exact absurd rfl c1580
    · refine lv_aload_n hx hb dL_law_1583 rfl (lv_at hl 5 rfl) ?_
      refine lv_iconst (v := 0) hx hb dL_law_1584 (by decide) ?_
      refine O1.ld hF hO dL_law_1585 ?_
      refine topL hf0 ?_
      refine lv_iload hx hb dL_law_1586 (lv_at hl 0 rfl) ?_
      refine lv_i2l hx hb dL_law_1588 rfl ?_
      refine W.lcmp hx hb dL_law_1589 ?_
      refine lv_if_eq (tgt := 1595) hx hb dL_law_1590 (by decide) (fun c1590 => ?_) (fun c1590 => ?_)
      · refine lv_goto (tgt := 1666) hx hb dL_law_1595 (by decide) ?_
        exact W.widen (by omega) (by omega) (KK N st v mk w 0 md ub ua H locs ls ⟨⟨hX, hM, hO⟩, ⟨hok, hde, hmk⟩⟩ hS (lv_sub hl [2, 3, 4, 5, 6] rfl))
      · exact absurd ((lg_cmp_eq _ _).mpr rfl) c1590
  · exact absurd rfl c1573
set_option maxHeartbeats 4000000 in
set_option maxRecDepth 100000 in
theorem k_bestWord_b (hF : CallFix p m c cL_law 9 s args wA RL) (hfx : FX l s q q2 o t1 t2 t3 sb L xs) (hce : cells + 20 ≤ 601024 ∧ slots + 150 ≤ 7293034) (hj : 4 * jj + 4 ≤ L) (a : Int32) (hb9 : in10 a = false) (hI : RI D cyI cyZ cyL q q2 o N st v mk w th md w2 f s H) (hS : va_S (A9 s) s.heap H locs) (hl : lv_has ls 9 (LC sb q q2 o jj)) (hx1 : xs (4 * jj + 1) = a)
    (KK : KT p l ev s m args below meth c cells slots Q D cyI cyZ cyL q q2 o sb jj) : W p l ev room_1 s m args below meth c H locs cells slots Q (F0 m 1542 ls []) := by
  obtain ⟨⟨hs1, hs2, hs3⟩, ⟨hZ, hZM, hTH, hNC⟩, ⟨hXs, hbl, hL⟩, hsT⟩ := hfx
  obtain ⟨⟨hX, hM, hO⟩, hok, hde, hmk⟩ := hI
  have hN := hok.1
  have ho : ¬ own 10 q o := fun h => (hs1 o h).2.2 rfl
  obtain ⟨hx, hb, hml, hown, hts⟩ := id hF
  refine lv_aload_n hx hb dL_law_1542 rfl (lv_at hl 1 rfl) ?_
  refine lv_aload_n hx hb dL_law_1543 rfl (lv_at hl 0 rfl) ?_
  refine lv_iload hx hb dL_law_1544 (lv_at hl 4 rfl) ?_
  refine lv_iconst (v := 1) hx hb dL_law_1546 (by decide) ?_
  refine lv_iadd hx hb dL_law_1547 ?_
  refine scr hF hXs hbl hL hS (nIadd (4 * jj) 1) (by omega) hx1 dL_law_1548 ?_
  refine lv_aload_n hx hb dL_law_1549 rfl (lv_at hl 3 rfl) ?_
  refine wSWi (mc := 1) (ms := 6) (X1 := fun (_ : Unit) _ _ => True) (As := [.ref (q 0), .int a, .ref o]) (rest := []) hF (bL_bestWord hsT a hb9) (Wm.and (Wm.and C0.mv.wm TH.wm) NC.mv.wm) (fun _ => Mv.const) ⟨⟨hX, (hTH.kept hS.2.1).narrow (fun _ h => h.elim)⟩, hNC⟩ jyL_bestWord kl_RL_205 ⟨rfl, rfl⟩ ⟨Nat.le_of_ble_eq_true rfl, Nat.le_of_ble_eq_true rfl⟩ rfl hl.1 rfl (Nat.le_of_ble_eq_true rfl) ⟨Nat.le_trans (by omega) hce.1, Nat.le_trans (by omega) hce.2⟩ hS (fun _ _ h => h.elim) (fun _ h => h.elim) dL_law_1550 (fun ra ua H locs hp hX9 hz hk hS => ?_)
  have hX := C0.kept hX (fun a ha => hk a (hX.lt ha) (fun h => h))
  have hM := M0.kept hM (fun a ha => hk a (hM.lt ha) (fun h => h))
  have hO := O1.kept hO (hk o hO.lt (fun h => h))
  have hr0 := hp
  rw [hr0]
  refine lv_istore (lv' := [(5, .int 1), (0, .ref sb), (1, .ref (q 0)), (2, .ref (q2 0)), (3, .ref o), (4, .int (nI (4 * jj)))]) hx hb dL_law_1553 hl (by decide) rfl (fun ls hl => ?_)
  refine lv_aload_n hx hb dL_law_1555 rfl (lv_at hl 3 rfl) ?_
  refine lv_aload_n hx hb dL_law_1556 rfl (lv_at hl 1 rfl) ?_
  refine lv_iload hx hb dL_law_1557 (lv_at hl 5 rfl) ?_
  refine lv_iconst (v := 1) hx hb dL_law_1559 (by decide) ?_
  refine lv_iadd hx hb dL_law_1560 ?_
  refine scr hF hXs hbl hL hS (nIadd (4 * jj) 1) (by omega) hx1 dL_law_1561 ?_
  refine wVi (mc := 0) (ms := 0) (As := [.int a]) (rest := []) hF (nX1_bestWord a (in10_isI hb9)) M0.mv (fun _ => M0.mv) hM hM.rc jyX1_bestWord kl_RL_207 ⟨rfl, rfl⟩ ⟨Nat.le_of_ble_eq_true rfl, Nat.le_of_ble_eq_true rfl⟩ rfl hl.1 rfl (Nat.le_of_ble_eq_true rfl) ⟨Nat.le_trans (by omega) hce.1, Nat.le_trans (by omega) hce.2⟩ hS (fun a _ h => (hs2 a h).1) (fun a h => (hs2 a h).1) dL_law_1562 (fun rb ub H locs hp hM9 hz hk hS => ?_)
  have hX := C0.kept hX (fun a ha => hk a (hX.lt ha) (hs1 a ha).2.1)
  have hO := O1.kept hO (hk o hO.lt (fun h => (hs2 o h).2 rfl))
  have hM := hM9
  refine lv_istore (lv' := [(6, .int rb), (5, .int 1), (0, .ref sb), (1, .ref (q 0)), (2, .ref (q2 0)), (3, .ref o), (4, .int (nI (4 * jj)))]) hx hb dL_law_1565 hl (by decide) rfl (fun ls hl => ?_)
  refine lv_aload_n hx hb dL_law_1567 rfl (lv_at hl 4 rfl) ?_
  refine cVi (As := []) (rest := []) hF mX1_thrown M0.mv hM hM.rc jyX1_thrown kl_RL_93 ⟨rfl, rfl⟩ ⟨Nat.le_of_ble_eq_true rfl, Nat.le_of_ble_eq_true rfl⟩ rfl hl.1 rfl (Nat.le_of_ble_eq_true rfl) ⟨Nat.le_trans (by omega) hce.1, Nat.le_trans (by omega) hce.2⟩ dL_law_1568 (fun r hr9 => ?_)
  rw [hr9]
  refine lv_iload hx hb dL_law_1571 (lv_at hl 1 rfl) ?_
  refine lv_icmp_eq (tgt := 1578) hx hb dL_law_1573 (by decide) (fun c1573 => ?_) (fun c1573 => ?_)
  · refine lv_iload hx hb dL_law_1578 (lv_at hl 1 rfl) ?_
    refine lv_if_ne (tgt := 1595) hx hb dL_law_1580 (by decide) (fun c1580 => ?_) (fun c1580 => ?_)
    · refine lv_goto (tgt := 1666) hx hb dL_law_1595 (by decide) ?_
      exact W.widen (by omega) (by omega) (KK N st v mk w 1 md ub f H locs ls ⟨⟨hX, hM, hO⟩, ⟨hok, hde, hmk⟩⟩ hS (lv_sub hl [2, 3, 4, 5, 6] rfl))
    · exact absurd c1580 (by decide)
  · exact absurd rfl c1573
set_option maxHeartbeats 4000000 in
set_option maxRecDepth 100000 in
theorem k_sungWith_g (hF : CallFix p m c cL_law 9 s args wA RL) (hfx : FX l s q q2 o t1 t2 t3 sb L xs) (hce : cells + 20 ≤ 601024 ∧ slots + 150 ≤ 7293034) (hj : 4 * jj + 4 ≤ L) (x : Nat) (hx10 : x < 10) (hI : RI D cyI cyZ cyL q q2 o N st v mk w th md w2 f s H) (hS : va_S (A9 s) s.heap H locs) (hl : lv_has ls 9 (LC sb q q2 o jj)) (hx1 : xs (4 * jj + 1) = (nI x))
    (KK : KT p l ev s m args below meth c cells slots Q D cyI cyZ cyL q q2 o sb jj) : W p l ev room_1 s m args below meth c H locs cells slots Q (F0 m 1028 ls []) := by
  obtain ⟨⟨hs1, hs2, hs3⟩, ⟨hZ, hZM, hTH, hNC⟩, ⟨hXs, hbl, hL⟩, hsT⟩ := hfx
  obtain ⟨⟨hX, hM, hO⟩, hok, hde, hmk⟩ := hI
  have hN := hok.1
  have ho : ¬ own 10 q o := fun h => (hs1 o h).2.2 rfl
  obtain ⟨hx, hb, hml, hown, hts⟩ := id hF
  refine lv_aload_n hx hb dL_law_1028 rfl (lv_at hl 1 rfl) ?_
  refine lv_aload_n hx hb dL_law_1029 rfl (lv_at hl 0 rfl) ?_
  refine lv_iload hx hb dL_law_1030 (lv_at hl 4 rfl) ?_
  refine lv_iconst (v := 1) hx hb dL_law_1032 (by decide) ?_
  refine lv_iadd hx hb dL_law_1033 ?_
  refine scr hF hXs hbl hL hS (nIadd (4 * jj) 1) (by omega) hx1 dL_law_1034 ?_
  refine lv_aload_n hx hb dL_law_1035 rfl (lv_at hl 3 rfl) ?_
  refine wSWi (mc := 0) (ms := 0) (As := [.ref (q 0), .int (nI x), .ref o]) (rest := []) hF (gL_sungWith hok hde x hx10) (Wm.and C0.mv.wm O1.mv.wm) (fun _ => O1.mv) ⟨hX, hO⟩ jyL_sungWith kl_RL_168 ⟨rfl, rfl⟩ ⟨Nat.le_of_ble_eq_true rfl, Nat.le_of_ble_eq_true rfl⟩ rfl hl.1 rfl (Nat.le_of_ble_eq_true rfl) ⟨Nat.le_trans (by omega) hce.1, Nat.le_trans (by omega) hce.2⟩ hS (fun a _ h => by rw [h]; exact hs3) (fun a h => by rw [h]; exact hs3) dL_law_1036 (fun ra ua H locs hp hX9 hz hk hS => ?_)
  have hX := C0.kept hX (fun a ha => hk a (hX.lt ha) (hs1 a ha).2.2)
  have hM := M0.kept hM (fun a ha => hk a (hM.lt ha) (hs2 a ha).2)
  have hO := hX9
  obtain ⟨hr0, hf0⟩ := hp
  rw [hr0]
  refine lv_istore (lv' := [(5, .int 0), (0, .ref sb), (1, .ref (q 0)), (2, .ref (q2 0)), (3, .ref o), (4, .int (nI (4 * jj)))]) hx hb dL_law_1039 hl (by decide) rfl (fun ls hl => ?_)
  refine lv_aload_n hx hb dL_law_1041 rfl (lv_at hl 3 rfl) ?_
  refine lv_aload_n hx hb dL_law_1042 rfl (lv_at hl 1 rfl) ?_
  refine lv_iload hx hb dL_law_1043 (lv_at hl 5 rfl) ?_
  refine lv_iconst (v := 1) hx hb dL_law_1045 (by decide) ?_
  refine lv_iadd hx hb dL_law_1046 ?_
  refine scr hF hXs hbl hL hS (nIadd (4 * jj) 1) (by omega) hx1 dL_law_1047 ?_
  refine wVi (mc := 0) (ms := 0) (As := [.int (nI x)]) (rest := []) hF (mX1_sungWith hok x hx10) M0.mv (fun _ => M0.mv) hM hM.rc jyX1_sungWith kl_RL_170 ⟨rfl, rfl⟩ ⟨Nat.le_of_ble_eq_true rfl, Nat.le_of_ble_eq_true rfl⟩ rfl hl.1 rfl (Nat.le_of_ble_eq_true rfl) ⟨Nat.le_trans (by omega) hce.1, Nat.le_trans (by omega) hce.2⟩ hS (fun a _ h => (hs2 a h).1) (fun a h => (hs2 a h).1) dL_law_1048 (fun rb ub H locs hp hM9 hz hk hS => ?_)
  have hX := C0.kept hX (fun a ha => hk a (hX.lt ha) (hs1 a ha).2.1)
  have hO := O1.kept hO (hk o hO.lt (fun h => (hs2 o h).2 rfl))
  have hM := hM9
  rw [hp]
  refine lv_istore (lv' := [(6, .int (sung v (nI x) N)), (5, .int 0), (0, .ref sb), (1, .ref (q 0)), (2, .ref (q2 0)), (3, .ref o), (4, .int (nI (4 * jj)))]) hx hb dL_law_1051 hl (by decide) rfl (fun ls hl => ?_)
  refine lv_aload_n hx hb dL_law_1053 rfl (lv_at hl 4 rfl) ?_
  refine cVi (As := []) (rest := []) hF mX1_thrown M0.mv hM hM.rc jyX1_thrown kl_RL_93 ⟨rfl, rfl⟩ ⟨Nat.le_of_ble_eq_true rfl, Nat.le_of_ble_eq_true rfl⟩ rfl hl.1 rfl (Nat.le_of_ble_eq_true rfl) ⟨Nat.le_trans (by omega) hce.1, Nat.le_trans (by omega) hce.2⟩ dL_law_1054 (fun r hr9 => ?_)
  rw [hr9]
  refine lv_iload hx hb dL_law_1057 (lv_at hl 1 rfl) ?_
  refine lv_icmp_eq (tgt := 1064) hx hb dL_law_1059 (by decide) (fun c1059 => ?_) (fun c1059 => ?_)
  · refine lv_iload hx hb dL_law_1064 (lv_at hl 1 rfl) ?_
    refine lv_if_ne (tgt := 1081) hx hb dL_law_1066 (by decide) (fun c1066 => ?_) (fun c1066 => ?_)
    · exact absurd rfl c1066
    · refine lv_aload_n hx hb dL_law_1069 rfl (lv_at hl 5 rfl) ?_
      refine lv_iconst (v := 0) hx hb dL_law_1070 (by decide) ?_
      refine O1.ld hF hO dL_law_1071 ?_
      refine topL hf0 ?_
      refine lv_iload hx hb dL_law_1072 (lv_at hl 0 rfl) ?_
      refine lv_i2l hx hb dL_law_1074 rfl ?_
      refine W.lcmp hx hb dL_law_1075 ?_
      refine lv_if_eq (tgt := 1081) hx hb dL_law_1076 (by decide) (fun c1076 => ?_) (fun c1076 => ?_)
      · refine lv_goto (tgt := 1666) hx hb dL_law_1081 (by decide) ?_
        exact W.widen (by omega) (by omega) (KK N st v mk w 0 md ub ua H locs ls ⟨⟨hX, hM, hO⟩, ⟨hok, hde, hmk⟩⟩ hS (lv_sub hl [2, 3, 4, 5, 6] rfl))
      · exact absurd ((lg_cmp_eq _ _).mpr rfl) c1076
  · exact absurd rfl c1059
set_option maxHeartbeats 4000000 in
set_option maxRecDepth 100000 in
theorem k_sungWith_b (hF : CallFix p m c cL_law 9 s args wA RL) (hfx : FX l s q q2 o t1 t2 t3 sb L xs) (hce : cells + 20 ≤ 601024 ∧ slots + 150 ≤ 7293034) (hj : 4 * jj + 4 ≤ L) (a : Int32) (hb9 : in10 a = false) (hI : RI D cyI cyZ cyL q q2 o N st v mk w th md w2 f s H) (hS : va_S (A9 s) s.heap H locs) (hl : lv_has ls 9 (LC sb q q2 o jj)) (hx1 : xs (4 * jj + 1) = a)
    (KK : KT p l ev s m args below meth c cells slots Q D cyI cyZ cyL q q2 o sb jj) : W p l ev room_1 s m args below meth c H locs cells slots Q (F0 m 1028 ls []) := by
  obtain ⟨⟨hs1, hs2, hs3⟩, ⟨hZ, hZM, hTH, hNC⟩, ⟨hXs, hbl, hL⟩, hsT⟩ := hfx
  obtain ⟨⟨hX, hM, hO⟩, hok, hde, hmk⟩ := hI
  have hN := hok.1
  have ho : ¬ own 10 q o := fun h => (hs1 o h).2.2 rfl
  obtain ⟨hx, hb, hml, hown, hts⟩ := id hF
  refine lv_aload_n hx hb dL_law_1028 rfl (lv_at hl 1 rfl) ?_
  refine lv_aload_n hx hb dL_law_1029 rfl (lv_at hl 0 rfl) ?_
  refine lv_iload hx hb dL_law_1030 (lv_at hl 4 rfl) ?_
  refine lv_iconst (v := 1) hx hb dL_law_1032 (by decide) ?_
  refine lv_iadd hx hb dL_law_1033 ?_
  refine scr hF hXs hbl hL hS (nIadd (4 * jj) 1) (by omega) hx1 dL_law_1034 ?_
  refine lv_aload_n hx hb dL_law_1035 rfl (lv_at hl 3 rfl) ?_
  refine wSWi (mc := 1) (ms := 6) (X1 := fun (_ : Unit) _ _ => True) (As := [.ref (q 0), .int a, .ref o]) (rest := []) hF (bL_sungWith hsT a hb9) (Wm.and (Wm.and C0.mv.wm TH.wm) NC.mv.wm) (fun _ => Mv.const) ⟨⟨hX, (hTH.kept hS.2.1).narrow (fun _ h => h.elim)⟩, hNC⟩ jyL_sungWith kl_RL_168 ⟨rfl, rfl⟩ ⟨Nat.le_of_ble_eq_true rfl, Nat.le_of_ble_eq_true rfl⟩ rfl hl.1 rfl (Nat.le_of_ble_eq_true rfl) ⟨Nat.le_trans (by omega) hce.1, Nat.le_trans (by omega) hce.2⟩ hS (fun _ _ h => h.elim) (fun _ h => h.elim) dL_law_1036 (fun ra ua H locs hp hX9 hz hk hS => ?_)
  have hX := C0.kept hX (fun a ha => hk a (hX.lt ha) (fun h => h))
  have hM := M0.kept hM (fun a ha => hk a (hM.lt ha) (fun h => h))
  have hO := O1.kept hO (hk o hO.lt (fun h => h))
  have hr0 := hp
  rw [hr0]
  refine lv_istore (lv' := [(5, .int 1), (0, .ref sb), (1, .ref (q 0)), (2, .ref (q2 0)), (3, .ref o), (4, .int (nI (4 * jj)))]) hx hb dL_law_1039 hl (by decide) rfl (fun ls hl => ?_)
  refine lv_aload_n hx hb dL_law_1041 rfl (lv_at hl 3 rfl) ?_
  refine lv_aload_n hx hb dL_law_1042 rfl (lv_at hl 1 rfl) ?_
  refine lv_iload hx hb dL_law_1043 (lv_at hl 5 rfl) ?_
  refine lv_iconst (v := 1) hx hb dL_law_1045 (by decide) ?_
  refine lv_iadd hx hb dL_law_1046 ?_
  refine scr hF hXs hbl hL hS (nIadd (4 * jj) 1) (by omega) hx1 dL_law_1047 ?_
  refine wVi (mc := 0) (ms := 0) (As := [.int a]) (rest := []) hF (nX1_sungWith a (in10_isI hb9)) M0.mv (fun _ => M0.mv) hM hM.rc jyX1_sungWith kl_RL_170 ⟨rfl, rfl⟩ ⟨Nat.le_of_ble_eq_true rfl, Nat.le_of_ble_eq_true rfl⟩ rfl hl.1 rfl (Nat.le_of_ble_eq_true rfl) ⟨Nat.le_trans (by omega) hce.1, Nat.le_trans (by omega) hce.2⟩ hS (fun a _ h => (hs2 a h).1) (fun a h => (hs2 a h).1) dL_law_1048 (fun rb ub H locs hp hM9 hz hk hS => ?_)
  have hX := C0.kept hX (fun a ha => hk a (hX.lt ha) (hs1 a ha).2.1)
  have hO := O1.kept hO (hk o hO.lt (fun h => (hs2 o h).2 rfl))
  have hM := hM9
  refine lv_istore (lv' := [(6, .int rb), (5, .int 1), (0, .ref sb), (1, .ref (q 0)), (2, .ref (q2 0)), (3, .ref o), (4, .int (nI (4 * jj)))]) hx hb dL_law_1051 hl (by decide) rfl (fun ls hl => ?_)
  refine lv_aload_n hx hb dL_law_1053 rfl (lv_at hl 4 rfl) ?_
  refine cVi (As := []) (rest := []) hF mX1_thrown M0.mv hM hM.rc jyX1_thrown kl_RL_93 ⟨rfl, rfl⟩ ⟨Nat.le_of_ble_eq_true rfl, Nat.le_of_ble_eq_true rfl⟩ rfl hl.1 rfl (Nat.le_of_ble_eq_true rfl) ⟨Nat.le_trans (by omega) hce.1, Nat.le_trans (by omega) hce.2⟩ dL_law_1054 (fun r hr9 => ?_)
  rw [hr9]
  refine lv_iload hx hb dL_law_1057 (lv_at hl 1 rfl) ?_
  refine lv_icmp_eq (tgt := 1064) hx hb dL_law_1059 (by decide) (fun c1059 => ?_) (fun c1059 => ?_)
  · refine lv_iload hx hb dL_law_1064 (lv_at hl 1 rfl) ?_
    refine lv_if_ne (tgt := 1081) hx hb dL_law_1066 (by decide) (fun c1066 => ?_) (fun c1066 => ?_)
    · refine lv_goto (tgt := 1666) hx hb dL_law_1081 (by decide) ?_
      exact W.widen (by omega) (by omega) (KK N st v mk w 1 md ub f H locs ls ⟨⟨hX, hM, hO⟩, ⟨hok, hde, hmk⟩⟩ hS (lv_sub hl [2, 3, 4, 5, 6] rfl))
    · exact absurd c1066 (by decide)
  · exact absurd rfl c1059
set_option maxHeartbeats 4000000 in
set_option maxRecDepth 100000 in
theorem k_addLeg_g (hF : CallFix p m c cL_law 9 s args wA RL) (hfx : FX l s q q2 o t1 t2 t3 sb L xs) (hce : cells + 20 ≤ 601024 ∧ slots + 150 ≤ 7293034) (hj : 4 * jj + 4 ≤ L) (e j : Nat) (ln : Int32) (he : e < 7) (hl1 : ¬ ln < 1) (hl9 : ln ≤ 9) (hj10 : j < 10) (hN16 : N < 16) (hI : RI D cyI cyZ cyL q q2 o N st v mk w th md w2 f s H) (hS : va_S (A9 s) s.heap H locs) (hl : lv_has ls 9 (LC sb q q2 o jj)) (hx1 : xs (4 * jj + 1) = nI e - 3) (hx2 : xs (4 * jj + 2) = ln) (hx3 : xs (4 * jj + 3) = nI j)
    (KK : KT p l ev s m args below meth c cells slots Q D cyI cyZ cyL q q2 o sb jj) : W p l ev room_1 s m args below meth c H locs cells slots Q (F0 m 196 ls []) := by
  obtain ⟨⟨hs1, hs2, hs3⟩, ⟨hZ, hZM, hTH, hNC⟩, ⟨hXs, hbl, hL⟩, hsT⟩ := hfx
  obtain ⟨⟨hX, hM, hO⟩, hok, hde, hmk⟩ := hI
  have hN := hok.1
  have ho : ¬ own 10 q o := fun h => (hs1 o h).2.2 rfl
  obtain ⟨hx, hb, hml, hown, hts⟩ := id hF
  refine lv_aload_n hx hb dL_law_196 rfl (lv_at hl 1 rfl) ?_
  refine lv_aload_n hx hb dL_law_197 rfl (lv_at hl 0 rfl) ?_
  refine lv_iload hx hb dL_law_198 (lv_at hl 4 rfl) ?_
  refine lv_iconst (v := 1) hx hb dL_law_200 (by decide) ?_
  refine lv_iadd hx hb dL_law_201 ?_
  refine scr hF hXs hbl hL hS (nIadd (4 * jj) 1) (by omega) hx1 dL_law_202 ?_
  refine lv_aload_n hx hb dL_law_203 rfl (lv_at hl 0 rfl) ?_
  refine lv_iload hx hb dL_law_204 (lv_at hl 4 rfl) ?_
  refine lv_iconst (v := 2) hx hb dL_law_206 (by decide) ?_
  refine lv_iadd hx hb dL_law_207 ?_
  refine scr hF hXs hbl hL hS (nIadd (4 * jj) 2) (by omega) hx2 dL_law_208 ?_
  refine lv_aload_n hx hb dL_law_209 rfl (lv_at hl 0 rfl) ?_
  refine lv_iload hx hb dL_law_210 (lv_at hl 4 rfl) ?_
  refine lv_iconst (v := 3) hx hb dL_law_212 (by decide) ?_
  refine lv_iadd hx hb dL_law_213 ?_
  refine scr hF hXs hbl hL hS (nIadd (4 * jj) 3) (by omega) hx3 dL_law_214 ?_
  refine lv_aload_n hx hb dL_law_215 rfl (lv_at hl 3 rfl) ?_
  refine wSWi (mc := 0) (ms := 0) (As := [.ref (q 0), .int (nI e - 3), .int ln, .int (nI j), .ref o]) (rest := []) hF (gL_addLeg hok hde e j ln he hl1 hl9 hj10 hN16 ho) (Wm.and (Wm.and C0.mv.wm ST.mv.wm) O1.mv.wm) (fun _ => Mv.and C0.mv O1.mv) ⟨⟨hX, (hZ.kept hS.2.1).narrow (fun a h => (hs1 a h).1)⟩, hO⟩ jyL_addLeg kl_RL_87 ⟨rfl, rfl⟩ ⟨Nat.le_of_ble_eq_true rfl, Nat.le_of_ble_eq_true rfl⟩ rfl hl.1 rfl (Nat.le_of_ble_eq_true rfl) ⟨Nat.le_trans (by omega) hce.1, Nat.le_trans (by omega) hce.2⟩ hS (fun a _ h => h.elim (fun h => (hs1 a h).1) (fun h => by rw [h]; exact hs3)) (fun a h => h.elim (fun h => (hs1 a h).1) (fun h => by rw [h]; exact hs3)) dL_law_216 (fun ra ua H locs hp hX9 hz hk hS => ?_)
  have hM := M0.kept hM (fun a ha => hk a (hM.lt ha) (fun h => h.elim (fun h => (hs1 a h).2.1 ha) (hs2 a ha).2))
  obtain ⟨hX, hO⟩ := hX9
  obtain ⟨hr0, r9, hf0, hq9⟩ := hp
  rw [hq9.1] at hf0
  rw [hr0]
  refine lv_istore (lv' := [(5, .int 0), (0, .ref sb), (1, .ref (q 0)), (2, .ref (q2 0)), (3, .ref o), (4, .int (nI (4 * jj)))]) hx hb dL_law_219 hl (by decide) rfl (fun ls hl => ?_)
  refine lv_aload_n hx hb dL_law_221 rfl (lv_at hl 3 rfl) ?_
  refine lv_aload_n hx hb dL_law_222 rfl (lv_at hl 1 rfl) ?_
  refine lv_iload hx hb dL_law_223 (lv_at hl 5 rfl) ?_
  refine lv_iconst (v := 1) hx hb dL_law_225 (by decide) ?_
  refine lv_iadd hx hb dL_law_226 ?_
  refine scr hF hXs hbl hL hS (nIadd (4 * jj) 1) (by omega) hx1 dL_law_227 ?_
  refine lv_aload_n hx hb dL_law_228 rfl (lv_at hl 1 rfl) ?_
  refine lv_iload hx hb dL_law_229 (lv_at hl 5 rfl) ?_
  refine lv_iconst (v := 2) hx hb dL_law_231 (by decide) ?_
  refine lv_iadd hx hb dL_law_232 ?_
  refine scr hF hXs hbl hL hS (nIadd (4 * jj) 2) (by omega) hx2 dL_law_233 ?_
  refine lv_aload_n hx hb dL_law_234 rfl (lv_at hl 1 rfl) ?_
  refine lv_iload hx hb dL_law_235 (lv_at hl 5 rfl) ?_
  refine lv_iconst (v := 3) hx hb dL_law_237 (by decide) ?_
  refine lv_iadd hx hb dL_law_238 ?_
  refine scr hF hXs hbl hL hS (nIadd (4 * jj) 3) (by omega) hx3 dL_law_239 ?_
  refine wVi (mc := 0) (ms := 0) (As := [.int (nI e - 3), .int ln, .int (nI j)]) (rest := []) hF (mX1_addLeg hok e j ln he (by simp [isI, Int32.not_lt.mp hl1, hl9]) hj10 hN16) M0.mv (fun _ => M0.mv) hM hM.rc jyX1_addLeg kl_RL_92 ⟨rfl, rfl⟩ ⟨Nat.le_of_ble_eq_true rfl, Nat.le_of_ble_eq_true rfl⟩ rfl hl.1 rfl (Nat.le_of_ble_eq_true rfl) ⟨Nat.le_trans (by omega) hce.1, Nat.le_trans (by omega) hce.2⟩ hS (fun a _ h => (hs2 a h).1) (fun a h => (hs2 a h).1) dL_law_240 (fun rb ub H locs hp hM9 hz hk hS => ?_)
  have hX := C0.kept hX (fun a ha => hk a (hX.lt ha) (hs1 a ha).2.1)
  have hO := O1.kept hO (hk o hO.lt (fun h => (hs2 o h).2 rfl))
  have hM := hM9
  rw [hp]
  refine lv_istore (lv' := [(6, .int (nI N)), (5, .int 0), (0, .ref sb), (1, .ref (q 0)), (2, .ref (q2 0)), (3, .ref o), (4, .int (nI (4 * jj)))]) hx hb dL_law_243 hl (by decide) rfl (fun ls hl => ?_)
  refine lv_aload_n hx hb dL_law_245 rfl (lv_at hl 4 rfl) ?_
  refine cVi (As := []) (rest := []) hF mX1_thrown M0.mv hM hM.rc jyX1_thrown kl_RL_93 ⟨rfl, rfl⟩ ⟨Nat.le_of_ble_eq_true rfl, Nat.le_of_ble_eq_true rfl⟩ rfl hl.1 rfl (Nat.le_of_ble_eq_true rfl) ⟨Nat.le_trans (by omega) hce.1, Nat.le_trans (by omega) hce.2⟩ dL_law_246 (fun r hr9 => ?_)
  rw [hr9]
  refine lv_iload hx hb dL_law_249 (lv_at hl 1 rfl) ?_
  refine lv_icmp_eq (tgt := 256) hx hb dL_law_251 (by decide) (fun c251 => ?_) (fun c251 => ?_)
  · refine lv_iload hx hb dL_law_256 (lv_at hl 1 rfl) ?_
    refine lv_if_ne (tgt := 273) hx hb dL_law_258 (by decide) (fun c258 => ?_) (fun c258 => ?_)
    · exact absurd rfl c258
    · refine lv_aload_n hx hb dL_law_261 rfl (lv_at hl 5 rfl) ?_
      refine lv_iconst (v := 0) hx hb dL_law_262 (by decide) ?_
      refine O1.ld hF hO dL_law_263 ?_
      refine topL hf0 ?_
      refine lv_iload hx hb dL_law_264 (lv_at hl 0 rfl) ?_
      refine lv_i2l hx hb dL_law_266 rfl ?_
      refine W.lcmp hx hb dL_law_267 ?_
      refine lv_if_eq (tgt := 273) hx hb dL_law_268 (by decide) (fun c268 => ?_) (fun c268 => ?_)
      · refine lv_goto (tgt := 1666) hx hb dL_law_273 (by decide) ?_
        exact W.widen (by omega) (by omega) (KK (N + 1) st (addV v N (nI e - 3) ln (nI j)) (va_up mk N false) ua.2 0 md ub ua.1 H locs ls ⟨⟨hX, hM, hO⟩, ⟨addV_ok hok hN16 he hj10, hq9.2, Mk_add hmk hN16⟩⟩ hS (lv_sub hl [2, 3, 4, 5, 6] rfl))
      · exact absurd ((lg_cmp_eq _ _).mpr rfl) c268
  · exact absurd rfl c251
set_option maxHeartbeats 4000000 in
set_option maxRecDepth 100000 in
theorem k_addLeg_b1 (hF : CallFix p m c cL_law 9 s args wA RL) (hfx : FX l s q q2 o t1 t2 t3 sb L xs) (hce : cells + 20 ≤ 601024 ∧ slots + 150 ≤ 7293034) (hj : 4 * jj + 4 ≤ L) (a : Int32) (hb9 : a < -3 ∨ 3 < a) (ln b : Int32) (hI : RI D cyI cyZ cyL q q2 o N st v mk w th md w2 f s H) (hS : va_S (A9 s) s.heap H locs) (hl : lv_has ls 9 (LC sb q q2 o jj)) (hx1 : xs (4 * jj + 1) = a) (hx2 : xs (4 * jj + 2) = ln) (hx3 : xs (4 * jj + 3) = b)
    (KK : KT p l ev s m args below meth c cells slots Q D cyI cyZ cyL q q2 o sb jj) : W p l ev room_1 s m args below meth c H locs cells slots Q (F0 m 196 ls []) := by
  obtain ⟨⟨hs1, hs2, hs3⟩, ⟨hZ, hZM, hTH, hNC⟩, ⟨hXs, hbl, hL⟩, hsT⟩ := hfx
  obtain ⟨⟨hX, hM, hO⟩, hok, hde, hmk⟩ := hI
  have hN := hok.1
  have ho : ¬ own 10 q o := fun h => (hs1 o h).2.2 rfl
  obtain ⟨hx, hb, hml, hown, hts⟩ := id hF
  refine lv_aload_n hx hb dL_law_196 rfl (lv_at hl 1 rfl) ?_
  refine lv_aload_n hx hb dL_law_197 rfl (lv_at hl 0 rfl) ?_
  refine lv_iload hx hb dL_law_198 (lv_at hl 4 rfl) ?_
  refine lv_iconst (v := 1) hx hb dL_law_200 (by decide) ?_
  refine lv_iadd hx hb dL_law_201 ?_
  refine scr hF hXs hbl hL hS (nIadd (4 * jj) 1) (by omega) hx1 dL_law_202 ?_
  refine lv_aload_n hx hb dL_law_203 rfl (lv_at hl 0 rfl) ?_
  refine lv_iload hx hb dL_law_204 (lv_at hl 4 rfl) ?_
  refine lv_iconst (v := 2) hx hb dL_law_206 (by decide) ?_
  refine lv_iadd hx hb dL_law_207 ?_
  refine scr hF hXs hbl hL hS (nIadd (4 * jj) 2) (by omega) hx2 dL_law_208 ?_
  refine lv_aload_n hx hb dL_law_209 rfl (lv_at hl 0 rfl) ?_
  refine lv_iload hx hb dL_law_210 (lv_at hl 4 rfl) ?_
  refine lv_iconst (v := 3) hx hb dL_law_212 (by decide) ?_
  refine lv_iadd hx hb dL_law_213 ?_
  refine scr hF hXs hbl hL hS (nIadd (4 * jj) 3) (by omega) hx3 dL_law_214 ?_
  refine lv_aload_n hx hb dL_law_215 rfl (lv_at hl 3 rfl) ?_
  refine wSWi (mc := 1) (ms := 6) (X1 := fun (_ : Unit) _ _ => True) (As := [.ref (q 0), .int a, .int ln, .int b, .ref o]) (rest := []) hF (bL_addLeg1 hsT a hb9 ln b) (Wm.and (Wm.and C0.mv.wm TH.wm) NC.mv.wm) (fun _ => Mv.const) ⟨⟨hX, (hTH.kept hS.2.1).narrow (fun _ h => h.elim)⟩, hNC⟩ jyL_addLeg kl_RL_87 ⟨rfl, rfl⟩ ⟨Nat.le_of_ble_eq_true rfl, Nat.le_of_ble_eq_true rfl⟩ rfl hl.1 rfl (Nat.le_of_ble_eq_true rfl) ⟨Nat.le_trans (by omega) hce.1, Nat.le_trans (by omega) hce.2⟩ hS (fun _ _ h => h.elim) (fun _ h => h.elim) dL_law_216 (fun ra ua H locs hp hX9 hz hk hS => ?_)
  have hX := C0.kept hX (fun a ha => hk a (hX.lt ha) (fun h => h))
  have hM := M0.kept hM (fun a ha => hk a (hM.lt ha) (fun h => h))
  have hO := O1.kept hO (hk o hO.lt (fun h => h))
  have hr0 := hp
  rw [hr0]
  refine lv_istore (lv' := [(5, .int 1), (0, .ref sb), (1, .ref (q 0)), (2, .ref (q2 0)), (3, .ref o), (4, .int (nI (4 * jj)))]) hx hb dL_law_219 hl (by decide) rfl (fun ls hl => ?_)
  refine lv_aload_n hx hb dL_law_221 rfl (lv_at hl 3 rfl) ?_
  refine lv_aload_n hx hb dL_law_222 rfl (lv_at hl 1 rfl) ?_
  refine lv_iload hx hb dL_law_223 (lv_at hl 5 rfl) ?_
  refine lv_iconst (v := 1) hx hb dL_law_225 (by decide) ?_
  refine lv_iadd hx hb dL_law_226 ?_
  refine scr hF hXs hbl hL hS (nIadd (4 * jj) 1) (by omega) hx1 dL_law_227 ?_
  refine lv_aload_n hx hb dL_law_228 rfl (lv_at hl 1 rfl) ?_
  refine lv_iload hx hb dL_law_229 (lv_at hl 5 rfl) ?_
  refine lv_iconst (v := 2) hx hb dL_law_231 (by decide) ?_
  refine lv_iadd hx hb dL_law_232 ?_
  refine scr hF hXs hbl hL hS (nIadd (4 * jj) 2) (by omega) hx2 dL_law_233 ?_
  refine lv_aload_n hx hb dL_law_234 rfl (lv_at hl 1 rfl) ?_
  refine lv_iload hx hb dL_law_235 (lv_at hl 5 rfl) ?_
  refine lv_iconst (v := 3) hx hb dL_law_237 (by decide) ?_
  refine lv_iadd hx hb dL_law_238 ?_
  refine scr hF hXs hbl hL hS (nIadd (4 * jj) 3) (by omega) hx3 dL_law_239 ?_
  refine wVi (mc := 0) (ms := 0) (As := [.int a, .int ln, .int b]) (rest := []) hF (nX1_addLeg a ln b (by rw [isI_lo hb9]; rfl)) M0.mv (fun _ => M0.mv) hM hM.rc jyX1_addLeg kl_RL_92 ⟨rfl, rfl⟩ ⟨Nat.le_of_ble_eq_true rfl, Nat.le_of_ble_eq_true rfl⟩ rfl hl.1 rfl (Nat.le_of_ble_eq_true rfl) ⟨Nat.le_trans (by omega) hce.1, Nat.le_trans (by omega) hce.2⟩ hS (fun a _ h => (hs2 a h).1) (fun a h => (hs2 a h).1) dL_law_240 (fun rb ub H locs hp hM9 hz hk hS => ?_)
  have hX := C0.kept hX (fun a ha => hk a (hX.lt ha) (hs1 a ha).2.1)
  have hO := O1.kept hO (hk o hO.lt (fun h => (hs2 o h).2 rfl))
  have hM := hM9
  refine lv_istore (lv' := [(6, .int rb), (5, .int 1), (0, .ref sb), (1, .ref (q 0)), (2, .ref (q2 0)), (3, .ref o), (4, .int (nI (4 * jj)))]) hx hb dL_law_243 hl (by decide) rfl (fun ls hl => ?_)
  refine lv_aload_n hx hb dL_law_245 rfl (lv_at hl 4 rfl) ?_
  refine cVi (As := []) (rest := []) hF mX1_thrown M0.mv hM hM.rc jyX1_thrown kl_RL_93 ⟨rfl, rfl⟩ ⟨Nat.le_of_ble_eq_true rfl, Nat.le_of_ble_eq_true rfl⟩ rfl hl.1 rfl (Nat.le_of_ble_eq_true rfl) ⟨Nat.le_trans (by omega) hce.1, Nat.le_trans (by omega) hce.2⟩ dL_law_246 (fun r hr9 => ?_)
  rw [hr9]
  refine lv_iload hx hb dL_law_249 (lv_at hl 1 rfl) ?_
  refine lv_icmp_eq (tgt := 256) hx hb dL_law_251 (by decide) (fun c251 => ?_) (fun c251 => ?_)
  · refine lv_iload hx hb dL_law_256 (lv_at hl 1 rfl) ?_
    refine lv_if_ne (tgt := 273) hx hb dL_law_258 (by decide) (fun c258 => ?_) (fun c258 => ?_)
    · refine lv_goto (tgt := 1666) hx hb dL_law_273 (by decide) ?_
      exact W.widen (by omega) (by omega) (KK N st v mk w 1 md ub f H locs ls ⟨⟨hX, hM, hO⟩, ⟨hok, hde, hmk⟩⟩ hS (lv_sub hl [2, 3, 4, 5, 6] rfl))
    · exact absurd c258 (by decide)
  · exact absurd rfl c251
set_option maxHeartbeats 4000000 in
set_option maxRecDepth 100000 in
theorem k_addLeg_b2 (hF : CallFix p m c cL_law 9 s args wA RL) (hfx : FX l s q q2 o t1 t2 t3 sb L xs) (hce : cells + 20 ≤ 601024 ∧ slots + 150 ≤ 7293034) (hj : 4 * jj + 4 ≤ L) (e : Nat) (he : e < 7) (ln b : Int32) (hb9 : ln < 1 ∨ 9 < ln) (hI : RI D cyI cyZ cyL q q2 o N st v mk w th md w2 f s H) (hS : va_S (A9 s) s.heap H locs) (hl : lv_has ls 9 (LC sb q q2 o jj)) (hx1 : xs (4 * jj + 1) = nI e - 3) (hx2 : xs (4 * jj + 2) = ln) (hx3 : xs (4 * jj + 3) = b)
    (KK : KT p l ev s m args below meth c cells slots Q D cyI cyZ cyL q q2 o sb jj) : W p l ev room_1 s m args below meth c H locs cells slots Q (F0 m 196 ls []) := by
  obtain ⟨⟨hs1, hs2, hs3⟩, ⟨hZ, hZM, hTH, hNC⟩, ⟨hXs, hbl, hL⟩, hsT⟩ := hfx
  obtain ⟨⟨hX, hM, hO⟩, hok, hde, hmk⟩ := hI
  have hN := hok.1
  have ho : ¬ own 10 q o := fun h => (hs1 o h).2.2 rfl
  obtain ⟨hx, hb, hml, hown, hts⟩ := id hF
  refine lv_aload_n hx hb dL_law_196 rfl (lv_at hl 1 rfl) ?_
  refine lv_aload_n hx hb dL_law_197 rfl (lv_at hl 0 rfl) ?_
  refine lv_iload hx hb dL_law_198 (lv_at hl 4 rfl) ?_
  refine lv_iconst (v := 1) hx hb dL_law_200 (by decide) ?_
  refine lv_iadd hx hb dL_law_201 ?_
  refine scr hF hXs hbl hL hS (nIadd (4 * jj) 1) (by omega) hx1 dL_law_202 ?_
  refine lv_aload_n hx hb dL_law_203 rfl (lv_at hl 0 rfl) ?_
  refine lv_iload hx hb dL_law_204 (lv_at hl 4 rfl) ?_
  refine lv_iconst (v := 2) hx hb dL_law_206 (by decide) ?_
  refine lv_iadd hx hb dL_law_207 ?_
  refine scr hF hXs hbl hL hS (nIadd (4 * jj) 2) (by omega) hx2 dL_law_208 ?_
  refine lv_aload_n hx hb dL_law_209 rfl (lv_at hl 0 rfl) ?_
  refine lv_iload hx hb dL_law_210 (lv_at hl 4 rfl) ?_
  refine lv_iconst (v := 3) hx hb dL_law_212 (by decide) ?_
  refine lv_iadd hx hb dL_law_213 ?_
  refine scr hF hXs hbl hL hS (nIadd (4 * jj) 3) (by omega) hx3 dL_law_214 ?_
  refine lv_aload_n hx hb dL_law_215 rfl (lv_at hl 3 rfl) ?_
  refine wSWi (mc := 1) (ms := 6) (X1 := fun (_ : Unit) _ _ => True) (As := [.ref (q 0), .int (nI e - 3), .int ln, .int b, .ref o]) (rest := []) hF (bL_addLeg2 hsT e he ln b hb9) (Wm.and (Wm.and C0.mv.wm TH.wm) NC.mv.wm) (fun _ => Mv.const) ⟨⟨hX, (hTH.kept hS.2.1).narrow (fun _ h => h.elim)⟩, hNC⟩ jyL_addLeg kl_RL_87 ⟨rfl, rfl⟩ ⟨Nat.le_of_ble_eq_true rfl, Nat.le_of_ble_eq_true rfl⟩ rfl hl.1 rfl (Nat.le_of_ble_eq_true rfl) ⟨Nat.le_trans (by omega) hce.1, Nat.le_trans (by omega) hce.2⟩ hS (fun _ _ h => h.elim) (fun _ h => h.elim) dL_law_216 (fun ra ua H locs hp hX9 hz hk hS => ?_)
  have hX := C0.kept hX (fun a ha => hk a (hX.lt ha) (fun h => h))
  have hM := M0.kept hM (fun a ha => hk a (hM.lt ha) (fun h => h))
  have hO := O1.kept hO (hk o hO.lt (fun h => h))
  have hr0 := hp
  rw [hr0]
  refine lv_istore (lv' := [(5, .int 1), (0, .ref sb), (1, .ref (q 0)), (2, .ref (q2 0)), (3, .ref o), (4, .int (nI (4 * jj)))]) hx hb dL_law_219 hl (by decide) rfl (fun ls hl => ?_)
  refine lv_aload_n hx hb dL_law_221 rfl (lv_at hl 3 rfl) ?_
  refine lv_aload_n hx hb dL_law_222 rfl (lv_at hl 1 rfl) ?_
  refine lv_iload hx hb dL_law_223 (lv_at hl 5 rfl) ?_
  refine lv_iconst (v := 1) hx hb dL_law_225 (by decide) ?_
  refine lv_iadd hx hb dL_law_226 ?_
  refine scr hF hXs hbl hL hS (nIadd (4 * jj) 1) (by omega) hx1 dL_law_227 ?_
  refine lv_aload_n hx hb dL_law_228 rfl (lv_at hl 1 rfl) ?_
  refine lv_iload hx hb dL_law_229 (lv_at hl 5 rfl) ?_
  refine lv_iconst (v := 2) hx hb dL_law_231 (by decide) ?_
  refine lv_iadd hx hb dL_law_232 ?_
  refine scr hF hXs hbl hL hS (nIadd (4 * jj) 2) (by omega) hx2 dL_law_233 ?_
  refine lv_aload_n hx hb dL_law_234 rfl (lv_at hl 1 rfl) ?_
  refine lv_iload hx hb dL_law_235 (lv_at hl 5 rfl) ?_
  refine lv_iconst (v := 3) hx hb dL_law_237 (by decide) ?_
  refine lv_iadd hx hb dL_law_238 ?_
  refine scr hF hXs hbl hL hS (nIadd (4 * jj) 3) (by omega) hx3 dL_law_239 ?_
  refine wVi (mc := 0) (ms := 0) (As := [.int (nI e - 3), .int ln, .int b]) (rest := []) hF (nX1_addLeg (nI e - 3) ln b (by rw [isI_lo9 hb9]; simp)) M0.mv (fun _ => M0.mv) hM hM.rc jyX1_addLeg kl_RL_92 ⟨rfl, rfl⟩ ⟨Nat.le_of_ble_eq_true rfl, Nat.le_of_ble_eq_true rfl⟩ rfl hl.1 rfl (Nat.le_of_ble_eq_true rfl) ⟨Nat.le_trans (by omega) hce.1, Nat.le_trans (by omega) hce.2⟩ hS (fun a _ h => (hs2 a h).1) (fun a h => (hs2 a h).1) dL_law_240 (fun rb ub H locs hp hM9 hz hk hS => ?_)
  have hX := C0.kept hX (fun a ha => hk a (hX.lt ha) (hs1 a ha).2.1)
  have hO := O1.kept hO (hk o hO.lt (fun h => (hs2 o h).2 rfl))
  have hM := hM9
  refine lv_istore (lv' := [(6, .int rb), (5, .int 1), (0, .ref sb), (1, .ref (q 0)), (2, .ref (q2 0)), (3, .ref o), (4, .int (nI (4 * jj)))]) hx hb dL_law_243 hl (by decide) rfl (fun ls hl => ?_)
  refine lv_aload_n hx hb dL_law_245 rfl (lv_at hl 4 rfl) ?_
  refine cVi (As := []) (rest := []) hF mX1_thrown M0.mv hM hM.rc jyX1_thrown kl_RL_93 ⟨rfl, rfl⟩ ⟨Nat.le_of_ble_eq_true rfl, Nat.le_of_ble_eq_true rfl⟩ rfl hl.1 rfl (Nat.le_of_ble_eq_true rfl) ⟨Nat.le_trans (by omega) hce.1, Nat.le_trans (by omega) hce.2⟩ dL_law_246 (fun r hr9 => ?_)
  rw [hr9]
  refine lv_iload hx hb dL_law_249 (lv_at hl 1 rfl) ?_
  refine lv_icmp_eq (tgt := 256) hx hb dL_law_251 (by decide) (fun c251 => ?_) (fun c251 => ?_)
  · refine lv_iload hx hb dL_law_256 (lv_at hl 1 rfl) ?_
    refine lv_if_ne (tgt := 273) hx hb dL_law_258 (by decide) (fun c258 => ?_) (fun c258 => ?_)
    · refine lv_goto (tgt := 1666) hx hb dL_law_273 (by decide) ?_
      exact W.widen (by omega) (by omega) (KK N st v mk w 1 md ub f H locs ls ⟨⟨hX, hM, hO⟩, ⟨hok, hde, hmk⟩⟩ hS (lv_sub hl [2, 3, 4, 5, 6] rfl))
    · exact absurd c258 (by decide)
  · exact absurd rfl c251
set_option maxHeartbeats 4000000 in
set_option maxRecDepth 100000 in
theorem k_addLeg_b3 (hF : CallFix p m c cL_law 9 s args wA RL) (hfx : FX l s q q2 o t1 t2 t3 sb L xs) (hce : cells + 20 ≤ 601024 ∧ slots + 150 ≤ 7293034) (hj : 4 * jj + 4 ≤ L) (e : Nat) (he : e < 7) (ln b : Int32) (hl1 : ¬ ln < 1) (hl9 : ln ≤ 9) (hb9 : in10 b = false) (hI : RI D cyI cyZ cyL q q2 o N st v mk w th md w2 f s H) (hS : va_S (A9 s) s.heap H locs) (hl : lv_has ls 9 (LC sb q q2 o jj)) (hx1 : xs (4 * jj + 1) = nI e - 3) (hx2 : xs (4 * jj + 2) = ln) (hx3 : xs (4 * jj + 3) = b)
    (KK : KT p l ev s m args below meth c cells slots Q D cyI cyZ cyL q q2 o sb jj) : W p l ev room_1 s m args below meth c H locs cells slots Q (F0 m 196 ls []) := by
  obtain ⟨⟨hs1, hs2, hs3⟩, ⟨hZ, hZM, hTH, hNC⟩, ⟨hXs, hbl, hL⟩, hsT⟩ := hfx
  obtain ⟨⟨hX, hM, hO⟩, hok, hde, hmk⟩ := hI
  have hN := hok.1
  have ho : ¬ own 10 q o := fun h => (hs1 o h).2.2 rfl
  obtain ⟨hx, hb, hml, hown, hts⟩ := id hF
  refine lv_aload_n hx hb dL_law_196 rfl (lv_at hl 1 rfl) ?_
  refine lv_aload_n hx hb dL_law_197 rfl (lv_at hl 0 rfl) ?_
  refine lv_iload hx hb dL_law_198 (lv_at hl 4 rfl) ?_
  refine lv_iconst (v := 1) hx hb dL_law_200 (by decide) ?_
  refine lv_iadd hx hb dL_law_201 ?_
  refine scr hF hXs hbl hL hS (nIadd (4 * jj) 1) (by omega) hx1 dL_law_202 ?_
  refine lv_aload_n hx hb dL_law_203 rfl (lv_at hl 0 rfl) ?_
  refine lv_iload hx hb dL_law_204 (lv_at hl 4 rfl) ?_
  refine lv_iconst (v := 2) hx hb dL_law_206 (by decide) ?_
  refine lv_iadd hx hb dL_law_207 ?_
  refine scr hF hXs hbl hL hS (nIadd (4 * jj) 2) (by omega) hx2 dL_law_208 ?_
  refine lv_aload_n hx hb dL_law_209 rfl (lv_at hl 0 rfl) ?_
  refine lv_iload hx hb dL_law_210 (lv_at hl 4 rfl) ?_
  refine lv_iconst (v := 3) hx hb dL_law_212 (by decide) ?_
  refine lv_iadd hx hb dL_law_213 ?_
  refine scr hF hXs hbl hL hS (nIadd (4 * jj) 3) (by omega) hx3 dL_law_214 ?_
  refine lv_aload_n hx hb dL_law_215 rfl (lv_at hl 3 rfl) ?_
  refine wSWi (mc := 1) (ms := 6) (X1 := fun (_ : Unit) _ _ => True) (As := [.ref (q 0), .int (nI e - 3), .int ln, .int b, .ref o]) (rest := []) hF (bL_addLeg3 hsT e he ln b hl1 hl9 hb9) (Wm.and (Wm.and C0.mv.wm TH.wm) NC.mv.wm) (fun _ => Mv.const) ⟨⟨hX, (hTH.kept hS.2.1).narrow (fun _ h => h.elim)⟩, hNC⟩ jyL_addLeg kl_RL_87 ⟨rfl, rfl⟩ ⟨Nat.le_of_ble_eq_true rfl, Nat.le_of_ble_eq_true rfl⟩ rfl hl.1 rfl (Nat.le_of_ble_eq_true rfl) ⟨Nat.le_trans (by omega) hce.1, Nat.le_trans (by omega) hce.2⟩ hS (fun _ _ h => h.elim) (fun _ h => h.elim) dL_law_216 (fun ra ua H locs hp hX9 hz hk hS => ?_)
  have hX := C0.kept hX (fun a ha => hk a (hX.lt ha) (fun h => h))
  have hM := M0.kept hM (fun a ha => hk a (hM.lt ha) (fun h => h))
  have hO := O1.kept hO (hk o hO.lt (fun h => h))
  have hr0 := hp
  rw [hr0]
  refine lv_istore (lv' := [(5, .int 1), (0, .ref sb), (1, .ref (q 0)), (2, .ref (q2 0)), (3, .ref o), (4, .int (nI (4 * jj)))]) hx hb dL_law_219 hl (by decide) rfl (fun ls hl => ?_)
  refine lv_aload_n hx hb dL_law_221 rfl (lv_at hl 3 rfl) ?_
  refine lv_aload_n hx hb dL_law_222 rfl (lv_at hl 1 rfl) ?_
  refine lv_iload hx hb dL_law_223 (lv_at hl 5 rfl) ?_
  refine lv_iconst (v := 1) hx hb dL_law_225 (by decide) ?_
  refine lv_iadd hx hb dL_law_226 ?_
  refine scr hF hXs hbl hL hS (nIadd (4 * jj) 1) (by omega) hx1 dL_law_227 ?_
  refine lv_aload_n hx hb dL_law_228 rfl (lv_at hl 1 rfl) ?_
  refine lv_iload hx hb dL_law_229 (lv_at hl 5 rfl) ?_
  refine lv_iconst (v := 2) hx hb dL_law_231 (by decide) ?_
  refine lv_iadd hx hb dL_law_232 ?_
  refine scr hF hXs hbl hL hS (nIadd (4 * jj) 2) (by omega) hx2 dL_law_233 ?_
  refine lv_aload_n hx hb dL_law_234 rfl (lv_at hl 1 rfl) ?_
  refine lv_iload hx hb dL_law_235 (lv_at hl 5 rfl) ?_
  refine lv_iconst (v := 3) hx hb dL_law_237 (by decide) ?_
  refine lv_iadd hx hb dL_law_238 ?_
  refine scr hF hXs hbl hL hS (nIadd (4 * jj) 3) (by omega) hx3 dL_law_239 ?_
  refine wVi (mc := 0) (ms := 0) (As := [.int (nI e - 3), .int ln, .int b]) (rest := []) hF (nX1_addLeg (nI e - 3) ln b (by rw [in10_isI hb9]; simp)) M0.mv (fun _ => M0.mv) hM hM.rc jyX1_addLeg kl_RL_92 ⟨rfl, rfl⟩ ⟨Nat.le_of_ble_eq_true rfl, Nat.le_of_ble_eq_true rfl⟩ rfl hl.1 rfl (Nat.le_of_ble_eq_true rfl) ⟨Nat.le_trans (by omega) hce.1, Nat.le_trans (by omega) hce.2⟩ hS (fun a _ h => (hs2 a h).1) (fun a h => (hs2 a h).1) dL_law_240 (fun rb ub H locs hp hM9 hz hk hS => ?_)
  have hX := C0.kept hX (fun a ha => hk a (hX.lt ha) (hs1 a ha).2.1)
  have hO := O1.kept hO (hk o hO.lt (fun h => (hs2 o h).2 rfl))
  have hM := hM9
  refine lv_istore (lv' := [(6, .int rb), (5, .int 1), (0, .ref sb), (1, .ref (q 0)), (2, .ref (q2 0)), (3, .ref o), (4, .int (nI (4 * jj)))]) hx hb dL_law_243 hl (by decide) rfl (fun ls hl => ?_)
  refine lv_aload_n hx hb dL_law_245 rfl (lv_at hl 4 rfl) ?_
  refine cVi (As := []) (rest := []) hF mX1_thrown M0.mv hM hM.rc jyX1_thrown kl_RL_93 ⟨rfl, rfl⟩ ⟨Nat.le_of_ble_eq_true rfl, Nat.le_of_ble_eq_true rfl⟩ rfl hl.1 rfl (Nat.le_of_ble_eq_true rfl) ⟨Nat.le_trans (by omega) hce.1, Nat.le_trans (by omega) hce.2⟩ dL_law_246 (fun r hr9 => ?_)
  rw [hr9]
  refine lv_iload hx hb dL_law_249 (lv_at hl 1 rfl) ?_
  refine lv_icmp_eq (tgt := 256) hx hb dL_law_251 (by decide) (fun c251 => ?_) (fun c251 => ?_)
  · refine lv_iload hx hb dL_law_256 (lv_at hl 1 rfl) ?_
    refine lv_if_ne (tgt := 273) hx hb dL_law_258 (by decide) (fun c258 => ?_) (fun c258 => ?_)
    · refine lv_goto (tgt := 1666) hx hb dL_law_273 (by decide) ?_
      exact W.widen (by omega) (by omega) (KK N st v mk w 1 md ub f H locs ls ⟨⟨hX, hM, hO⟩, ⟨hok, hde, hmk⟩⟩ hS (lv_sub hl [2, 3, 4, 5, 6] rfl))
    · exact absurd c258 (by decide)
  · exact absurd rfl c251
set_option maxHeartbeats 4000000 in
set_option maxRecDepth 100000 in
theorem k_addLeg_b4 (hF : CallFix p m c cL_law 9 s args wA RL) (hfx : FX l s q q2 o t1 t2 t3 sb L xs) (hce : cells + 20 ≤ 601024 ∧ slots + 150 ≤ 7293034) (hj : 4 * jj + 4 ≤ L) (e : Nat) (he : e < 7) (ln : Int32) (j : Nat) (hl1 : ¬ ln < 1) (hl9 : ln ≤ 9) (hj10 : j < 10) (hI : RI D cyI cyZ cyL q q2 o 16 st v mk w th md w2 f s H) (hS : va_S (A9 s) s.heap H locs) (hl : lv_has ls 9 (LC sb q q2 o jj)) (hx1 : xs (4 * jj + 1) = nI e - 3) (hx2 : xs (4 * jj + 2) = ln) (hx3 : xs (4 * jj + 3) = nI j)
    (KK : KT p l ev s m args below meth c cells slots Q D cyI cyZ cyL q q2 o sb jj) : W p l ev room_1 s m args below meth c H locs cells slots Q (F0 m 196 ls []) := by
  obtain ⟨⟨hs1, hs2, hs3⟩, ⟨hZ, hZM, hTH, hNC⟩, ⟨hXs, hbl, hL⟩, hsT⟩ := hfx
  obtain ⟨⟨hX, hM, hO⟩, hok, hde, hmk⟩ := hI
  have hN := hok.1
  have ho : ¬ own 10 q o := fun h => (hs1 o h).2.2 rfl
  obtain ⟨hx, hb, hml, hown, hts⟩ := id hF
  refine lv_aload_n hx hb dL_law_196 rfl (lv_at hl 1 rfl) ?_
  refine lv_aload_n hx hb dL_law_197 rfl (lv_at hl 0 rfl) ?_
  refine lv_iload hx hb dL_law_198 (lv_at hl 4 rfl) ?_
  refine lv_iconst (v := 1) hx hb dL_law_200 (by decide) ?_
  refine lv_iadd hx hb dL_law_201 ?_
  refine scr hF hXs hbl hL hS (nIadd (4 * jj) 1) (by omega) hx1 dL_law_202 ?_
  refine lv_aload_n hx hb dL_law_203 rfl (lv_at hl 0 rfl) ?_
  refine lv_iload hx hb dL_law_204 (lv_at hl 4 rfl) ?_
  refine lv_iconst (v := 2) hx hb dL_law_206 (by decide) ?_
  refine lv_iadd hx hb dL_law_207 ?_
  refine scr hF hXs hbl hL hS (nIadd (4 * jj) 2) (by omega) hx2 dL_law_208 ?_
  refine lv_aload_n hx hb dL_law_209 rfl (lv_at hl 0 rfl) ?_
  refine lv_iload hx hb dL_law_210 (lv_at hl 4 rfl) ?_
  refine lv_iconst (v := 3) hx hb dL_law_212 (by decide) ?_
  refine lv_iadd hx hb dL_law_213 ?_
  refine scr hF hXs hbl hL hS (nIadd (4 * jj) 3) (by omega) hx3 dL_law_214 ?_
  refine lv_aload_n hx hb dL_law_215 rfl (lv_at hl 3 rfl) ?_
  refine wSWi (mc := 1) (ms := 6) (X1 := fun (_ : Unit) _ _ => True) (As := [.ref (q 0), .int (nI e - 3), .int ln, .int (nI j), .ref o]) (rest := []) hF (bL_addLeg4 hsT e he ln j hl1 hl9 hj10) (Wm.and (Wm.and C0.mv.wm TH.wm) NC.mv.wm) (fun _ => Mv.const) ⟨⟨hX, (hTH.kept hS.2.1).narrow (fun _ h => h.elim)⟩, hNC⟩ jyL_addLeg kl_RL_87 ⟨rfl, rfl⟩ ⟨Nat.le_of_ble_eq_true rfl, Nat.le_of_ble_eq_true rfl⟩ rfl hl.1 rfl (Nat.le_of_ble_eq_true rfl) ⟨Nat.le_trans (by omega) hce.1, Nat.le_trans (by omega) hce.2⟩ hS (fun _ _ h => h.elim) (fun _ h => h.elim) dL_law_216 (fun ra ua H locs hp hX9 hz hk hS => ?_)
  have hX := C0.kept hX (fun a ha => hk a (hX.lt ha) (fun h => h))
  have hM := M0.kept hM (fun a ha => hk a (hM.lt ha) (fun h => h))
  have hO := O1.kept hO (hk o hO.lt (fun h => h))
  have hr0 := hp
  rw [hr0]
  refine lv_istore (lv' := [(5, .int 2), (0, .ref sb), (1, .ref (q 0)), (2, .ref (q2 0)), (3, .ref o), (4, .int (nI (4 * jj)))]) hx hb dL_law_219 hl (by decide) rfl (fun ls hl => ?_)
  refine lv_aload_n hx hb dL_law_221 rfl (lv_at hl 3 rfl) ?_
  refine lv_aload_n hx hb dL_law_222 rfl (lv_at hl 1 rfl) ?_
  refine lv_iload hx hb dL_law_223 (lv_at hl 5 rfl) ?_
  refine lv_iconst (v := 1) hx hb dL_law_225 (by decide) ?_
  refine lv_iadd hx hb dL_law_226 ?_
  refine scr hF hXs hbl hL hS (nIadd (4 * jj) 1) (by omega) hx1 dL_law_227 ?_
  refine lv_aload_n hx hb dL_law_228 rfl (lv_at hl 1 rfl) ?_
  refine lv_iload hx hb dL_law_229 (lv_at hl 5 rfl) ?_
  refine lv_iconst (v := 2) hx hb dL_law_231 (by decide) ?_
  refine lv_iadd hx hb dL_law_232 ?_
  refine scr hF hXs hbl hL hS (nIadd (4 * jj) 2) (by omega) hx2 dL_law_233 ?_
  refine lv_aload_n hx hb dL_law_234 rfl (lv_at hl 1 rfl) ?_
  refine lv_iload hx hb dL_law_235 (lv_at hl 5 rfl) ?_
  refine lv_iconst (v := 3) hx hb dL_law_237 (by decide) ?_
  refine lv_iadd hx hb dL_law_238 ?_
  refine scr hF hXs hbl hL hS (nIadd (4 * jj) 3) (by omega) hx3 dL_law_239 ?_
  refine wVi (mc := 0) (ms := 0) (As := [.int (nI e - 3), .int ln, .int (nI j)]) (rest := []) hF (oX1_addLeg e j ln he (by simp [isI, Int32.not_lt.mp hl1, hl9]) hj10) M0.mv (fun _ => M0.mv) hM hM.rc jyX1_addLeg kl_RL_92 ⟨rfl, rfl⟩ ⟨Nat.le_of_ble_eq_true rfl, Nat.le_of_ble_eq_true rfl⟩ rfl hl.1 rfl (Nat.le_of_ble_eq_true rfl) ⟨Nat.le_trans (by omega) hce.1, Nat.le_trans (by omega) hce.2⟩ hS (fun a _ h => (hs2 a h).1) (fun a h => (hs2 a h).1) dL_law_240 (fun rb ub H locs hp hM9 hz hk hS => ?_)
  have hX := C0.kept hX (fun a ha => hk a (hX.lt ha) (hs1 a ha).2.1)
  have hO := O1.kept hO (hk o hO.lt (fun h => (hs2 o h).2 rfl))
  have hM := hM9
  refine lv_istore (lv' := [(6, .int rb), (5, .int 2), (0, .ref sb), (1, .ref (q 0)), (2, .ref (q2 0)), (3, .ref o), (4, .int (nI (4 * jj)))]) hx hb dL_law_243 hl (by decide) rfl (fun ls hl => ?_)
  refine lv_aload_n hx hb dL_law_245 rfl (lv_at hl 4 rfl) ?_
  refine cVi (As := []) (rest := []) hF mX1_thrown M0.mv hM hM.rc jyX1_thrown kl_RL_93 ⟨rfl, rfl⟩ ⟨Nat.le_of_ble_eq_true rfl, Nat.le_of_ble_eq_true rfl⟩ rfl hl.1 rfl (Nat.le_of_ble_eq_true rfl) ⟨Nat.le_trans (by omega) hce.1, Nat.le_trans (by omega) hce.2⟩ dL_law_246 (fun r hr9 => ?_)
  rw [hr9]
  refine lv_iload hx hb dL_law_249 (lv_at hl 1 rfl) ?_
  refine lv_icmp_eq (tgt := 256) hx hb dL_law_251 (by decide) (fun c251 => ?_) (fun c251 => ?_)
  · refine lv_iload hx hb dL_law_256 (lv_at hl 1 rfl) ?_
    refine lv_if_ne (tgt := 273) hx hb dL_law_258 (by decide) (fun c258 => ?_) (fun c258 => ?_)
    · refine lv_goto (tgt := 1666) hx hb dL_law_273 (by decide) ?_
      exact W.widen (by omega) (by omega) (KK 16 st v mk w 2 md ub f H locs ls ⟨⟨hX, hM, hO⟩, ⟨hok, hde, hmk⟩⟩ hS (lv_sub hl [2, 3, 4, 5, 6] rfl))
    · exact absurd c258 (by decide)
  · exact absurd rfl c251
set_option maxHeartbeats 4000000 in
set_option maxRecDepth 100000 in
theorem k_strikeLeg_g (hF : CallFix p m c cL_law 9 s args wA RL) (hfx : FX l s q q2 o t1 t2 t3 sb L xs) (hce : cells + 20 ≤ 601024 ∧ slots + 150 ≤ 7293034) (hj : 4 * jj + 4 ≤ L) (M : Nat) (hM6 : M < 16) (hI : RI D cyI cyZ cyL q q2 o (M + 1) st v mk w th md w2 f s H) (hS : va_S (A9 s) s.heap H locs) (hl : lv_has ls 9 (LC sb q q2 o jj)) 
    (KK : KT p l ev s m args below meth c cells slots Q D cyI cyZ cyL q q2 o sb jj) : W p l ev room_1 s m args below meth c H locs cells slots Q (F0 m 276 ls []) := by
  obtain ⟨⟨hs1, hs2, hs3⟩, ⟨hZ, hZM, hTH, hNC⟩, ⟨hXs, hbl, hL⟩, hsT⟩ := hfx
  obtain ⟨⟨hX, hM, hO⟩, hok, hde, hmk⟩ := hI
  have hN := hok.1
  have ho : ¬ own 10 q o := fun h => (hs1 o h).2.2 rfl
  obtain ⟨hx, hb, hml, hown, hts⟩ := id hF
  refine lv_aload_n hx hb dL_law_276 rfl (lv_at hl 1 rfl) ?_
  refine lv_aload_n hx hb dL_law_277 rfl (lv_at hl 3 rfl) ?_
  refine wSWi (mc := 0) (ms := 0) (As := [.ref (q 0), .ref o]) (rest := []) hF (gL_strikeLeg M hM6 ho) (Wm.and C0.mv.wm O1.mv.wm) (fun _ => Mv.and C0.mv O1.mv) ⟨hX, hO⟩ jyL_strikeLeg kl_RL_96 ⟨rfl, rfl⟩ ⟨Nat.le_of_ble_eq_true rfl, Nat.le_of_ble_eq_true rfl⟩ rfl hl.1 rfl (Nat.le_of_ble_eq_true rfl) ⟨Nat.le_trans (by omega) hce.1, Nat.le_trans (by omega) hce.2⟩ hS (fun a _ h => h.elim (fun h => (hs1 a h).1) (fun h => by rw [h]; exact hs3)) (fun a h => h.elim (fun h => (hs1 a h).1) (fun h => by rw [h]; exact hs3)) dL_law_278 (fun ra ua H locs hp hX9 hz hk hS => ?_)
  have hM := M0.kept hM (fun a ha => hk a (hM.lt ha) (fun h => h.elim (fun h => (hs1 a h).2.1 ha) (hs2 a ha).2))
  obtain ⟨hX, hO⟩ := hX9
  obtain ⟨hr0, r9, hf0, hq9⟩ := hp
  rw [hq9] at hf0
  rw [hr0]
  refine lv_istore (lv' := [(5, .int 0), (0, .ref sb), (1, .ref (q 0)), (2, .ref (q2 0)), (3, .ref o), (4, .int (nI (4 * jj)))]) hx hb dL_law_281 hl (by decide) rfl (fun ls hl => ?_)
  refine lv_aload_n hx hb dL_law_283 rfl (lv_at hl 3 rfl) ?_
  refine wVi (mc := 0) (ms := 0) (As := []) (rest := []) hF (mX1_strikeLeg M hM6) M0.mv (fun _ => M0.mv) hM hM.rc jyX1_strikeLeg kl_RL_99 ⟨rfl, rfl⟩ ⟨Nat.le_of_ble_eq_true rfl, Nat.le_of_ble_eq_true rfl⟩ rfl hl.1 rfl (Nat.le_of_ble_eq_true rfl) ⟨Nat.le_trans (by omega) hce.1, Nat.le_trans (by omega) hce.2⟩ hS (fun a _ h => (hs2 a h).1) (fun a h => (hs2 a h).1) dL_law_284 (fun rb ub H locs hp hM9 hz hk hS => ?_)
  have hX := C0.kept hX (fun a ha => hk a (hX.lt ha) (hs1 a ha).2.1)
  have hO := O1.kept hO (hk o hO.lt (fun h => (hs2 o h).2 rfl))
  have hM := hM9
  rw [hp]
  refine lv_istore (lv' := [(6, .int (v 2 M)), (5, .int 0), (0, .ref sb), (1, .ref (q 0)), (2, .ref (q2 0)), (3, .ref o), (4, .int (nI (4 * jj)))]) hx hb dL_law_287 hl (by decide) rfl (fun ls hl => ?_)
  refine lv_aload_n hx hb dL_law_289 rfl (lv_at hl 4 rfl) ?_
  refine cVi (As := []) (rest := []) hF mX1_thrown M0.mv hM hM.rc jyX1_thrown kl_RL_93 ⟨rfl, rfl⟩ ⟨Nat.le_of_ble_eq_true rfl, Nat.le_of_ble_eq_true rfl⟩ rfl hl.1 rfl (Nat.le_of_ble_eq_true rfl) ⟨Nat.le_trans (by omega) hce.1, Nat.le_trans (by omega) hce.2⟩ dL_law_290 (fun r hr9 => ?_)
  rw [hr9]
  refine lv_iload hx hb dL_law_293 (lv_at hl 1 rfl) ?_
  refine lv_icmp_eq (tgt := 300) hx hb dL_law_295 (by decide) (fun c295 => ?_) (fun c295 => ?_)
  · refine lv_iload hx hb dL_law_300 (lv_at hl 1 rfl) ?_
    refine lv_if_ne (tgt := 317) hx hb dL_law_302 (by decide) (fun c302 => ?_) (fun c302 => ?_)
    · exact absurd rfl c302
    · refine lv_aload_n hx hb dL_law_305 rfl (lv_at hl 5 rfl) ?_
      refine lv_iconst (v := 0) hx hb dL_law_306 (by decide) ?_
      refine O1.ld hF hO dL_law_307 ?_
      refine topL hf0 ?_
      refine lv_iload hx hb dL_law_308 (lv_at hl 0 rfl) ?_
      refine lv_i2l hx hb dL_law_310 rfl ?_
      refine W.lcmp hx hb dL_law_311 ?_
      refine lv_if_eq (tgt := 317) hx hb dL_law_312 (by decide) (fun c312 => ?_) (fun c312 => ?_)
      · refine lv_goto (tgt := 1666) hx hb dL_law_317 (by decide) ?_
        exact W.widen (by omega) (by omega) (KK M st v mk w 0 (md &&& ((1 <<< (nI M &&& 31)) ^^^ (-1))) ub ua.1 H locs ls ⟨⟨hX, hM, hO⟩, ⟨⟨by omega, hok.2⟩, fun k hk => hde k (by omega), Mk_strike hmk hM6⟩⟩ hS (lv_sub hl [2, 3, 4, 5, 6] rfl))
      · exact absurd ((lg_cmp_eq _ _).mpr rfl) c312
  · exact absurd rfl c295
set_option maxHeartbeats 4000000 in
set_option maxRecDepth 100000 in
theorem k_strikeLeg_b (hF : CallFix p m c cL_law 9 s args wA RL) (hfx : FX l s q q2 o t1 t2 t3 sb L xs) (hce : cells + 20 ≤ 601024 ∧ slots + 150 ≤ 7293034) (hj : 4 * jj + 4 ≤ L)  (hI : RI D cyI cyZ cyL q q2 o 0 st v mk w th md w2 f s H) (hS : va_S (A9 s) s.heap H locs) (hl : lv_has ls 9 (LC sb q q2 o jj)) 
    (KK : KT p l ev s m args below meth c cells slots Q D cyI cyZ cyL q q2 o sb jj) : W p l ev room_1 s m args below meth c H locs cells slots Q (F0 m 276 ls []) := by
  obtain ⟨⟨hs1, hs2, hs3⟩, ⟨hZ, hZM, hTH, hNC⟩, ⟨hXs, hbl, hL⟩, hsT⟩ := hfx
  obtain ⟨⟨hX, hM, hO⟩, hok, hde, hmk⟩ := hI
  have hN := hok.1
  have ho : ¬ own 10 q o := fun h => (hs1 o h).2.2 rfl
  obtain ⟨hx, hb, hml, hown, hts⟩ := id hF
  refine lv_aload_n hx hb dL_law_276 rfl (lv_at hl 1 rfl) ?_
  refine lv_aload_n hx hb dL_law_277 rfl (lv_at hl 3 rfl) ?_
  refine wSWi (mc := 1) (ms := 6) (X1 := fun (_ : Unit) _ _ => True) (As := [.ref (q 0), .ref o]) (rest := []) hF (bL_strikeLeg hsT) (Wm.and (Wm.and C0.mv.wm TH.wm) NC.mv.wm) (fun _ => Mv.const) ⟨⟨hX, (hTH.kept hS.2.1).narrow (fun _ h => h.elim)⟩, hNC⟩ jyL_strikeLeg kl_RL_96 ⟨rfl, rfl⟩ ⟨Nat.le_of_ble_eq_true rfl, Nat.le_of_ble_eq_true rfl⟩ rfl hl.1 rfl (Nat.le_of_ble_eq_true rfl) ⟨Nat.le_trans (by omega) hce.1, Nat.le_trans (by omega) hce.2⟩ hS (fun _ _ h => h.elim) (fun _ h => h.elim) dL_law_278 (fun ra ua H locs hp hX9 hz hk hS => ?_)
  have hX := C0.kept hX (fun a ha => hk a (hX.lt ha) (fun h => h))
  have hM := M0.kept hM (fun a ha => hk a (hM.lt ha) (fun h => h))
  have hO := O1.kept hO (hk o hO.lt (fun h => h))
  have hr0 := hp
  rw [hr0]
  refine lv_istore (lv' := [(5, .int 1), (0, .ref sb), (1, .ref (q 0)), (2, .ref (q2 0)), (3, .ref o), (4, .int (nI (4 * jj)))]) hx hb dL_law_281 hl (by decide) rfl (fun ls hl => ?_)
  refine lv_aload_n hx hb dL_law_283 rfl (lv_at hl 3 rfl) ?_
  refine wVi (mc := 0) (ms := 0) (As := []) (rest := []) hF (nX1_strikeLeg ) M0.mv (fun _ => M0.mv) hM hM.rc jyX1_strikeLeg kl_RL_99 ⟨rfl, rfl⟩ ⟨Nat.le_of_ble_eq_true rfl, Nat.le_of_ble_eq_true rfl⟩ rfl hl.1 rfl (Nat.le_of_ble_eq_true rfl) ⟨Nat.le_trans (by omega) hce.1, Nat.le_trans (by omega) hce.2⟩ hS (fun a _ h => (hs2 a h).1) (fun a h => (hs2 a h).1) dL_law_284 (fun rb ub H locs hp hM9 hz hk hS => ?_)
  have hX := C0.kept hX (fun a ha => hk a (hX.lt ha) (hs1 a ha).2.1)
  have hO := O1.kept hO (hk o hO.lt (fun h => (hs2 o h).2 rfl))
  have hM := hM9
  refine lv_istore (lv' := [(6, .int rb), (5, .int 1), (0, .ref sb), (1, .ref (q 0)), (2, .ref (q2 0)), (3, .ref o), (4, .int (nI (4 * jj)))]) hx hb dL_law_287 hl (by decide) rfl (fun ls hl => ?_)
  refine lv_aload_n hx hb dL_law_289 rfl (lv_at hl 4 rfl) ?_
  refine cVi (As := []) (rest := []) hF mX1_thrown M0.mv hM hM.rc jyX1_thrown kl_RL_93 ⟨rfl, rfl⟩ ⟨Nat.le_of_ble_eq_true rfl, Nat.le_of_ble_eq_true rfl⟩ rfl hl.1 rfl (Nat.le_of_ble_eq_true rfl) ⟨Nat.le_trans (by omega) hce.1, Nat.le_trans (by omega) hce.2⟩ dL_law_290 (fun r hr9 => ?_)
  rw [hr9]
  refine lv_iload hx hb dL_law_293 (lv_at hl 1 rfl) ?_
  refine lv_icmp_eq (tgt := 300) hx hb dL_law_295 (by decide) (fun c295 => ?_) (fun c295 => ?_)
  · refine lv_iload hx hb dL_law_300 (lv_at hl 1 rfl) ?_
    refine lv_if_ne (tgt := 317) hx hb dL_law_302 (by decide) (fun c302 => ?_) (fun c302 => ?_)
    · refine lv_goto (tgt := 1666) hx hb dL_law_317 (by decide) ?_
      exact W.widen (by omega) (by omega) (KK 0 st v mk w 1 md ub f H locs ls ⟨⟨hX, hM, hO⟩, ⟨hok, hde, hmk⟩⟩ hS (lv_sub hl [2, 3, 4, 5, 6] rfl))
    · exact absurd c302 (by decide)
  · exact absurd rfl c295
set_option maxHeartbeats 4000000 in
set_option maxRecDepth 100000 in
theorem k_bend_g (hF : CallFix p m c cL_law 9 s args wA RL) (hfx : FX l s q q2 o t1 t2 t3 sb L xs) (hce : cells + 20 ≤ 601024 ∧ slots + 150 ≤ 7293034) (hj : 4 * jj + 4 ≤ L) (i e : Nat) (hi : i < N) (he : e < 7) (hI : RI D cyI cyZ cyL q q2 o N st v mk w th md w2 f s H) (hS : va_S (A9 s) s.heap H locs) (hl : lv_has ls 9 (LC sb q q2 o jj)) (hx1 : xs (4 * jj + 1) = nI i) (hx2 : xs (4 * jj + 2) = nI e - 3)
    (KK : KT p l ev s m args below meth c cells slots Q D cyI cyZ cyL q q2 o sb jj) : W p l ev room_1 s m args below meth c H locs cells slots Q (F0 m 320 ls []) := by
  obtain ⟨⟨hs1, hs2, hs3⟩, ⟨hZ, hZM, hTH, hNC⟩, ⟨hXs, hbl, hL⟩, hsT⟩ := hfx
  obtain ⟨⟨hX, hM, hO⟩, hok, hde, hmk⟩ := hI
  have hN := hok.1
  have ho : ¬ own 10 q o := fun h => (hs1 o h).2.2 rfl
  obtain ⟨hx, hb, hml, hown, hts⟩ := id hF
  refine lv_aload_n hx hb dL_law_320 rfl (lv_at hl 1 rfl) ?_
  refine lv_aload_n hx hb dL_law_321 rfl (lv_at hl 0 rfl) ?_
  refine lv_iload hx hb dL_law_322 (lv_at hl 4 rfl) ?_
  refine lv_iconst (v := 1) hx hb dL_law_324 (by decide) ?_
  refine lv_iadd hx hb dL_law_325 ?_
  refine scr hF hXs hbl hL hS (nIadd (4 * jj) 1) (by omega) hx1 dL_law_326 ?_
  refine lv_aload_n hx hb dL_law_327 rfl (lv_at hl 0 rfl) ?_
  refine lv_iload hx hb dL_law_328 (lv_at hl 4 rfl) ?_
  refine lv_iconst (v := 2) hx hb dL_law_330 (by decide) ?_
  refine lv_iadd hx hb dL_law_331 ?_
  refine scr hF hXs hbl hL hS (nIadd (4 * jj) 2) (by omega) hx2 dL_law_332 ?_
  refine lv_aload_n hx hb dL_law_333 rfl (lv_at hl 3 rfl) ?_
  refine wSWi (mc := 0) (ms := 0) (As := [.ref (q 0), .int (nI i), .int (nI e - 3), .ref o]) (rest := []) hF (gL_bend hok hde i e hi he ho) (Wm.and (Wm.and C0.mv.wm ST.mv.wm) O1.mv.wm) (fun _ => Mv.and C0.mv O1.mv) ⟨⟨hX, (hZ.kept hS.2.1).narrow (fun a h => (hs1 a h).1)⟩, hO⟩ jyL_bend kl_RL_100 ⟨rfl, rfl⟩ ⟨Nat.le_of_ble_eq_true rfl, Nat.le_of_ble_eq_true rfl⟩ rfl hl.1 rfl (Nat.le_of_ble_eq_true rfl) ⟨Nat.le_trans (by omega) hce.1, Nat.le_trans (by omega) hce.2⟩ hS (fun a _ h => h.elim (fun h => (hs1 a h).1) (fun h => by rw [h]; exact hs3)) (fun a h => h.elim (fun h => (hs1 a h).1) (fun h => by rw [h]; exact hs3)) dL_law_334 (fun ra ua H locs hp hX9 hz hk hS => ?_)
  have hM := M0.kept hM (fun a ha => hk a (hM.lt ha) (fun h => h.elim (fun h => (hs1 a h).2.1 ha) (hs2 a ha).2))
  obtain ⟨hX, hO⟩ := hX9
  obtain ⟨hr0, r9, hf0, hq9⟩ := hp
  rw [hq9.1] at hf0
  rw [hr0]
  refine lv_istore (lv' := [(5, .int 0), (0, .ref sb), (1, .ref (q 0)), (2, .ref (q2 0)), (3, .ref o), (4, .int (nI (4 * jj)))]) hx hb dL_law_337 hl (by decide) rfl (fun ls hl => ?_)
  refine lv_aload_n hx hb dL_law_339 rfl (lv_at hl 3 rfl) ?_
  refine lv_aload_n hx hb dL_law_340 rfl (lv_at hl 1 rfl) ?_
  refine lv_iload hx hb dL_law_341 (lv_at hl 5 rfl) ?_
  refine lv_iconst (v := 1) hx hb dL_law_343 (by decide) ?_
  refine lv_iadd hx hb dL_law_344 ?_
  refine scr hF hXs hbl hL hS (nIadd (4 * jj) 1) (by omega) hx1 dL_law_345 ?_
  refine lv_aload_n hx hb dL_law_346 rfl (lv_at hl 1 rfl) ?_
  refine lv_iload hx hb dL_law_347 (lv_at hl 5 rfl) ?_
  refine lv_iconst (v := 2) hx hb dL_law_349 (by decide) ?_
  refine lv_iadd hx hb dL_law_350 ?_
  refine scr hF hXs hbl hL hS (nIadd (4 * jj) 2) (by omega) hx2 dL_law_351 ?_
  refine wVi (mc := 0) (ms := 0) (As := [.int (nI i), .int (nI e - 3)]) (rest := []) hF (mX1_bend hok i e hi he) M0.mv (fun _ => M0.mv) hM hM.rc jyX1_bend kl_RL_103 ⟨rfl, rfl⟩ ⟨Nat.le_of_ble_eq_true rfl, Nat.le_of_ble_eq_true rfl⟩ rfl hl.1 rfl (Nat.le_of_ble_eq_true rfl) ⟨Nat.le_trans (by omega) hce.1, Nat.le_trans (by omega) hce.2⟩ hS (fun a _ h => (hs2 a h).1) (fun a h => (hs2 a h).1) dL_law_352 (fun rb ub H locs hp hM9 hz hk hS => ?_)
  have hX := C0.kept hX (fun a ha => hk a (hX.lt ha) (hs1 a ha).2.1)
  have hO := O1.kept hO (hk o hO.lt (fun h => (hs2 o h).2 rfl))
  have hM := hM9
  rw [hp]
  refine lv_istore (lv' := [(6, .int (v 0 i)), (5, .int 0), (0, .ref sb), (1, .ref (q 0)), (2, .ref (q2 0)), (3, .ref o), (4, .int (nI (4 * jj)))]) hx hb dL_law_355 hl (by decide) rfl (fun ls hl => ?_)
  refine lv_aload_n hx hb dL_law_357 rfl (lv_at hl 4 rfl) ?_
  refine cVi (As := []) (rest := []) hF mX1_thrown M0.mv hM hM.rc jyX1_thrown kl_RL_93 ⟨rfl, rfl⟩ ⟨Nat.le_of_ble_eq_true rfl, Nat.le_of_ble_eq_true rfl⟩ rfl hl.1 rfl (Nat.le_of_ble_eq_true rfl) ⟨Nat.le_trans (by omega) hce.1, Nat.le_trans (by omega) hce.2⟩ dL_law_358 (fun r hr9 => ?_)
  rw [hr9]
  refine lv_iload hx hb dL_law_361 (lv_at hl 1 rfl) ?_
  refine lv_icmp_eq (tgt := 368) hx hb dL_law_363 (by decide) (fun c363 => ?_) (fun c363 => ?_)
  · refine lv_iload hx hb dL_law_368 (lv_at hl 1 rfl) ?_
    refine lv_if_ne (tgt := 385) hx hb dL_law_370 (by decide) (fun c370 => ?_) (fun c370 => ?_)
    · exact absurd rfl c370
    · refine lv_aload_n hx hb dL_law_373 rfl (lv_at hl 5 rfl) ?_
      refine lv_iconst (v := 0) hx hb dL_law_374 (by decide) ?_
      refine O1.ld hF hO dL_law_375 ?_
      refine topL hf0 ?_
      refine lv_iload hx hb dL_law_376 (lv_at hl 0 rfl) ?_
      refine lv_i2l hx hb dL_law_378 rfl ?_
      refine W.lcmp hx hb dL_law_379 ?_
      refine lv_if_eq (tgt := 385) hx hb dL_law_380 (by decide) (fun c380 => ?_) (fun c380 => ?_)
      · refine lv_goto (tgt := 1666) hx hb dL_law_385 (by decide) ?_
        exact W.widen (by omega) (by omega) (KK N st (va_up v 0 (upd (v 0) i (nI e - 3))) ua.2.1 ua.2.2 0 0 ub ua.1 H locs ls ⟨⟨hX, hM, hO⟩, ⟨bend_ok hok he, hq9.2.2, Mk_zero hq9.2.1⟩⟩ hS (lv_sub hl [2, 3, 4, 5, 6] rfl))
      · exact absurd ((lg_cmp_eq _ _).mpr rfl) c380
  · exact absurd rfl c363
set_option maxHeartbeats 4000000 in
set_option maxRecDepth 100000 in
theorem k_bend_b1 (hF : CallFix p m c cL_law 9 s args wA RL) (hfx : FX l s q q2 o t1 t2 t3 sb L xs) (hce : cells + 20 ≤ 601024 ∧ slots + 150 ≤ 7293034) (hj : 4 * jj + 4 ≤ L) (a : Int32) (hb9 : a < 0 ∨ nI N ≤ a) (b : Int32) (hI : RI D cyI cyZ cyL q q2 o N st v mk w th md w2 f s H) (hS : va_S (A9 s) s.heap H locs) (hl : lv_has ls 9 (LC sb q q2 o jj)) (hx1 : xs (4 * jj + 1) = a) (hx2 : xs (4 * jj + 2) = b)
    (KK : KT p l ev s m args below meth c cells slots Q D cyI cyZ cyL q q2 o sb jj) : W p l ev room_1 s m args below meth c H locs cells slots Q (F0 m 320 ls []) := by
  obtain ⟨⟨hs1, hs2, hs3⟩, ⟨hZ, hZM, hTH, hNC⟩, ⟨hXs, hbl, hL⟩, hsT⟩ := hfx
  obtain ⟨⟨hX, hM, hO⟩, hok, hde, hmk⟩ := hI
  have hN := hok.1
  have ho : ¬ own 10 q o := fun h => (hs1 o h).2.2 rfl
  obtain ⟨hx, hb, hml, hown, hts⟩ := id hF
  refine lv_aload_n hx hb dL_law_320 rfl (lv_at hl 1 rfl) ?_
  refine lv_aload_n hx hb dL_law_321 rfl (lv_at hl 0 rfl) ?_
  refine lv_iload hx hb dL_law_322 (lv_at hl 4 rfl) ?_
  refine lv_iconst (v := 1) hx hb dL_law_324 (by decide) ?_
  refine lv_iadd hx hb dL_law_325 ?_
  refine scr hF hXs hbl hL hS (nIadd (4 * jj) 1) (by omega) hx1 dL_law_326 ?_
  refine lv_aload_n hx hb dL_law_327 rfl (lv_at hl 0 rfl) ?_
  refine lv_iload hx hb dL_law_328 (lv_at hl 4 rfl) ?_
  refine lv_iconst (v := 2) hx hb dL_law_330 (by decide) ?_
  refine lv_iadd hx hb dL_law_331 ?_
  refine scr hF hXs hbl hL hS (nIadd (4 * jj) 2) (by omega) hx2 dL_law_332 ?_
  refine lv_aload_n hx hb dL_law_333 rfl (lv_at hl 3 rfl) ?_
  refine wSWi (mc := 1) (ms := 6) (X1 := fun (_ : Unit) _ _ => True) (As := [.ref (q 0), .int a, .int b, .ref o]) (rest := []) hF (bL_bend1 hsT a hb9 b) (Wm.and (Wm.and C0.mv.wm TH.wm) NC.mv.wm) (fun _ => Mv.const) ⟨⟨hX, (hTH.kept hS.2.1).narrow (fun _ h => h.elim)⟩, hNC⟩ jyL_bend kl_RL_100 ⟨rfl, rfl⟩ ⟨Nat.le_of_ble_eq_true rfl, Nat.le_of_ble_eq_true rfl⟩ rfl hl.1 rfl (Nat.le_of_ble_eq_true rfl) ⟨Nat.le_trans (by omega) hce.1, Nat.le_trans (by omega) hce.2⟩ hS (fun _ _ h => h.elim) (fun _ h => h.elim) dL_law_334 (fun ra ua H locs hp hX9 hz hk hS => ?_)
  have hX := C0.kept hX (fun a ha => hk a (hX.lt ha) (fun h => h))
  have hM := M0.kept hM (fun a ha => hk a (hM.lt ha) (fun h => h))
  have hO := O1.kept hO (hk o hO.lt (fun h => h))
  have hr0 := hp
  rw [hr0]
  refine lv_istore (lv' := [(5, .int 1), (0, .ref sb), (1, .ref (q 0)), (2, .ref (q2 0)), (3, .ref o), (4, .int (nI (4 * jj)))]) hx hb dL_law_337 hl (by decide) rfl (fun ls hl => ?_)
  refine lv_aload_n hx hb dL_law_339 rfl (lv_at hl 3 rfl) ?_
  refine lv_aload_n hx hb dL_law_340 rfl (lv_at hl 1 rfl) ?_
  refine lv_iload hx hb dL_law_341 (lv_at hl 5 rfl) ?_
  refine lv_iconst (v := 1) hx hb dL_law_343 (by decide) ?_
  refine lv_iadd hx hb dL_law_344 ?_
  refine scr hF hXs hbl hL hS (nIadd (4 * jj) 1) (by omega) hx1 dL_law_345 ?_
  refine lv_aload_n hx hb dL_law_346 rfl (lv_at hl 1 rfl) ?_
  refine lv_iload hx hb dL_law_347 (lv_at hl 5 rfl) ?_
  refine lv_iconst (v := 2) hx hb dL_law_349 (by decide) ?_
  refine lv_iadd hx hb dL_law_350 ?_
  refine scr hF hXs hbl hL hS (nIadd (4 * jj) 2) (by omega) hx2 dL_law_351 ?_
  refine wVi (mc := 0) (ms := 0) (As := [.int a, .int b]) (rest := []) hF (nX1_bend a b (legB_f hN hb9)) M0.mv (fun _ => M0.mv) hM hM.rc jyX1_bend kl_RL_103 ⟨rfl, rfl⟩ ⟨Nat.le_of_ble_eq_true rfl, Nat.le_of_ble_eq_true rfl⟩ rfl hl.1 rfl (Nat.le_of_ble_eq_true rfl) ⟨Nat.le_trans (by omega) hce.1, Nat.le_trans (by omega) hce.2⟩ hS (fun a _ h => (hs2 a h).1) (fun a h => (hs2 a h).1) dL_law_352 (fun rb ub H locs hp hM9 hz hk hS => ?_)
  have hX := C0.kept hX (fun a ha => hk a (hX.lt ha) (hs1 a ha).2.1)
  have hO := O1.kept hO (hk o hO.lt (fun h => (hs2 o h).2 rfl))
  have hM := hM9
  refine lv_istore (lv' := [(6, .int rb), (5, .int 1), (0, .ref sb), (1, .ref (q 0)), (2, .ref (q2 0)), (3, .ref o), (4, .int (nI (4 * jj)))]) hx hb dL_law_355 hl (by decide) rfl (fun ls hl => ?_)
  refine lv_aload_n hx hb dL_law_357 rfl (lv_at hl 4 rfl) ?_
  refine cVi (As := []) (rest := []) hF mX1_thrown M0.mv hM hM.rc jyX1_thrown kl_RL_93 ⟨rfl, rfl⟩ ⟨Nat.le_of_ble_eq_true rfl, Nat.le_of_ble_eq_true rfl⟩ rfl hl.1 rfl (Nat.le_of_ble_eq_true rfl) ⟨Nat.le_trans (by omega) hce.1, Nat.le_trans (by omega) hce.2⟩ dL_law_358 (fun r hr9 => ?_)
  rw [hr9]
  refine lv_iload hx hb dL_law_361 (lv_at hl 1 rfl) ?_
  refine lv_icmp_eq (tgt := 368) hx hb dL_law_363 (by decide) (fun c363 => ?_) (fun c363 => ?_)
  · refine lv_iload hx hb dL_law_368 (lv_at hl 1 rfl) ?_
    refine lv_if_ne (tgt := 385) hx hb dL_law_370 (by decide) (fun c370 => ?_) (fun c370 => ?_)
    · refine lv_goto (tgt := 1666) hx hb dL_law_385 (by decide) ?_
      exact W.widen (by omega) (by omega) (KK N st v mk w 1 md ub f H locs ls ⟨⟨hX, hM, hO⟩, ⟨hok, hde, hmk⟩⟩ hS (lv_sub hl [2, 3, 4, 5, 6] rfl))
    · exact absurd c370 (by decide)
  · exact absurd rfl c363
set_option maxHeartbeats 4000000 in
set_option maxRecDepth 100000 in
theorem k_bend_b2 (hF : CallFix p m c cL_law 9 s args wA RL) (hfx : FX l s q q2 o t1 t2 t3 sb L xs) (hce : cells + 20 ≤ 601024 ∧ slots + 150 ≤ 7293034) (hj : 4 * jj + 4 ≤ L) (i : Nat) (hi : i < N) (a : Int32) (hb9 : a < -3 ∨ 3 < a) (hI : RI D cyI cyZ cyL q q2 o N st v mk w th md w2 f s H) (hS : va_S (A9 s) s.heap H locs) (hl : lv_has ls 9 (LC sb q q2 o jj)) (hx1 : xs (4 * jj + 1) = nI i) (hx2 : xs (4 * jj + 2) = a)
    (KK : KT p l ev s m args below meth c cells slots Q D cyI cyZ cyL q q2 o sb jj) : W p l ev room_1 s m args below meth c H locs cells slots Q (F0 m 320 ls []) := by
  obtain ⟨⟨hs1, hs2, hs3⟩, ⟨hZ, hZM, hTH, hNC⟩, ⟨hXs, hbl, hL⟩, hsT⟩ := hfx
  obtain ⟨⟨hX, hM, hO⟩, hok, hde, hmk⟩ := hI
  have hN := hok.1
  have ho : ¬ own 10 q o := fun h => (hs1 o h).2.2 rfl
  obtain ⟨hx, hb, hml, hown, hts⟩ := id hF
  refine lv_aload_n hx hb dL_law_320 rfl (lv_at hl 1 rfl) ?_
  refine lv_aload_n hx hb dL_law_321 rfl (lv_at hl 0 rfl) ?_
  refine lv_iload hx hb dL_law_322 (lv_at hl 4 rfl) ?_
  refine lv_iconst (v := 1) hx hb dL_law_324 (by decide) ?_
  refine lv_iadd hx hb dL_law_325 ?_
  refine scr hF hXs hbl hL hS (nIadd (4 * jj) 1) (by omega) hx1 dL_law_326 ?_
  refine lv_aload_n hx hb dL_law_327 rfl (lv_at hl 0 rfl) ?_
  refine lv_iload hx hb dL_law_328 (lv_at hl 4 rfl) ?_
  refine lv_iconst (v := 2) hx hb dL_law_330 (by decide) ?_
  refine lv_iadd hx hb dL_law_331 ?_
  refine scr hF hXs hbl hL hS (nIadd (4 * jj) 2) (by omega) hx2 dL_law_332 ?_
  refine lv_aload_n hx hb dL_law_333 rfl (lv_at hl 3 rfl) ?_
  refine wSWi (mc := 1) (ms := 6) (X1 := fun (_ : Unit) _ _ => True) (As := [.ref (q 0), .int (nI i), .int a, .ref o]) (rest := []) hF (bL_bend2 hsT i hi hN a hb9) (Wm.and (Wm.and C0.mv.wm TH.wm) NC.mv.wm) (fun _ => Mv.const) ⟨⟨hX, (hTH.kept hS.2.1).narrow (fun _ h => h.elim)⟩, hNC⟩ jyL_bend kl_RL_100 ⟨rfl, rfl⟩ ⟨Nat.le_of_ble_eq_true rfl, Nat.le_of_ble_eq_true rfl⟩ rfl hl.1 rfl (Nat.le_of_ble_eq_true rfl) ⟨Nat.le_trans (by omega) hce.1, Nat.le_trans (by omega) hce.2⟩ hS (fun _ _ h => h.elim) (fun _ h => h.elim) dL_law_334 (fun ra ua H locs hp hX9 hz hk hS => ?_)
  have hX := C0.kept hX (fun a ha => hk a (hX.lt ha) (fun h => h))
  have hM := M0.kept hM (fun a ha => hk a (hM.lt ha) (fun h => h))
  have hO := O1.kept hO (hk o hO.lt (fun h => h))
  have hr0 := hp
  rw [hr0]
  refine lv_istore (lv' := [(5, .int 2), (0, .ref sb), (1, .ref (q 0)), (2, .ref (q2 0)), (3, .ref o), (4, .int (nI (4 * jj)))]) hx hb dL_law_337 hl (by decide) rfl (fun ls hl => ?_)
  refine lv_aload_n hx hb dL_law_339 rfl (lv_at hl 3 rfl) ?_
  refine lv_aload_n hx hb dL_law_340 rfl (lv_at hl 1 rfl) ?_
  refine lv_iload hx hb dL_law_341 (lv_at hl 5 rfl) ?_
  refine lv_iconst (v := 1) hx hb dL_law_343 (by decide) ?_
  refine lv_iadd hx hb dL_law_344 ?_
  refine scr hF hXs hbl hL hS (nIadd (4 * jj) 1) (by omega) hx1 dL_law_345 ?_
  refine lv_aload_n hx hb dL_law_346 rfl (lv_at hl 1 rfl) ?_
  refine lv_iload hx hb dL_law_347 (lv_at hl 5 rfl) ?_
  refine lv_iconst (v := 2) hx hb dL_law_349 (by decide) ?_
  refine lv_iadd hx hb dL_law_350 ?_
  refine scr hF hXs hbl hL hS (nIadd (4 * jj) 2) (by omega) hx2 dL_law_351 ?_
  refine wVi (mc := 0) (ms := 0) (As := [.int (nI i), .int a]) (rest := []) hF (oX1_bend hok i hi a (isI_lo hb9)) M0.mv (fun _ => M0.mv) hM hM.rc jyX1_bend kl_RL_103 ⟨rfl, rfl⟩ ⟨Nat.le_of_ble_eq_true rfl, Nat.le_of_ble_eq_true rfl⟩ rfl hl.1 rfl (Nat.le_of_ble_eq_true rfl) ⟨Nat.le_trans (by omega) hce.1, Nat.le_trans (by omega) hce.2⟩ hS (fun a _ h => (hs2 a h).1) (fun a h => (hs2 a h).1) dL_law_352 (fun rb ub H locs hp hM9 hz hk hS => ?_)
  have hX := C0.kept hX (fun a ha => hk a (hX.lt ha) (hs1 a ha).2.1)
  have hO := O1.kept hO (hk o hO.lt (fun h => (hs2 o h).2 rfl))
  have hM := hM9
  refine lv_istore (lv' := [(6, .int rb), (5, .int 2), (0, .ref sb), (1, .ref (q 0)), (2, .ref (q2 0)), (3, .ref o), (4, .int (nI (4 * jj)))]) hx hb dL_law_355 hl (by decide) rfl (fun ls hl => ?_)
  refine lv_aload_n hx hb dL_law_357 rfl (lv_at hl 4 rfl) ?_
  refine cVi (As := []) (rest := []) hF mX1_thrown M0.mv hM hM.rc jyX1_thrown kl_RL_93 ⟨rfl, rfl⟩ ⟨Nat.le_of_ble_eq_true rfl, Nat.le_of_ble_eq_true rfl⟩ rfl hl.1 rfl (Nat.le_of_ble_eq_true rfl) ⟨Nat.le_trans (by omega) hce.1, Nat.le_trans (by omega) hce.2⟩ dL_law_358 (fun r hr9 => ?_)
  rw [hr9]
  refine lv_iload hx hb dL_law_361 (lv_at hl 1 rfl) ?_
  refine lv_icmp_eq (tgt := 368) hx hb dL_law_363 (by decide) (fun c363 => ?_) (fun c363 => ?_)
  · refine lv_iload hx hb dL_law_368 (lv_at hl 1 rfl) ?_
    refine lv_if_ne (tgt := 385) hx hb dL_law_370 (by decide) (fun c370 => ?_) (fun c370 => ?_)
    · refine lv_goto (tgt := 1666) hx hb dL_law_385 (by decide) ?_
      exact W.widen (by omega) (by omega) (KK N st v mk w 2 md ub f H locs ls ⟨⟨hX, hM, hO⟩, ⟨hok, hde, hmk⟩⟩ hS (lv_sub hl [2, 3, 4, 5, 6] rfl))
    · exact absurd c370 (by decide)
  · exact absurd rfl c363
set_option maxHeartbeats 4000000 in
set_option maxRecDepth 100000 in
theorem k_setWord_g (hF : CallFix p m c cL_law 9 s args wA RL) (hfx : FX l s q q2 o t1 t2 t3 sb L xs) (hce : cells + 20 ≤ 601024 ∧ slots + 150 ≤ 7293034) (hj : 4 * jj + 4 ≤ L) (j x : Nat) (hj10 : j < 10) (hx10 : x < 10) (hI : RI D cyI cyZ cyL q q2 o N st v mk w th md w2 f s H) (hS : va_S (A9 s) s.heap H locs) (hl : lv_has ls 9 (LC sb q q2 o jj)) (hx1 : xs (4 * jj + 1) = nI j) (hx2 : xs (4 * jj + 2) = nI x)
    (KK : KT p l ev s m args below meth c cells slots Q D cyI cyZ cyL q q2 o sb jj) : W p l ev room_1 s m args below meth c H locs cells slots Q (F0 m 388 ls []) := by
  obtain ⟨⟨hs1, hs2, hs3⟩, ⟨hZ, hZM, hTH, hNC⟩, ⟨hXs, hbl, hL⟩, hsT⟩ := hfx
  obtain ⟨⟨hX, hM, hO⟩, hok, hde, hmk⟩ := hI
  have hN := hok.1
  have ho : ¬ own 10 q o := fun h => (hs1 o h).2.2 rfl
  obtain ⟨hx, hb, hml, hown, hts⟩ := id hF
  refine lv_aload_n hx hb dL_law_388 rfl (lv_at hl 1 rfl) ?_
  refine lv_aload_n hx hb dL_law_389 rfl (lv_at hl 0 rfl) ?_
  refine lv_iload hx hb dL_law_390 (lv_at hl 4 rfl) ?_
  refine lv_iconst (v := 1) hx hb dL_law_392 (by decide) ?_
  refine lv_iadd hx hb dL_law_393 ?_
  refine scr hF hXs hbl hL hS (nIadd (4 * jj) 1) (by omega) hx1 dL_law_394 ?_
  refine lv_aload_n hx hb dL_law_395 rfl (lv_at hl 0 rfl) ?_
  refine lv_iload hx hb dL_law_396 (lv_at hl 4 rfl) ?_
  refine lv_iconst (v := 2) hx hb dL_law_398 (by decide) ?_
  refine lv_iadd hx hb dL_law_399 ?_
  refine scr hF hXs hbl hL hS (nIadd (4 * jj) 2) (by omega) hx2 dL_law_400 ?_
  refine lv_aload_n hx hb dL_law_401 rfl (lv_at hl 3 rfl) ?_
  refine wSWi (mc := 0) (ms := 0) (As := [.ref (q 0), .int (nI j), .int (nI x), .ref o]) (rest := []) hF (gL_setWord hN j x hj10 hx10 ho) (Wm.and C0.mv.wm O1.mv.wm) (fun _ => Mv.and C0.mv O1.mv) ⟨hX, hO⟩ jyL_setWord kl_RL_104 ⟨rfl, rfl⟩ ⟨Nat.le_of_ble_eq_true rfl, Nat.le_of_ble_eq_true rfl⟩ rfl hl.1 rfl (Nat.le_of_ble_eq_true rfl) ⟨Nat.le_trans (by omega) hce.1, Nat.le_trans (by omega) hce.2⟩ hS (fun a _ h => h.elim (fun h => (hs1 a h).1) (fun h => by rw [h]; exact hs3)) (fun a h => h.elim (fun h => (hs1 a h).1) (fun h => by rw [h]; exact hs3)) dL_law_402 (fun ra ua H locs hp hX9 hz hk hS => ?_)
  have hM := M0.kept hM (fun a ha => hk a (hM.lt ha) (fun h => h.elim (fun h => (hs1 a h).2.1 ha) (hs2 a ha).2))
  obtain ⟨hX, hO⟩ := hX9
  obtain ⟨hr0, r9, hf0, hq9⟩ := hp
  rw [hq9.1] at hf0
  rw [hr0]
  refine lv_istore (lv' := [(5, .int 0), (0, .ref sb), (1, .ref (q 0)), (2, .ref (q2 0)), (3, .ref o), (4, .int (nI (4 * jj)))]) hx hb dL_law_405 hl (by decide) rfl (fun ls hl => ?_)
  refine lv_aload_n hx hb dL_law_407 rfl (lv_at hl 3 rfl) ?_
  refine lv_aload_n hx hb dL_law_408 rfl (lv_at hl 1 rfl) ?_
  refine lv_iload hx hb dL_law_409 (lv_at hl 5 rfl) ?_
  refine lv_iconst (v := 1) hx hb dL_law_411 (by decide) ?_
  refine lv_iadd hx hb dL_law_412 ?_
  refine scr hF hXs hbl hL hS (nIadd (4 * jj) 1) (by omega) hx1 dL_law_413 ?_
  refine lv_aload_n hx hb dL_law_414 rfl (lv_at hl 1 rfl) ?_
  refine lv_iload hx hb dL_law_415 (lv_at hl 5 rfl) ?_
  refine lv_iconst (v := 2) hx hb dL_law_417 (by decide) ?_
  refine lv_iadd hx hb dL_law_418 ?_
  refine scr hF hXs hbl hL hS (nIadd (4 * jj) 2) (by omega) hx2 dL_law_419 ?_
  refine wVi (mc := 0) (ms := 0) (As := [.int (nI j), .int (nI x)]) (rest := []) hF (mX1_setWord j x hj10 hx10) M0.mv (fun _ => M0.mv) hM hM.rc jyX1_setWord kl_RL_106 ⟨rfl, rfl⟩ ⟨Nat.le_of_ble_eq_true rfl, Nat.le_of_ble_eq_true rfl⟩ rfl hl.1 rfl (Nat.le_of_ble_eq_true rfl) ⟨Nat.le_trans (by omega) hce.1, Nat.le_trans (by omega) hce.2⟩ hS (fun a _ h => (hs2 a h).1) (fun a h => (hs2 a h).1) dL_law_420 (fun rb ub H locs hp hM9 hz hk hS => ?_)
  have hX := C0.kept hX (fun a ha => hk a (hX.lt ha) (hs1 a ha).2.1)
  have hO := O1.kept hO (hk o hO.lt (fun h => (hs2 o h).2 rfl))
  have hM := hM9
  rw [hp]
  refine lv_istore (lv' := [(6, .int (v 3 j)), (5, .int 0), (0, .ref sb), (1, .ref (q 0)), (2, .ref (q2 0)), (3, .ref o), (4, .int (nI (4 * jj)))]) hx hb dL_law_423 hl (by decide) rfl (fun ls hl => ?_)
  refine lv_aload_n hx hb dL_law_425 rfl (lv_at hl 4 rfl) ?_
  refine cVi (As := []) (rest := []) hF mX1_thrown M0.mv hM hM.rc jyX1_thrown kl_RL_93 ⟨rfl, rfl⟩ ⟨Nat.le_of_ble_eq_true rfl, Nat.le_of_ble_eq_true rfl⟩ rfl hl.1 rfl (Nat.le_of_ble_eq_true rfl) ⟨Nat.le_trans (by omega) hce.1, Nat.le_trans (by omega) hce.2⟩ dL_law_426 (fun r hr9 => ?_)
  rw [hr9]
  refine lv_iload hx hb dL_law_429 (lv_at hl 1 rfl) ?_
  refine lv_icmp_eq (tgt := 436) hx hb dL_law_431 (by decide) (fun c431 => ?_) (fun c431 => ?_)
  · refine lv_iload hx hb dL_law_436 (lv_at hl 1 rfl) ?_
    refine lv_if_ne (tgt := 453) hx hb dL_law_438 (by decide) (fun c438 => ?_) (fun c438 => ?_)
    · exact absurd rfl c438
    · refine lv_aload_n hx hb dL_law_441 rfl (lv_at hl 5 rfl) ?_
      refine lv_iconst (v := 0) hx hb dL_law_442 (by decide) ?_
      refine O1.ld hF hO dL_law_443 ?_
      refine topL hf0 ?_
      refine lv_iload hx hb dL_law_444 (lv_at hl 0 rfl) ?_
      refine lv_i2l hx hb dL_law_446 rfl ?_
      refine W.lcmp hx hb dL_law_447 ?_
      refine lv_if_eq (tgt := 453) hx hb dL_law_448 (by decide) (fun c448 => ?_) (fun c448 => ?_)
      · refine lv_goto (tgt := 1666) hx hb dL_law_453 (by decide) ?_
        exact W.widen (by omega) (by omega) (KK N st (va_up v 3 (upd (v 3) j (nI x))) ua.2 w 0 0 ub ua.1 H locs ls ⟨⟨hX, hM, hO⟩, ⟨word_ok hok, word_der hde, Mk_zero hq9.2⟩⟩ hS (lv_sub hl [2, 3, 4, 5, 6] rfl))
      · exact absurd ((lg_cmp_eq _ _).mpr rfl) c448
  · exact absurd rfl c431
set_option maxHeartbeats 4000000 in
set_option maxRecDepth 100000 in
theorem k_setWord_b1 (hF : CallFix p m c cL_law 9 s args wA RL) (hfx : FX l s q q2 o t1 t2 t3 sb L xs) (hce : cells + 20 ≤ 601024 ∧ slots + 150 ≤ 7293034) (hj : 4 * jj + 4 ≤ L) (a b : Int32) (hb9 : in10 a = false) (hI : RI D cyI cyZ cyL q q2 o N st v mk w th md w2 f s H) (hS : va_S (A9 s) s.heap H locs) (hl : lv_has ls 9 (LC sb q q2 o jj)) (hx1 : xs (4 * jj + 1) = a) (hx2 : xs (4 * jj + 2) = b)
    (KK : KT p l ev s m args below meth c cells slots Q D cyI cyZ cyL q q2 o sb jj) : W p l ev room_1 s m args below meth c H locs cells slots Q (F0 m 388 ls []) := by
  obtain ⟨⟨hs1, hs2, hs3⟩, ⟨hZ, hZM, hTH, hNC⟩, ⟨hXs, hbl, hL⟩, hsT⟩ := hfx
  obtain ⟨⟨hX, hM, hO⟩, hok, hde, hmk⟩ := hI
  have hN := hok.1
  have ho : ¬ own 10 q o := fun h => (hs1 o h).2.2 rfl
  obtain ⟨hx, hb, hml, hown, hts⟩ := id hF
  refine lv_aload_n hx hb dL_law_388 rfl (lv_at hl 1 rfl) ?_
  refine lv_aload_n hx hb dL_law_389 rfl (lv_at hl 0 rfl) ?_
  refine lv_iload hx hb dL_law_390 (lv_at hl 4 rfl) ?_
  refine lv_iconst (v := 1) hx hb dL_law_392 (by decide) ?_
  refine lv_iadd hx hb dL_law_393 ?_
  refine scr hF hXs hbl hL hS (nIadd (4 * jj) 1) (by omega) hx1 dL_law_394 ?_
  refine lv_aload_n hx hb dL_law_395 rfl (lv_at hl 0 rfl) ?_
  refine lv_iload hx hb dL_law_396 (lv_at hl 4 rfl) ?_
  refine lv_iconst (v := 2) hx hb dL_law_398 (by decide) ?_
  refine lv_iadd hx hb dL_law_399 ?_
  refine scr hF hXs hbl hL hS (nIadd (4 * jj) 2) (by omega) hx2 dL_law_400 ?_
  refine lv_aload_n hx hb dL_law_401 rfl (lv_at hl 3 rfl) ?_
  refine wSWi (mc := 1) (ms := 6) (X1 := fun (_ : Unit) _ _ => True) (As := [.ref (q 0), .int a, .int b, .ref o]) (rest := []) hF (bL_setWord1 hsT a b hb9) (Wm.and (Wm.and C0.mv.wm TH.wm) NC.mv.wm) (fun _ => Mv.const) ⟨⟨hX, (hTH.kept hS.2.1).narrow (fun _ h => h.elim)⟩, hNC⟩ jyL_setWord kl_RL_104 ⟨rfl, rfl⟩ ⟨Nat.le_of_ble_eq_true rfl, Nat.le_of_ble_eq_true rfl⟩ rfl hl.1 rfl (Nat.le_of_ble_eq_true rfl) ⟨Nat.le_trans (by omega) hce.1, Nat.le_trans (by omega) hce.2⟩ hS (fun _ _ h => h.elim) (fun _ h => h.elim) dL_law_402 (fun ra ua H locs hp hX9 hz hk hS => ?_)
  have hX := C0.kept hX (fun a ha => hk a (hX.lt ha) (fun h => h))
  have hM := M0.kept hM (fun a ha => hk a (hM.lt ha) (fun h => h))
  have hO := O1.kept hO (hk o hO.lt (fun h => h))
  have hr0 := hp
  rw [hr0]
  refine lv_istore (lv' := [(5, .int 1), (0, .ref sb), (1, .ref (q 0)), (2, .ref (q2 0)), (3, .ref o), (4, .int (nI (4 * jj)))]) hx hb dL_law_405 hl (by decide) rfl (fun ls hl => ?_)
  refine lv_aload_n hx hb dL_law_407 rfl (lv_at hl 3 rfl) ?_
  refine lv_aload_n hx hb dL_law_408 rfl (lv_at hl 1 rfl) ?_
  refine lv_iload hx hb dL_law_409 (lv_at hl 5 rfl) ?_
  refine lv_iconst (v := 1) hx hb dL_law_411 (by decide) ?_
  refine lv_iadd hx hb dL_law_412 ?_
  refine scr hF hXs hbl hL hS (nIadd (4 * jj) 1) (by omega) hx1 dL_law_413 ?_
  refine lv_aload_n hx hb dL_law_414 rfl (lv_at hl 1 rfl) ?_
  refine lv_iload hx hb dL_law_415 (lv_at hl 5 rfl) ?_
  refine lv_iconst (v := 2) hx hb dL_law_417 (by decide) ?_
  refine lv_iadd hx hb dL_law_418 ?_
  refine scr hF hXs hbl hL hS (nIadd (4 * jj) 2) (by omega) hx2 dL_law_419 ?_
  refine wVi (mc := 0) (ms := 0) (As := [.int a, .int b]) (rest := []) hF (nX1_setWord a b (in10_isI hb9)) M0.mv (fun _ => M0.mv) hM hM.rc jyX1_setWord kl_RL_106 ⟨rfl, rfl⟩ ⟨Nat.le_of_ble_eq_true rfl, Nat.le_of_ble_eq_true rfl⟩ rfl hl.1 rfl (Nat.le_of_ble_eq_true rfl) ⟨Nat.le_trans (by omega) hce.1, Nat.le_trans (by omega) hce.2⟩ hS (fun a _ h => (hs2 a h).1) (fun a h => (hs2 a h).1) dL_law_420 (fun rb ub H locs hp hM9 hz hk hS => ?_)
  have hX := C0.kept hX (fun a ha => hk a (hX.lt ha) (hs1 a ha).2.1)
  have hO := O1.kept hO (hk o hO.lt (fun h => (hs2 o h).2 rfl))
  have hM := hM9
  refine lv_istore (lv' := [(6, .int rb), (5, .int 1), (0, .ref sb), (1, .ref (q 0)), (2, .ref (q2 0)), (3, .ref o), (4, .int (nI (4 * jj)))]) hx hb dL_law_423 hl (by decide) rfl (fun ls hl => ?_)
  refine lv_aload_n hx hb dL_law_425 rfl (lv_at hl 4 rfl) ?_
  refine cVi (As := []) (rest := []) hF mX1_thrown M0.mv hM hM.rc jyX1_thrown kl_RL_93 ⟨rfl, rfl⟩ ⟨Nat.le_of_ble_eq_true rfl, Nat.le_of_ble_eq_true rfl⟩ rfl hl.1 rfl (Nat.le_of_ble_eq_true rfl) ⟨Nat.le_trans (by omega) hce.1, Nat.le_trans (by omega) hce.2⟩ dL_law_426 (fun r hr9 => ?_)
  rw [hr9]
  refine lv_iload hx hb dL_law_429 (lv_at hl 1 rfl) ?_
  refine lv_icmp_eq (tgt := 436) hx hb dL_law_431 (by decide) (fun c431 => ?_) (fun c431 => ?_)
  · refine lv_iload hx hb dL_law_436 (lv_at hl 1 rfl) ?_
    refine lv_if_ne (tgt := 453) hx hb dL_law_438 (by decide) (fun c438 => ?_) (fun c438 => ?_)
    · refine lv_goto (tgt := 1666) hx hb dL_law_453 (by decide) ?_
      exact W.widen (by omega) (by omega) (KK N st v mk w 1 md ub f H locs ls ⟨⟨hX, hM, hO⟩, ⟨hok, hde, hmk⟩⟩ hS (lv_sub hl [2, 3, 4, 5, 6] rfl))
    · exact absurd c438 (by decide)
  · exact absurd rfl c431
set_option maxHeartbeats 4000000 in
set_option maxRecDepth 100000 in
theorem k_setWord_b2 (hF : CallFix p m c cL_law 9 s args wA RL) (hfx : FX l s q q2 o t1 t2 t3 sb L xs) (hce : cells + 20 ≤ 601024 ∧ slots + 150 ≤ 7293034) (hj : 4 * jj + 4 ≤ L) (j : Nat) (hj10 : j < 10) (b : Int32) (hb9 : in10 b = false) (hI : RI D cyI cyZ cyL q q2 o N st v mk w th md w2 f s H) (hS : va_S (A9 s) s.heap H locs) (hl : lv_has ls 9 (LC sb q q2 o jj)) (hx1 : xs (4 * jj + 1) = nI j) (hx2 : xs (4 * jj + 2) = b)
    (KK : KT p l ev s m args below meth c cells slots Q D cyI cyZ cyL q q2 o sb jj) : W p l ev room_1 s m args below meth c H locs cells slots Q (F0 m 388 ls []) := by
  obtain ⟨⟨hs1, hs2, hs3⟩, ⟨hZ, hZM, hTH, hNC⟩, ⟨hXs, hbl, hL⟩, hsT⟩ := hfx
  obtain ⟨⟨hX, hM, hO⟩, hok, hde, hmk⟩ := hI
  have hN := hok.1
  have ho : ¬ own 10 q o := fun h => (hs1 o h).2.2 rfl
  obtain ⟨hx, hb, hml, hown, hts⟩ := id hF
  refine lv_aload_n hx hb dL_law_388 rfl (lv_at hl 1 rfl) ?_
  refine lv_aload_n hx hb dL_law_389 rfl (lv_at hl 0 rfl) ?_
  refine lv_iload hx hb dL_law_390 (lv_at hl 4 rfl) ?_
  refine lv_iconst (v := 1) hx hb dL_law_392 (by decide) ?_
  refine lv_iadd hx hb dL_law_393 ?_
  refine scr hF hXs hbl hL hS (nIadd (4 * jj) 1) (by omega) hx1 dL_law_394 ?_
  refine lv_aload_n hx hb dL_law_395 rfl (lv_at hl 0 rfl) ?_
  refine lv_iload hx hb dL_law_396 (lv_at hl 4 rfl) ?_
  refine lv_iconst (v := 2) hx hb dL_law_398 (by decide) ?_
  refine lv_iadd hx hb dL_law_399 ?_
  refine scr hF hXs hbl hL hS (nIadd (4 * jj) 2) (by omega) hx2 dL_law_400 ?_
  refine lv_aload_n hx hb dL_law_401 rfl (lv_at hl 3 rfl) ?_
  refine wSWi (mc := 1) (ms := 6) (X1 := fun (_ : Unit) _ _ => True) (As := [.ref (q 0), .int (nI j), .int b, .ref o]) (rest := []) hF (bL_setWord2 hsT j hj10 b hb9) (Wm.and (Wm.and C0.mv.wm TH.wm) NC.mv.wm) (fun _ => Mv.const) ⟨⟨hX, (hTH.kept hS.2.1).narrow (fun _ h => h.elim)⟩, hNC⟩ jyL_setWord kl_RL_104 ⟨rfl, rfl⟩ ⟨Nat.le_of_ble_eq_true rfl, Nat.le_of_ble_eq_true rfl⟩ rfl hl.1 rfl (Nat.le_of_ble_eq_true rfl) ⟨Nat.le_trans (by omega) hce.1, Nat.le_trans (by omega) hce.2⟩ hS (fun _ _ h => h.elim) (fun _ h => h.elim) dL_law_402 (fun ra ua H locs hp hX9 hz hk hS => ?_)
  have hX := C0.kept hX (fun a ha => hk a (hX.lt ha) (fun h => h))
  have hM := M0.kept hM (fun a ha => hk a (hM.lt ha) (fun h => h))
  have hO := O1.kept hO (hk o hO.lt (fun h => h))
  have hr0 := hp
  rw [hr0]
  refine lv_istore (lv' := [(5, .int 2), (0, .ref sb), (1, .ref (q 0)), (2, .ref (q2 0)), (3, .ref o), (4, .int (nI (4 * jj)))]) hx hb dL_law_405 hl (by decide) rfl (fun ls hl => ?_)
  refine lv_aload_n hx hb dL_law_407 rfl (lv_at hl 3 rfl) ?_
  refine lv_aload_n hx hb dL_law_408 rfl (lv_at hl 1 rfl) ?_
  refine lv_iload hx hb dL_law_409 (lv_at hl 5 rfl) ?_
  refine lv_iconst (v := 1) hx hb dL_law_411 (by decide) ?_
  refine lv_iadd hx hb dL_law_412 ?_
  refine scr hF hXs hbl hL hS (nIadd (4 * jj) 1) (by omega) hx1 dL_law_413 ?_
  refine lv_aload_n hx hb dL_law_414 rfl (lv_at hl 1 rfl) ?_
  refine lv_iload hx hb dL_law_415 (lv_at hl 5 rfl) ?_
  refine lv_iconst (v := 2) hx hb dL_law_417 (by decide) ?_
  refine lv_iadd hx hb dL_law_418 ?_
  refine scr hF hXs hbl hL hS (nIadd (4 * jj) 2) (by omega) hx2 dL_law_419 ?_
  refine wVi (mc := 0) (ms := 0) (As := [.int (nI j), .int b]) (rest := []) hF (oX1_setWord j hj10 b (in10_isI hb9)) M0.mv (fun _ => M0.mv) hM hM.rc jyX1_setWord kl_RL_106 ⟨rfl, rfl⟩ ⟨Nat.le_of_ble_eq_true rfl, Nat.le_of_ble_eq_true rfl⟩ rfl hl.1 rfl (Nat.le_of_ble_eq_true rfl) ⟨Nat.le_trans (by omega) hce.1, Nat.le_trans (by omega) hce.2⟩ hS (fun a _ h => (hs2 a h).1) (fun a h => (hs2 a h).1) dL_law_420 (fun rb ub H locs hp hM9 hz hk hS => ?_)
  have hX := C0.kept hX (fun a ha => hk a (hX.lt ha) (hs1 a ha).2.1)
  have hO := O1.kept hO (hk o hO.lt (fun h => (hs2 o h).2 rfl))
  have hM := hM9
  refine lv_istore (lv' := [(6, .int rb), (5, .int 2), (0, .ref sb), (1, .ref (q 0)), (2, .ref (q2 0)), (3, .ref o), (4, .int (nI (4 * jj)))]) hx hb dL_law_423 hl (by decide) rfl (fun ls hl => ?_)
  refine lv_aload_n hx hb dL_law_425 rfl (lv_at hl 4 rfl) ?_
  refine cVi (As := []) (rest := []) hF mX1_thrown M0.mv hM hM.rc jyX1_thrown kl_RL_93 ⟨rfl, rfl⟩ ⟨Nat.le_of_ble_eq_true rfl, Nat.le_of_ble_eq_true rfl⟩ rfl hl.1 rfl (Nat.le_of_ble_eq_true rfl) ⟨Nat.le_trans (by omega) hce.1, Nat.le_trans (by omega) hce.2⟩ dL_law_426 (fun r hr9 => ?_)
  rw [hr9]
  refine lv_iload hx hb dL_law_429 (lv_at hl 1 rfl) ?_
  refine lv_icmp_eq (tgt := 436) hx hb dL_law_431 (by decide) (fun c431 => ?_) (fun c431 => ?_)
  · refine lv_iload hx hb dL_law_436 (lv_at hl 1 rfl) ?_
    refine lv_if_ne (tgt := 453) hx hb dL_law_438 (by decide) (fun c438 => ?_) (fun c438 => ?_)
    · refine lv_goto (tgt := 1666) hx hb dL_law_453 (by decide) ?_
      exact W.widen (by omega) (by omega) (KK N st v mk w 2 md ub f H locs ls ⟨⟨hX, hM, hO⟩, ⟨hok, hde, hmk⟩⟩ hS (lv_sub hl [2, 3, 4, 5, 6] rfl))
    · exact absurd c438 (by decide)
  · exact absurd rfl c431
set_option maxHeartbeats 4000000 in
set_option maxRecDepth 100000 in
theorem k_setStep_g (hF : CallFix p m c cL_law 9 s args wA RL) (hfx : FX l s q q2 o t1 t2 t3 sb L xs) (hce : cells + 20 ≤ 601024 ∧ slots + 150 ≤ 7293034) (hj : 4 * jj + 4 ≤ L) (x : Nat) (hx4 : x < 4) (hI : RI D cyI cyZ cyL q q2 o N st v mk w th md w2 f s H) (hS : va_S (A9 s) s.heap H locs) (hl : lv_has ls 9 (LC sb q q2 o jj)) (hx1 : xs (4 * jj + 1) = nI (x + 1))
    (KK : KT p l ev s m args below meth c cells slots Q D cyI cyZ cyL q q2 o sb jj) : W p l ev room_1 s m args below meth c H locs cells slots Q (F0 m 456 ls []) := by
  obtain ⟨⟨hs1, hs2, hs3⟩, ⟨hZ, hZM, hTH, hNC⟩, ⟨hXs, hbl, hL⟩, hsT⟩ := hfx
  obtain ⟨⟨hX, hM, hO⟩, hok, hde, hmk⟩ := hI
  have hN := hok.1
  have ho : ¬ own 10 q o := fun h => (hs1 o h).2.2 rfl
  obtain ⟨hx, hb, hml, hown, hts⟩ := id hF
  refine lv_aload_n hx hb dL_law_456 rfl (lv_at hl 1 rfl) ?_
  refine lv_aload_n hx hb dL_law_457 rfl (lv_at hl 0 rfl) ?_
  refine lv_iload hx hb dL_law_458 (lv_at hl 4 rfl) ?_
  refine lv_iconst (v := 1) hx hb dL_law_460 (by decide) ?_
  refine lv_iadd hx hb dL_law_461 ?_
  refine scr hF hXs hbl hL hS (nIadd (4 * jj) 1) (by omega) hx1 dL_law_462 ?_
  refine lv_aload_n hx hb dL_law_463 rfl (lv_at hl 3 rfl) ?_
  refine wSWi (mc := 0) (ms := 0) (As := [.ref (q 0), .int (nI (x + 1)), .ref o]) (rest := []) hF (gL_setStep hok x hx4 ho) (Wm.and (Wm.and C0.mv.wm ST.mv.wm) O1.mv.wm) (fun _ => Mv.and C0.mv O1.mv) ⟨⟨hX, (hZ.kept hS.2.1).narrow (fun a h => (hs1 a h).1)⟩, hO⟩ jyL_setStep kl_RL_107 ⟨rfl, rfl⟩ ⟨Nat.le_of_ble_eq_true rfl, Nat.le_of_ble_eq_true rfl⟩ rfl hl.1 rfl (Nat.le_of_ble_eq_true rfl) ⟨Nat.le_trans (by omega) hce.1, Nat.le_trans (by omega) hce.2⟩ hS (fun a _ h => h.elim (fun h => (hs1 a h).1) (fun h => by rw [h]; exact hs3)) (fun a h => h.elim (fun h => (hs1 a h).1) (fun h => by rw [h]; exact hs3)) dL_law_464 (fun ra ua H locs hp hX9 hz hk hS => ?_)
  have hM := M0.kept hM (fun a ha => hk a (hM.lt ha) (fun h => h.elim (fun h => (hs1 a h).2.1 ha) (hs2 a ha).2))
  obtain ⟨hX, hO⟩ := hX9
  obtain ⟨hr0, r9, hf0, hq9⟩ := hp
  rw [hq9.1] at hf0
  rw [hr0]
  refine lv_istore (lv' := [(5, .int 0), (0, .ref sb), (1, .ref (q 0)), (2, .ref (q2 0)), (3, .ref o), (4, .int (nI (4 * jj)))]) hx hb dL_law_467 hl (by decide) rfl (fun ls hl => ?_)
  refine lv_aload_n hx hb dL_law_469 rfl (lv_at hl 3 rfl) ?_
  refine lv_aload_n hx hb dL_law_470 rfl (lv_at hl 1 rfl) ?_
  refine lv_iload hx hb dL_law_471 (lv_at hl 5 rfl) ?_
  refine lv_iconst (v := 1) hx hb dL_law_473 (by decide) ?_
  refine lv_iadd hx hb dL_law_474 ?_
  refine scr hF hXs hbl hL hS (nIadd (4 * jj) 1) (by omega) hx1 dL_law_475 ?_
  refine wVi (mc := 0) (ms := 0) (As := [.int (nI (x + 1))]) (rest := []) hF (mX1_setStep x hx4) M0.mv (fun _ => M0.mv) hM hM.rc jyX1_setStep kl_RL_110 ⟨rfl, rfl⟩ ⟨Nat.le_of_ble_eq_true rfl, Nat.le_of_ble_eq_true rfl⟩ rfl hl.1 rfl (Nat.le_of_ble_eq_true rfl) ⟨Nat.le_trans (by omega) hce.1, Nat.le_trans (by omega) hce.2⟩ hS (fun a _ h => (hs2 a h).1) (fun a h => (hs2 a h).1) dL_law_476 (fun rb ub H locs hp hM9 hz hk hS => ?_)
  have hX := C0.kept hX (fun a ha => hk a (hX.lt ha) (hs1 a ha).2.1)
  have hO := O1.kept hO (hk o hO.lt (fun h => (hs2 o h).2 rfl))
  have hM := hM9
  rw [hp]
  refine lv_istore (lv' := [(6, .int st), (5, .int 0), (0, .ref sb), (1, .ref (q 0)), (2, .ref (q2 0)), (3, .ref o), (4, .int (nI (4 * jj)))]) hx hb dL_law_479 hl (by decide) rfl (fun ls hl => ?_)
  refine lv_aload_n hx hb dL_law_481 rfl (lv_at hl 4 rfl) ?_
  refine cVi (As := []) (rest := []) hF mX1_thrown M0.mv hM hM.rc jyX1_thrown kl_RL_93 ⟨rfl, rfl⟩ ⟨Nat.le_of_ble_eq_true rfl, Nat.le_of_ble_eq_true rfl⟩ rfl hl.1 rfl (Nat.le_of_ble_eq_true rfl) ⟨Nat.le_trans (by omega) hce.1, Nat.le_trans (by omega) hce.2⟩ dL_law_482 (fun r hr9 => ?_)
  rw [hr9]
  refine lv_iload hx hb dL_law_485 (lv_at hl 1 rfl) ?_
  refine lv_icmp_eq (tgt := 492) hx hb dL_law_487 (by decide) (fun c487 => ?_) (fun c487 => ?_)
  · refine lv_iload hx hb dL_law_492 (lv_at hl 1 rfl) ?_
    refine lv_if_ne (tgt := 509) hx hb dL_law_494 (by decide) (fun c494 => ?_) (fun c494 => ?_)
    · exact absurd rfl c494
    · refine lv_aload_n hx hb dL_law_497 rfl (lv_at hl 5 rfl) ?_
      refine lv_iconst (v := 0) hx hb dL_law_498 (by decide) ?_
      refine O1.ld hF hO dL_law_499 ?_
      refine topL hf0 ?_
      refine lv_iload hx hb dL_law_500 (lv_at hl 0 rfl) ?_
      refine lv_i2l hx hb dL_law_502 rfl ?_
      refine W.lcmp hx hb dL_law_503 ?_
      refine lv_if_eq (tgt := 509) hx hb dL_law_504 (by decide) (fun c504 => ?_) (fun c504 => ?_)
      · refine lv_goto (tgt := 1666) hx hb dL_law_509 (by decide) ?_
        exact W.widen (by omega) (by omega) (KK N (nI (x + 1)) v ua.2.1 ua.2.2 0 0 ub ua.1 H locs ls ⟨⟨hX, hM, hO⟩, ⟨⟨hok.1, ⟨x, hx4, rfl⟩, hok.2.2⟩, hq9.2.2, Mk_zero hq9.2.1⟩⟩ hS (lv_sub hl [2, 3, 4, 5, 6] rfl))
      · exact absurd ((lg_cmp_eq _ _).mpr rfl) c504
  · exact absurd rfl c487
set_option maxHeartbeats 4000000 in
set_option maxRecDepth 100000 in
theorem k_setStep_b (hF : CallFix p m c cL_law 9 s args wA RL) (hfx : FX l s q q2 o t1 t2 t3 sb L xs) (hce : cells + 20 ≤ 601024 ∧ slots + 150 ≤ 7293034) (hj : 4 * jj + 4 ≤ L) (a : Int32) (hb9 : a < 1 ∨ 4 < a) (hI : RI D cyI cyZ cyL q q2 o N st v mk w th md w2 f s H) (hS : va_S (A9 s) s.heap H locs) (hl : lv_has ls 9 (LC sb q q2 o jj)) (hx1 : xs (4 * jj + 1) = a)
    (KK : KT p l ev s m args below meth c cells slots Q D cyI cyZ cyL q q2 o sb jj) : W p l ev room_1 s m args below meth c H locs cells slots Q (F0 m 456 ls []) := by
  obtain ⟨⟨hs1, hs2, hs3⟩, ⟨hZ, hZM, hTH, hNC⟩, ⟨hXs, hbl, hL⟩, hsT⟩ := hfx
  obtain ⟨⟨hX, hM, hO⟩, hok, hde, hmk⟩ := hI
  have hN := hok.1
  have ho : ¬ own 10 q o := fun h => (hs1 o h).2.2 rfl
  obtain ⟨hx, hb, hml, hown, hts⟩ := id hF
  refine lv_aload_n hx hb dL_law_456 rfl (lv_at hl 1 rfl) ?_
  refine lv_aload_n hx hb dL_law_457 rfl (lv_at hl 0 rfl) ?_
  refine lv_iload hx hb dL_law_458 (lv_at hl 4 rfl) ?_
  refine lv_iconst (v := 1) hx hb dL_law_460 (by decide) ?_
  refine lv_iadd hx hb dL_law_461 ?_
  refine scr hF hXs hbl hL hS (nIadd (4 * jj) 1) (by omega) hx1 dL_law_462 ?_
  refine lv_aload_n hx hb dL_law_463 rfl (lv_at hl 3 rfl) ?_
  refine wSWi (mc := 1) (ms := 6) (X1 := fun (_ : Unit) _ _ => True) (As := [.ref (q 0), .int a, .ref o]) (rest := []) hF (bL_setStep hsT a hb9) (Wm.and (Wm.and C0.mv.wm TH.wm) NC.mv.wm) (fun _ => Mv.const) ⟨⟨hX, (hTH.kept hS.2.1).narrow (fun _ h => h.elim)⟩, hNC⟩ jyL_setStep kl_RL_107 ⟨rfl, rfl⟩ ⟨Nat.le_of_ble_eq_true rfl, Nat.le_of_ble_eq_true rfl⟩ rfl hl.1 rfl (Nat.le_of_ble_eq_true rfl) ⟨Nat.le_trans (by omega) hce.1, Nat.le_trans (by omega) hce.2⟩ hS (fun _ _ h => h.elim) (fun _ h => h.elim) dL_law_464 (fun ra ua H locs hp hX9 hz hk hS => ?_)
  have hX := C0.kept hX (fun a ha => hk a (hX.lt ha) (fun h => h))
  have hM := M0.kept hM (fun a ha => hk a (hM.lt ha) (fun h => h))
  have hO := O1.kept hO (hk o hO.lt (fun h => h))
  have hr0 := hp
  rw [hr0]
  refine lv_istore (lv' := [(5, .int 1), (0, .ref sb), (1, .ref (q 0)), (2, .ref (q2 0)), (3, .ref o), (4, .int (nI (4 * jj)))]) hx hb dL_law_467 hl (by decide) rfl (fun ls hl => ?_)
  refine lv_aload_n hx hb dL_law_469 rfl (lv_at hl 3 rfl) ?_
  refine lv_aload_n hx hb dL_law_470 rfl (lv_at hl 1 rfl) ?_
  refine lv_iload hx hb dL_law_471 (lv_at hl 5 rfl) ?_
  refine lv_iconst (v := 1) hx hb dL_law_473 (by decide) ?_
  refine lv_iadd hx hb dL_law_474 ?_
  refine scr hF hXs hbl hL hS (nIadd (4 * jj) 1) (by omega) hx1 dL_law_475 ?_
  refine wVi (mc := 0) (ms := 0) (As := [.int a]) (rest := []) hF (nX1_setStep a (isI_lo4 hb9)) M0.mv (fun _ => M0.mv) hM hM.rc jyX1_setStep kl_RL_110 ⟨rfl, rfl⟩ ⟨Nat.le_of_ble_eq_true rfl, Nat.le_of_ble_eq_true rfl⟩ rfl hl.1 rfl (Nat.le_of_ble_eq_true rfl) ⟨Nat.le_trans (by omega) hce.1, Nat.le_trans (by omega) hce.2⟩ hS (fun a _ h => (hs2 a h).1) (fun a h => (hs2 a h).1) dL_law_476 (fun rb ub H locs hp hM9 hz hk hS => ?_)
  have hX := C0.kept hX (fun a ha => hk a (hX.lt ha) (hs1 a ha).2.1)
  have hO := O1.kept hO (hk o hO.lt (fun h => (hs2 o h).2 rfl))
  have hM := hM9
  refine lv_istore (lv' := [(6, .int rb), (5, .int 1), (0, .ref sb), (1, .ref (q 0)), (2, .ref (q2 0)), (3, .ref o), (4, .int (nI (4 * jj)))]) hx hb dL_law_479 hl (by decide) rfl (fun ls hl => ?_)
  refine lv_aload_n hx hb dL_law_481 rfl (lv_at hl 4 rfl) ?_
  refine cVi (As := []) (rest := []) hF mX1_thrown M0.mv hM hM.rc jyX1_thrown kl_RL_93 ⟨rfl, rfl⟩ ⟨Nat.le_of_ble_eq_true rfl, Nat.le_of_ble_eq_true rfl⟩ rfl hl.1 rfl (Nat.le_of_ble_eq_true rfl) ⟨Nat.le_trans (by omega) hce.1, Nat.le_trans (by omega) hce.2⟩ dL_law_482 (fun r hr9 => ?_)
  rw [hr9]
  refine lv_iload hx hb dL_law_485 (lv_at hl 1 rfl) ?_
  refine lv_icmp_eq (tgt := 492) hx hb dL_law_487 (by decide) (fun c487 => ?_) (fun c487 => ?_)
  · refine lv_iload hx hb dL_law_492 (lv_at hl 1 rfl) ?_
    refine lv_if_ne (tgt := 509) hx hb dL_law_494 (by decide) (fun c494 => ?_) (fun c494 => ?_)
    · refine lv_goto (tgt := 1666) hx hb dL_law_509 (by decide) ?_
      exact W.widen (by omega) (by omega) (KK N st v mk w 1 md ub f H locs ls ⟨⟨hX, hM, hO⟩, ⟨hok, hde, hmk⟩⟩ hS (lv_sub hl [2, 3, 4, 5, 6] rfl))
    · exact absurd c494 (by decide)
  · exact absurd rfl c487
set_option maxHeartbeats 4000000 in
set_option maxRecDepth 100000 in
theorem k_mend_g (hF : CallFix p m c cL_law 9 s args wA RL) (hfx : FX l s q q2 o t1 t2 t3 sb L xs) (hce : cells + 20 ≤ 601024 ∧ slots + 150 ≤ 7293034) (hj : 4 * jj + 4 ≤ L) (i : Nat) (hi : i < N) (ha : amb v st mk i = true) (hI : RI D cyI cyZ cyL q q2 o N st v mk w th md w2 f s H) (hS : va_S (A9 s) s.heap H locs) (hl : lv_has ls 9 (LC sb q q2 o jj)) (hx1 : xs (4 * jj + 1) = nI i)
    (KK : KT p l ev s m args below meth c cells slots Q D cyI cyZ cyL q q2 o sb jj) : W p l ev room_1 s m args below meth c H locs cells slots Q (F0 m 1322 ls []) := by
  obtain ⟨⟨hs1, hs2, hs3⟩, ⟨hZ, hZM, hTH, hNC⟩, ⟨hXs, hbl, hL⟩, hsT⟩ := hfx
  obtain ⟨⟨hX, hM, hO⟩, hok, hde, hmk⟩ := hI
  have hN := hok.1
  have ho : ¬ own 10 q o := fun h => (hs1 o h).2.2 rfl
  obtain ⟨hx, hb, hml, hown, hts⟩ := id hF
  refine lv_aload_n hx hb dL_law_1322 rfl (lv_at hl 1 rfl) ?_
  refine lv_aload_n hx hb dL_law_1323 rfl (lv_at hl 0 rfl) ?_
  refine lv_iload hx hb dL_law_1324 (lv_at hl 4 rfl) ?_
  refine lv_iconst (v := 1) hx hb dL_law_1326 (by decide) ?_
  refine lv_iadd hx hb dL_law_1327 ?_
  refine scr hF hXs hbl hL hS (nIadd (4 * jj) 1) (by omega) hx1 dL_law_1328 ?_
  refine lv_aload_n hx hb dL_law_1329 rfl (lv_at hl 3 rfl) ?_
  refine wSWi (mc := 0) (ms := 0) (As := [.ref (q 0), .int (nI i), .ref o]) (rest := []) hF (gL_mend hok hde i hi ha ho) (Wm.and C0.mv.wm O1.mv.wm) (fun _ => Mv.and C0.mv O1.mv) ⟨hX, hO⟩ jyL_mend kl_RL_183 ⟨rfl, rfl⟩ ⟨Nat.le_of_ble_eq_true rfl, Nat.le_of_ble_eq_true rfl⟩ rfl hl.1 rfl (Nat.le_of_ble_eq_true rfl) ⟨Nat.le_trans (by omega) hce.1, Nat.le_trans (by omega) hce.2⟩ hS (fun a _ h => h.elim (fun h => (hs1 a h).1) (fun h => by rw [h]; exact hs3)) (fun a h => h.elim (fun h => (hs1 a h).1) (fun h => by rw [h]; exact hs3)) dL_law_1330 (fun ra ua H locs hp hX9 hz hk hS => ?_)
  have hM := M0.kept hM (fun a ha => hk a (hM.lt ha) (fun h => h.elim (fun h => (hs1 a h).2.1 ha) (hs2 a ha).2))
  obtain ⟨hX, hO⟩ := hX9
  obtain ⟨hr0, r9, hf0, hq9⟩ := hp
  rw [hq9] at hf0
  rw [hr0]
  refine lv_istore (lv' := [(5, .int 0), (0, .ref sb), (1, .ref (q 0)), (2, .ref (q2 0)), (3, .ref o), (4, .int (nI (4 * jj)))]) hx hb dL_law_1333 hl (by decide) rfl (fun ls hl => ?_)
  refine lv_aload_n hx hb dL_law_1335 rfl (lv_at hl 3 rfl) ?_
  refine lv_aload_n hx hb dL_law_1336 rfl (lv_at hl 1 rfl) ?_
  refine lv_iload hx hb dL_law_1337 (lv_at hl 5 rfl) ?_
  refine lv_iconst (v := 1) hx hb dL_law_1339 (by decide) ?_
  refine lv_iadd hx hb dL_law_1340 ?_
  refine scr hF hXs hbl hL hS (nIadd (4 * jj) 1) (by omega) hx1 dL_law_1341 ?_
  refine wVi (mc := 0) (ms := 0) (As := [.int (nI i)]) (rest := []) hF (mX1_mend hok hmk i hi ha) M0.mv (fun _ => M0.mv) hM hM.rc jyX1_mend kl_RL_185 ⟨rfl, rfl⟩ ⟨Nat.le_of_ble_eq_true rfl, Nat.le_of_ble_eq_true rfl⟩ rfl hl.1 rfl (Nat.le_of_ble_eq_true rfl) ⟨Nat.le_trans (by omega) hce.1, Nat.le_trans (by omega) hce.2⟩ hS (fun a _ h => (hs2 a h).1) (fun a h => (hs2 a h).1) dL_law_1342 (fun rb ub H locs hp hM9 hz hk hS => ?_)
  have hX := C0.kept hX (fun a ha => hk a (hX.lt ha) (hs1 a ha).2.1)
  have hO := O1.kept hO (hk o hO.lt (fun h => (hs2 o h).2 rfl))
  have hM := hM9
  rw [hp]
  refine lv_istore (lv' := [(6, .int (rrn v st i)), (5, .int 0), (0, .ref sb), (1, .ref (q 0)), (2, .ref (q2 0)), (3, .ref o), (4, .int (nI (4 * jj)))]) hx hb dL_law_1345 hl (by decide) rfl (fun ls hl => ?_)
  refine lv_aload_n hx hb dL_law_1347 rfl (lv_at hl 4 rfl) ?_
  refine cVi (As := []) (rest := []) hF mX1_thrown M0.mv hM hM.rc jyX1_thrown kl_RL_93 ⟨rfl, rfl⟩ ⟨Nat.le_of_ble_eq_true rfl, Nat.le_of_ble_eq_true rfl⟩ rfl hl.1 rfl (Nat.le_of_ble_eq_true rfl) ⟨Nat.le_trans (by omega) hce.1, Nat.le_trans (by omega) hce.2⟩ dL_law_1348 (fun r hr9 => ?_)
  rw [hr9]
  refine lv_iload hx hb dL_law_1351 (lv_at hl 1 rfl) ?_
  refine lv_icmp_eq (tgt := 1358) hx hb dL_law_1353 (by decide) (fun c1353 => ?_) (fun c1353 => ?_)
  · refine lv_iload hx hb dL_law_1358 (lv_at hl 1 rfl) ?_
    refine lv_if_ne (tgt := 1375) hx hb dL_law_1360 (by decide) (fun c1360 => ?_) (fun c1360 => ?_)
    · exact absurd rfl c1360
    · refine lv_aload_n hx hb dL_law_1363 rfl (lv_at hl 5 rfl) ?_
      refine lv_iconst (v := 0) hx hb dL_law_1364 (by decide) ?_
      refine O1.ld hF hO dL_law_1365 ?_
      refine topL hf0 ?_
      refine lv_iload hx hb dL_law_1366 (lv_at hl 0 rfl) ?_
      refine lv_i2l hx hb dL_law_1368 rfl ?_
      refine W.lcmp hx hb dL_law_1369 ?_
      refine lv_if_eq (tgt := 1375) hx hb dL_law_1370 (by decide) (fun c1370 => ?_) (fun c1370 => ?_)
      · refine lv_goto (tgt := 1666) hx hb dL_law_1375 (by decide) ?_
        exact W.widen (by omega) (by omega) (KK N st v (va_up mk i true) w 0 (md ||| (1 <<< (nI i &&& 31))) ub ua.1 H locs ls ⟨⟨hX, hM, hO⟩, ⟨hok, hde, Mk_set hmk hN hi⟩⟩ hS (lv_sub hl [2, 3, 4, 5, 6] rfl))
      · exact absurd ((lg_cmp_eq _ _).mpr rfl) c1370
  · exact absurd rfl c1353
set_option maxHeartbeats 4000000 in
set_option maxRecDepth 100000 in
theorem k_mend_b1 (hF : CallFix p m c cL_law 9 s args wA RL) (hfx : FX l s q q2 o t1 t2 t3 sb L xs) (hce : cells + 20 ≤ 601024 ∧ slots + 150 ≤ 7293034) (hj : 4 * jj + 4 ≤ L) (a : Int32) (hb9 : a < 0 ∨ nI N ≤ a) (hI : RI D cyI cyZ cyL q q2 o N st v mk w th md w2 f s H) (hS : va_S (A9 s) s.heap H locs) (hl : lv_has ls 9 (LC sb q q2 o jj)) (hx1 : xs (4 * jj + 1) = a)
    (KK : KT p l ev s m args below meth c cells slots Q D cyI cyZ cyL q q2 o sb jj) : W p l ev room_1 s m args below meth c H locs cells slots Q (F0 m 1322 ls []) := by
  obtain ⟨⟨hs1, hs2, hs3⟩, ⟨hZ, hZM, hTH, hNC⟩, ⟨hXs, hbl, hL⟩, hsT⟩ := hfx
  obtain ⟨⟨hX, hM, hO⟩, hok, hde, hmk⟩ := hI
  have hN := hok.1
  have ho : ¬ own 10 q o := fun h => (hs1 o h).2.2 rfl
  obtain ⟨hx, hb, hml, hown, hts⟩ := id hF
  refine lv_aload_n hx hb dL_law_1322 rfl (lv_at hl 1 rfl) ?_
  refine lv_aload_n hx hb dL_law_1323 rfl (lv_at hl 0 rfl) ?_
  refine lv_iload hx hb dL_law_1324 (lv_at hl 4 rfl) ?_
  refine lv_iconst (v := 1) hx hb dL_law_1326 (by decide) ?_
  refine lv_iadd hx hb dL_law_1327 ?_
  refine scr hF hXs hbl hL hS (nIadd (4 * jj) 1) (by omega) hx1 dL_law_1328 ?_
  refine lv_aload_n hx hb dL_law_1329 rfl (lv_at hl 3 rfl) ?_
  refine wSWi (mc := 1) (ms := 6) (X1 := fun (_ : Unit) _ _ => True) (As := [.ref (q 0), .int a, .ref o]) (rest := []) hF (bL_mend1 hsT a hb9) (Wm.and (Wm.and C0.mv.wm TH.wm) NC.mv.wm) (fun _ => Mv.const) ⟨⟨hX, (hTH.kept hS.2.1).narrow (fun _ h => h.elim)⟩, hNC⟩ jyL_mend kl_RL_183 ⟨rfl, rfl⟩ ⟨Nat.le_of_ble_eq_true rfl, Nat.le_of_ble_eq_true rfl⟩ rfl hl.1 rfl (Nat.le_of_ble_eq_true rfl) ⟨Nat.le_trans (by omega) hce.1, Nat.le_trans (by omega) hce.2⟩ hS (fun _ _ h => h.elim) (fun _ h => h.elim) dL_law_1330 (fun ra ua H locs hp hX9 hz hk hS => ?_)
  have hX := C0.kept hX (fun a ha => hk a (hX.lt ha) (fun h => h))
  have hM := M0.kept hM (fun a ha => hk a (hM.lt ha) (fun h => h))
  have hO := O1.kept hO (hk o hO.lt (fun h => h))
  have hr0 := hp
  rw [hr0]
  refine lv_istore (lv' := [(5, .int 1), (0, .ref sb), (1, .ref (q 0)), (2, .ref (q2 0)), (3, .ref o), (4, .int (nI (4 * jj)))]) hx hb dL_law_1333 hl (by decide) rfl (fun ls hl => ?_)
  refine lv_aload_n hx hb dL_law_1335 rfl (lv_at hl 3 rfl) ?_
  refine lv_aload_n hx hb dL_law_1336 rfl (lv_at hl 1 rfl) ?_
  refine lv_iload hx hb dL_law_1337 (lv_at hl 5 rfl) ?_
  refine lv_iconst (v := 1) hx hb dL_law_1339 (by decide) ?_
  refine lv_iadd hx hb dL_law_1340 ?_
  refine scr hF hXs hbl hL hS (nIadd (4 * jj) 1) (by omega) hx1 dL_law_1341 ?_
  refine wVi (mc := 0) (ms := 0) (As := [.int a]) (rest := []) hF (nX1_mend a (legB_f hN hb9)) M0.mv (fun _ => M0.mv) hM hM.rc jyX1_mend kl_RL_185 ⟨rfl, rfl⟩ ⟨Nat.le_of_ble_eq_true rfl, Nat.le_of_ble_eq_true rfl⟩ rfl hl.1 rfl (Nat.le_of_ble_eq_true rfl) ⟨Nat.le_trans (by omega) hce.1, Nat.le_trans (by omega) hce.2⟩ hS (fun a _ h => (hs2 a h).1) (fun a h => (hs2 a h).1) dL_law_1342 (fun rb ub H locs hp hM9 hz hk hS => ?_)
  have hX := C0.kept hX (fun a ha => hk a (hX.lt ha) (hs1 a ha).2.1)
  have hO := O1.kept hO (hk o hO.lt (fun h => (hs2 o h).2 rfl))
  have hM := hM9
  refine lv_istore (lv' := [(6, .int rb), (5, .int 1), (0, .ref sb), (1, .ref (q 0)), (2, .ref (q2 0)), (3, .ref o), (4, .int (nI (4 * jj)))]) hx hb dL_law_1345 hl (by decide) rfl (fun ls hl => ?_)
  refine lv_aload_n hx hb dL_law_1347 rfl (lv_at hl 4 rfl) ?_
  refine cVi (As := []) (rest := []) hF mX1_thrown M0.mv hM hM.rc jyX1_thrown kl_RL_93 ⟨rfl, rfl⟩ ⟨Nat.le_of_ble_eq_true rfl, Nat.le_of_ble_eq_true rfl⟩ rfl hl.1 rfl (Nat.le_of_ble_eq_true rfl) ⟨Nat.le_trans (by omega) hce.1, Nat.le_trans (by omega) hce.2⟩ dL_law_1348 (fun r hr9 => ?_)
  rw [hr9]
  refine lv_iload hx hb dL_law_1351 (lv_at hl 1 rfl) ?_
  refine lv_icmp_eq (tgt := 1358) hx hb dL_law_1353 (by decide) (fun c1353 => ?_) (fun c1353 => ?_)
  · refine lv_iload hx hb dL_law_1358 (lv_at hl 1 rfl) ?_
    refine lv_if_ne (tgt := 1375) hx hb dL_law_1360 (by decide) (fun c1360 => ?_) (fun c1360 => ?_)
    · refine lv_goto (tgt := 1666) hx hb dL_law_1375 (by decide) ?_
      exact W.widen (by omega) (by omega) (KK N st v mk w 1 md ub f H locs ls ⟨⟨hX, hM, hO⟩, ⟨hok, hde, hmk⟩⟩ hS (lv_sub hl [2, 3, 4, 5, 6] rfl))
    · exact absurd c1360 (by decide)
  · exact absurd rfl c1353
set_option maxHeartbeats 4000000 in
set_option maxRecDepth 100000 in
theorem k_mend_b2 (hF : CallFix p m c cL_law 9 s args wA RL) (hfx : FX l s q q2 o t1 t2 t3 sb L xs) (hce : cells + 20 ≤ 601024 ∧ slots + 150 ≤ 7293034) (hj : 4 * jj + 4 ≤ L) (i : Nat) (hi : i < N) (hb9 : amb v st mk i = false) (hI : RI D cyI cyZ cyL q q2 o N st v mk w th md w2 f s H) (hS : va_S (A9 s) s.heap H locs) (hl : lv_has ls 9 (LC sb q q2 o jj)) (hx1 : xs (4 * jj + 1) = nI i)
    (KK : KT p l ev s m args below meth c cells slots Q D cyI cyZ cyL q q2 o sb jj) : W p l ev room_1 s m args below meth c H locs cells slots Q (F0 m 1322 ls []) := by
  obtain ⟨⟨hs1, hs2, hs3⟩, ⟨hZ, hZM, hTH, hNC⟩, ⟨hXs, hbl, hL⟩, hsT⟩ := hfx
  obtain ⟨⟨hX, hM, hO⟩, hok, hde, hmk⟩ := hI
  have hN := hok.1
  have ho : ¬ own 10 q o := fun h => (hs1 o h).2.2 rfl
  obtain ⟨hx, hb, hml, hown, hts⟩ := id hF
  refine lv_aload_n hx hb dL_law_1322 rfl (lv_at hl 1 rfl) ?_
  refine lv_aload_n hx hb dL_law_1323 rfl (lv_at hl 0 rfl) ?_
  refine lv_iload hx hb dL_law_1324 (lv_at hl 4 rfl) ?_
  refine lv_iconst (v := 1) hx hb dL_law_1326 (by decide) ?_
  refine lv_iadd hx hb dL_law_1327 ?_
  refine scr hF hXs hbl hL hS (nIadd (4 * jj) 1) (by omega) hx1 dL_law_1328 ?_
  refine lv_aload_n hx hb dL_law_1329 rfl (lv_at hl 3 rfl) ?_
  refine wSWi (mc := 1) (ms := 6) (X1 := fun (_ : Unit) _ _ => True) (As := [.ref (q 0), .int (nI i), .ref o]) (rest := []) hF (bL_mend2 hsT hok hde i hi hb9) (Wm.and (Wm.and C0.mv.wm TH.wm) NC.mv.wm) (fun _ => Mv.const) ⟨⟨hX, (hTH.kept hS.2.1).narrow (fun _ h => h.elim)⟩, hNC⟩ jyL_mend kl_RL_183 ⟨rfl, rfl⟩ ⟨Nat.le_of_ble_eq_true rfl, Nat.le_of_ble_eq_true rfl⟩ rfl hl.1 rfl (Nat.le_of_ble_eq_true rfl) ⟨Nat.le_trans (by omega) hce.1, Nat.le_trans (by omega) hce.2⟩ hS (fun _ _ h => h.elim) (fun _ h => h.elim) dL_law_1330 (fun ra ua H locs hp hX9 hz hk hS => ?_)
  have hX := C0.kept hX (fun a ha => hk a (hX.lt ha) (fun h => h))
  have hM := M0.kept hM (fun a ha => hk a (hM.lt ha) (fun h => h))
  have hO := O1.kept hO (hk o hO.lt (fun h => h))
  have hr0 := hp
  rw [hr0]
  refine lv_istore (lv' := [(5, .int 2), (0, .ref sb), (1, .ref (q 0)), (2, .ref (q2 0)), (3, .ref o), (4, .int (nI (4 * jj)))]) hx hb dL_law_1333 hl (by decide) rfl (fun ls hl => ?_)
  refine lv_aload_n hx hb dL_law_1335 rfl (lv_at hl 3 rfl) ?_
  refine lv_aload_n hx hb dL_law_1336 rfl (lv_at hl 1 rfl) ?_
  refine lv_iload hx hb dL_law_1337 (lv_at hl 5 rfl) ?_
  refine lv_iconst (v := 1) hx hb dL_law_1339 (by decide) ?_
  refine lv_iadd hx hb dL_law_1340 ?_
  refine scr hF hXs hbl hL hS (nIadd (4 * jj) 1) (by omega) hx1 dL_law_1341 ?_
  refine wVi (mc := 0) (ms := 0) (As := [.int (nI i)]) (rest := []) hF (oX1_mend hok hmk i hi hb9) M0.mv (fun _ => M0.mv) hM hM.rc jyX1_mend kl_RL_185 ⟨rfl, rfl⟩ ⟨Nat.le_of_ble_eq_true rfl, Nat.le_of_ble_eq_true rfl⟩ rfl hl.1 rfl (Nat.le_of_ble_eq_true rfl) ⟨Nat.le_trans (by omega) hce.1, Nat.le_trans (by omega) hce.2⟩ hS (fun a _ h => (hs2 a h).1) (fun a h => (hs2 a h).1) dL_law_1342 (fun rb ub H locs hp hM9 hz hk hS => ?_)
  have hX := C0.kept hX (fun a ha => hk a (hX.lt ha) (hs1 a ha).2.1)
  have hO := O1.kept hO (hk o hO.lt (fun h => (hs2 o h).2 rfl))
  have hM := hM9
  refine lv_istore (lv' := [(6, .int rb), (5, .int 2), (0, .ref sb), (1, .ref (q 0)), (2, .ref (q2 0)), (3, .ref o), (4, .int (nI (4 * jj)))]) hx hb dL_law_1345 hl (by decide) rfl (fun ls hl => ?_)
  refine lv_aload_n hx hb dL_law_1347 rfl (lv_at hl 4 rfl) ?_
  refine cVi (As := []) (rest := []) hF mX1_thrown M0.mv hM hM.rc jyX1_thrown kl_RL_93 ⟨rfl, rfl⟩ ⟨Nat.le_of_ble_eq_true rfl, Nat.le_of_ble_eq_true rfl⟩ rfl hl.1 rfl (Nat.le_of_ble_eq_true rfl) ⟨Nat.le_trans (by omega) hce.1, Nat.le_trans (by omega) hce.2⟩ dL_law_1348 (fun r hr9 => ?_)
  rw [hr9]
  refine lv_iload hx hb dL_law_1351 (lv_at hl 1 rfl) ?_
  refine lv_icmp_eq (tgt := 1358) hx hb dL_law_1353 (by decide) (fun c1353 => ?_) (fun c1353 => ?_)
  · refine lv_iload hx hb dL_law_1358 (lv_at hl 1 rfl) ?_
    refine lv_if_ne (tgt := 1375) hx hb dL_law_1360 (by decide) (fun c1360 => ?_) (fun c1360 => ?_)
    · refine lv_goto (tgt := 1666) hx hb dL_law_1375 (by decide) ?_
      exact W.widen (by omega) (by omega) (KK N st v mk w 2 md ub f H locs ls ⟨⟨hX, hM, hO⟩, ⟨hok, hde, hmk⟩⟩ hS (lv_sub hl [2, 3, 4, 5, 6] rfl))
    · exact absurd c1360 (by decide)
  · exact absurd rfl c1353
set_option maxHeartbeats 4000000 in
set_option maxRecDepth 100000 in
theorem k_mendTo_g (hF : CallFix p m c cL_law 9 s args wA RL) (hfx : FX l s q q2 o t1 t2 t3 sb L xs) (hce : cells + 20 ≤ 601024 ∧ slots + 150 ≤ 7293034) (hj : 4 * jj + 4 ≤ L) (w1 : Int32) (hw1 : ¬ w1 < 1) (hw2 : w1 ≤ 1000000) (hI : RI D cyI cyZ cyL q q2 o N st v mk w th md w2 f s H) (hS : va_S (A9 s) s.heap H locs) (hl : lv_has ls 9 (LC sb q q2 o jj)) (hx1 : xs (4 * jj + 1) = w1)
    (KK : KT p l ev s m args below meth c cells slots Q D cyI cyZ cyL q q2 o sb jj) : W p l ev room_1 s m args below meth c H locs cells slots Q (F0 m 1378 ls []) := by
  obtain ⟨⟨hs1, hs2, hs3⟩, ⟨hZ, hZM, hTH, hNC⟩, ⟨hXs, hbl, hL⟩, hsT⟩ := hfx
  obtain ⟨⟨hX, hM, hO⟩, hok, hde, hmk⟩ := hI
  have hN := hok.1
  have ho : ¬ own 10 q o := fun h => (hs1 o h).2.2 rfl
  obtain ⟨hx, hb, hml, hown, hts⟩ := id hF
  refine lv_aload_n hx hb dL_law_1378 rfl (lv_at hl 1 rfl) ?_
  refine lv_aload_n hx hb dL_law_1379 rfl (lv_at hl 0 rfl) ?_
  refine lv_iload hx hb dL_law_1380 (lv_at hl 4 rfl) ?_
  refine lv_iconst (v := 1) hx hb dL_law_1382 (by decide) ?_
  refine lv_iadd hx hb dL_law_1383 ?_
  refine scr hF hXs hbl hL hS (nIadd (4 * jj) 1) (by omega) hx1 dL_law_1384 ?_
  refine lv_aload_n hx hb dL_law_1385 rfl (lv_at hl 3 rfl) ?_
  refine wSWi (mc := 0) (ms := 0) (As := [.ref (q 0), .int w1, .ref o]) (rest := []) hF (gL_mendTo hok hde w1 hw1 hw2 ho) (Wm.and C0.mv.wm O1.mv.wm) (fun _ => Mv.and C0.mv O1.mv) ⟨hX, hO⟩ jyL_mendTo kl_RL_186 ⟨rfl, rfl⟩ ⟨Nat.le_of_ble_eq_true rfl, Nat.le_of_ble_eq_true rfl⟩ rfl hl.1 rfl (Nat.le_of_ble_eq_true rfl) ⟨Nat.le_trans (by omega) hce.1, Nat.le_trans (by omega) hce.2⟩ hS (fun a _ h => h.elim (fun h => (hs1 a h).1) (fun h => by rw [h]; exact hs3)) (fun a h => h.elim (fun h => (hs1 a h).1) (fun h => by rw [h]; exact hs3)) dL_law_1386 (fun ra ua H locs hp hX9 hz hk hS => ?_)
  have hM := M0.kept hM (fun a ha => hk a (hM.lt ha) (fun h => h.elim (fun h => (hs1 a h).2.1 ha) (hs2 a ha).2))
  obtain ⟨hX, hO⟩ := hX9
  obtain ⟨hr0, r9, hf0, hq9⟩ := hp
  rw [hq9.1] at hf0
  rw [hr0]
  refine lv_istore (lv' := [(5, .int 0), (0, .ref sb), (1, .ref (q 0)), (2, .ref (q2 0)), (3, .ref o), (4, .int (nI (4 * jj)))]) hx hb dL_law_1389 hl (by decide) rfl (fun ls hl => ?_)
  refine lv_aload_n hx hb dL_law_1391 rfl (lv_at hl 3 rfl) ?_
  refine lv_aload_n hx hb dL_law_1392 rfl (lv_at hl 1 rfl) ?_
  refine lv_iload hx hb dL_law_1393 (lv_at hl 5 rfl) ?_
  refine lv_iconst (v := 1) hx hb dL_law_1395 (by decide) ?_
  refine lv_iadd hx hb dL_law_1396 ?_
  refine scr hF hXs hbl hL hS (nIadd (4 * jj) 1) (by omega) hx1 dL_law_1397 ?_
  refine wVi (mc := 0) (ms := 0) (As := [.int w1]) (rest := []) hF (mX1_mendTo hok hmk w1 (by simp [isI, Int32.not_lt.mp hw1, hw2])) M0.mv (fun _ => M0.mv) hM hM.rc jyX1_mendTo kl_RL_188 ⟨rfl, rfl⟩ ⟨Nat.le_of_ble_eq_true rfl, Nat.le_of_ble_eq_true rfl⟩ rfl hl.1 rfl (Nat.le_of_ble_eq_true rfl) ⟨Nat.le_trans (by omega) hce.1, Nat.le_trans (by omega) hce.2⟩ hS (fun a _ h => (hs2 a h).1) (fun a h => (hs2 a h).1) dL_law_1398 (fun rb ub H locs hp hM9 hz hk hS => ?_)
  have hX := C0.kept hX (fun a ha => hk a (hX.lt ha) (hs1 a ha).2.1)
  have hO := O1.kept hO (hk o hO.lt (fun h => (hs2 o h).2 rfl))
  have hM := hM9
  have hmk9 := hp.2
  rw [hp.1]
  refine lv_istore (lv' := [(6, .int (nI (mdF v st N (Int32.toInt64 w1) N 0 mk).1)), (5, .int 0), (0, .ref sb), (1, .ref (q 0)), (2, .ref (q2 0)), (3, .ref o), (4, .int (nI (4 * jj)))]) hx hb dL_law_1401 hl (by decide) rfl (fun ls hl => ?_)
  refine lv_aload_n hx hb dL_law_1403 rfl (lv_at hl 4 rfl) ?_
  refine cVi (As := []) (rest := []) hF mX1_thrown M0.mv hM hM.rc jyX1_thrown kl_RL_93 ⟨rfl, rfl⟩ ⟨Nat.le_of_ble_eq_true rfl, Nat.le_of_ble_eq_true rfl⟩ rfl hl.1 rfl (Nat.le_of_ble_eq_true rfl) ⟨Nat.le_trans (by omega) hce.1, Nat.le_trans (by omega) hce.2⟩ dL_law_1404 (fun r hr9 => ?_)
  rw [hr9]
  refine lv_iload hx hb dL_law_1407 (lv_at hl 1 rfl) ?_
  refine lv_icmp_eq (tgt := 1414) hx hb dL_law_1409 (by decide) (fun c1409 => ?_) (fun c1409 => ?_)
  · refine lv_iload hx hb dL_law_1414 (lv_at hl 1 rfl) ?_
    refine lv_if_ne (tgt := 1431) hx hb dL_law_1416 (by decide) (fun c1416 => ?_) (fun c1416 => ?_)
    · exact absurd rfl c1416
    · refine lv_aload_n hx hb dL_law_1419 rfl (lv_at hl 5 rfl) ?_
      refine lv_iconst (v := 0) hx hb dL_law_1420 (by decide) ?_
      refine O1.ld hF hO dL_law_1421 ?_
      refine topL hf0 ?_
      refine lv_iload hx hb dL_law_1422 (lv_at hl 0 rfl) ?_
      refine lv_i2l hx hb dL_law_1424 rfl ?_
      refine W.lcmp hx hb dL_law_1425 ?_
      refine lv_if_eq (tgt := 1431) hx hb dL_law_1426 (by decide) (fun c1426 => ?_) (fun c1426 => ?_)
      · refine lv_goto (tgt := 1666) hx hb dL_law_1431 (by decide) ?_
        exact W.widen (by omega) (by omega) (KK N st v ua.2 w 0 ub.1 ub.2 ua.1 H locs ls ⟨⟨hX, hM, hO⟩, ⟨hok, hde, by rw [hq9.2]; exact hmk9⟩⟩ hS (lv_sub hl [2, 3, 4, 5, 6] rfl))
      · exact absurd ((lg_cmp_eq _ _).mpr rfl) c1426
  · exact absurd rfl c1409
set_option maxHeartbeats 4000000 in
set_option maxRecDepth 100000 in
theorem k_mendTo_b (hF : CallFix p m c cL_law 9 s args wA RL) (hfx : FX l s q q2 o t1 t2 t3 sb L xs) (hce : cells + 20 ≤ 601024 ∧ slots + 150 ≤ 7293034) (hj : 4 * jj + 4 ≤ L) (a : Int32) (hb9 : a < 1 ∨ 1000000 < a) (hI : RI D cyI cyZ cyL q q2 o N st v mk w th md w2 f s H) (hS : va_S (A9 s) s.heap H locs) (hl : lv_has ls 9 (LC sb q q2 o jj)) (hx1 : xs (4 * jj + 1) = a)
    (KK : KT p l ev s m args below meth c cells slots Q D cyI cyZ cyL q q2 o sb jj) : W p l ev room_1 s m args below meth c H locs cells slots Q (F0 m 1378 ls []) := by
  obtain ⟨⟨hs1, hs2, hs3⟩, ⟨hZ, hZM, hTH, hNC⟩, ⟨hXs, hbl, hL⟩, hsT⟩ := hfx
  obtain ⟨⟨hX, hM, hO⟩, hok, hde, hmk⟩ := hI
  have hN := hok.1
  have ho : ¬ own 10 q o := fun h => (hs1 o h).2.2 rfl
  obtain ⟨hx, hb, hml, hown, hts⟩ := id hF
  refine lv_aload_n hx hb dL_law_1378 rfl (lv_at hl 1 rfl) ?_
  refine lv_aload_n hx hb dL_law_1379 rfl (lv_at hl 0 rfl) ?_
  refine lv_iload hx hb dL_law_1380 (lv_at hl 4 rfl) ?_
  refine lv_iconst (v := 1) hx hb dL_law_1382 (by decide) ?_
  refine lv_iadd hx hb dL_law_1383 ?_
  refine scr hF hXs hbl hL hS (nIadd (4 * jj) 1) (by omega) hx1 dL_law_1384 ?_
  refine lv_aload_n hx hb dL_law_1385 rfl (lv_at hl 3 rfl) ?_
  refine wSWi (mc := 1) (ms := 6) (X1 := fun (_ : Unit) _ _ => True) (As := [.ref (q 0), .int a, .ref o]) (rest := []) hF (bL_mendTo hsT a hb9) (Wm.and (Wm.and C0.mv.wm TH.wm) NC.mv.wm) (fun _ => Mv.const) ⟨⟨hX, (hTH.kept hS.2.1).narrow (fun _ h => h.elim)⟩, hNC⟩ jyL_mendTo kl_RL_186 ⟨rfl, rfl⟩ ⟨Nat.le_of_ble_eq_true rfl, Nat.le_of_ble_eq_true rfl⟩ rfl hl.1 rfl (Nat.le_of_ble_eq_true rfl) ⟨Nat.le_trans (by omega) hce.1, Nat.le_trans (by omega) hce.2⟩ hS (fun _ _ h => h.elim) (fun _ h => h.elim) dL_law_1386 (fun ra ua H locs hp hX9 hz hk hS => ?_)
  have hX := C0.kept hX (fun a ha => hk a (hX.lt ha) (fun h => h))
  have hM := M0.kept hM (fun a ha => hk a (hM.lt ha) (fun h => h))
  have hO := O1.kept hO (hk o hO.lt (fun h => h))
  have hr0 := hp
  rw [hr0]
  refine lv_istore (lv' := [(5, .int 1), (0, .ref sb), (1, .ref (q 0)), (2, .ref (q2 0)), (3, .ref o), (4, .int (nI (4 * jj)))]) hx hb dL_law_1389 hl (by decide) rfl (fun ls hl => ?_)
  refine lv_aload_n hx hb dL_law_1391 rfl (lv_at hl 3 rfl) ?_
  refine lv_aload_n hx hb dL_law_1392 rfl (lv_at hl 1 rfl) ?_
  refine lv_iload hx hb dL_law_1393 (lv_at hl 5 rfl) ?_
  refine lv_iconst (v := 1) hx hb dL_law_1395 (by decide) ?_
  refine lv_iadd hx hb dL_law_1396 ?_
  refine scr hF hXs hbl hL hS (nIadd (4 * jj) 1) (by omega) hx1 dL_law_1397 ?_
  refine wVi (mc := 0) (ms := 0) (As := [.int a]) (rest := []) hF (nX1_mendTo a (isI_loM hb9)) M0.mv (fun _ => M0.mv) hM hM.rc jyX1_mendTo kl_RL_188 ⟨rfl, rfl⟩ ⟨Nat.le_of_ble_eq_true rfl, Nat.le_of_ble_eq_true rfl⟩ rfl hl.1 rfl (Nat.le_of_ble_eq_true rfl) ⟨Nat.le_trans (by omega) hce.1, Nat.le_trans (by omega) hce.2⟩ hS (fun a _ h => (hs2 a h).1) (fun a h => (hs2 a h).1) dL_law_1398 (fun rb ub H locs hp hM9 hz hk hS => ?_)
  have hX := C0.kept hX (fun a ha => hk a (hX.lt ha) (hs1 a ha).2.1)
  have hO := O1.kept hO (hk o hO.lt (fun h => (hs2 o h).2 rfl))
  have hM := hM9
  refine lv_istore (lv' := [(6, .int rb), (5, .int 1), (0, .ref sb), (1, .ref (q 0)), (2, .ref (q2 0)), (3, .ref o), (4, .int (nI (4 * jj)))]) hx hb dL_law_1401 hl (by decide) rfl (fun ls hl => ?_)
  refine lv_aload_n hx hb dL_law_1403 rfl (lv_at hl 4 rfl) ?_
  refine cVi (As := []) (rest := []) hF mX1_thrown M0.mv hM hM.rc jyX1_thrown kl_RL_93 ⟨rfl, rfl⟩ ⟨Nat.le_of_ble_eq_true rfl, Nat.le_of_ble_eq_true rfl⟩ rfl hl.1 rfl (Nat.le_of_ble_eq_true rfl) ⟨Nat.le_trans (by omega) hce.1, Nat.le_trans (by omega) hce.2⟩ dL_law_1404 (fun r hr9 => ?_)
  rw [hr9]
  refine lv_iload hx hb dL_law_1407 (lv_at hl 1 rfl) ?_
  refine lv_icmp_eq (tgt := 1414) hx hb dL_law_1409 (by decide) (fun c1409 => ?_) (fun c1409 => ?_)
  · refine lv_iload hx hb dL_law_1414 (lv_at hl 1 rfl) ?_
    refine lv_if_ne (tgt := 1431) hx hb dL_law_1416 (by decide) (fun c1416 => ?_) (fun c1416 => ?_)
    · refine lv_goto (tgt := 1666) hx hb dL_law_1431 (by decide) ?_
      exact W.widen (by omega) (by omega) (KK N st v mk w 1 md ub f H locs ls ⟨⟨hX, hM, hO⟩, ⟨hok, hde, hmk⟩⟩ hS (lv_sub hl [2, 3, 4, 5, 6] rfl))
    · exact absurd c1416 (by decide)
  · exact absurd rfl c1409
set_option maxHeartbeats 4000000 in
set_option maxRecDepth 100000 in
theorem k_ambiguousWith_g (hF : CallFix p m c cL_law 9 s args wA RL) (hfx : FX l s q q2 o t1 t2 t3 sb L xs) (hce : cells + 20 ≤ 601024 ∧ slots + 150 ≤ 7293034) (hj : 4 * jj + 4 ≤ L) (i x : Nat) (hi : i < 10) (hx10 : x < 10) (hI : RI D cyI cyZ cyL q q2 o N st v mk w th md w2 f s H) (hS : va_S (A9 s) s.heap H locs) (hl : lv_has ls 9 (LC sb q q2 o jj)) (hx1 : xs (4 * jj + 1) = nI i) (hx2 : xs (4 * jj + 2) = nI x)
    (KK : KT p l ev s m args below meth c cells slots Q D cyI cyZ cyL q q2 o sb jj) : W p l ev room_1 s m args below meth c H locs cells slots Q (F0 m 1474 ls []) := by
  obtain ⟨⟨hs1, hs2, hs3⟩, ⟨hZ, hZM, hTH, hNC⟩, ⟨hXs, hbl, hL⟩, hsT⟩ := hfx
  obtain ⟨⟨hX, hM, hO⟩, hok, hde, hmk⟩ := hI
  have hN := hok.1
  have ho : ¬ own 10 q o := fun h => (hs1 o h).2.2 rfl
  obtain ⟨hx, hb, hml, hown, hts⟩ := id hF
  refine lv_aload_n hx hb dL_law_1474 rfl (lv_at hl 1 rfl) ?_
  refine lv_aload_n hx hb dL_law_1475 rfl (lv_at hl 0 rfl) ?_
  refine lv_iload hx hb dL_law_1476 (lv_at hl 4 rfl) ?_
  refine lv_iconst (v := 1) hx hb dL_law_1478 (by decide) ?_
  refine lv_iadd hx hb dL_law_1479 ?_
  refine scr hF hXs hbl hL hS (nIadd (4 * jj) 1) (by omega) hx1 dL_law_1480 ?_
  refine lv_aload_n hx hb dL_law_1481 rfl (lv_at hl 0 rfl) ?_
  refine lv_iload hx hb dL_law_1482 (lv_at hl 4 rfl) ?_
  refine lv_iconst (v := 2) hx hb dL_law_1484 (by decide) ?_
  refine lv_iadd hx hb dL_law_1485 ?_
  refine scr hF hXs hbl hL hS (nIadd (4 * jj) 2) (by omega) hx2 dL_law_1486 ?_
  refine lv_aload_n hx hb dL_law_1487 rfl (lv_at hl 3 rfl) ?_
  refine wSWi (mc := 0) (ms := 0) (As := [.ref (q 0), .int (nI i), .int (nI x), .ref o]) (rest := []) hF (gL_ambiguousWith hok i x hi hx10) (Wm.and C0.mv.wm O1.mv.wm) (fun _ => O1.mv) ⟨hX, hO⟩ jyL_ambiguousWith kl_RL_202 ⟨rfl, rfl⟩ ⟨Nat.le_of_ble_eq_true rfl, Nat.le_of_ble_eq_true rfl⟩ rfl hl.1 rfl (Nat.le_of_ble_eq_true rfl) ⟨Nat.le_trans (by omega) hce.1, Nat.le_trans (by omega) hce.2⟩ hS (fun a _ h => by rw [h]; exact hs3) (fun a h => by rw [h]; exact hs3) dL_law_1488 (fun ra ua H locs hp hX9 hz hk hS => ?_)
  have hX := C0.kept hX (fun a ha => hk a (hX.lt ha) (hs1 a ha).2.2)
  have hM := M0.kept hM (fun a ha => hk a (hM.lt ha) (hs2 a ha).2)
  have hO := hX9
  obtain ⟨hr0, hf0⟩ := hp
  rw [hr0]
  refine lv_istore (lv' := [(5, .int 0), (0, .ref sb), (1, .ref (q 0)), (2, .ref (q2 0)), (3, .ref o), (4, .int (nI (4 * jj)))]) hx hb dL_law_1491 hl (by decide) rfl (fun ls hl => ?_)
  refine lv_aload_n hx hb dL_law_1493 rfl (lv_at hl 3 rfl) ?_
  refine lv_aload_n hx hb dL_law_1494 rfl (lv_at hl 1 rfl) ?_
  refine lv_iload hx hb dL_law_1495 (lv_at hl 5 rfl) ?_
  refine lv_iconst (v := 1) hx hb dL_law_1497 (by decide) ?_
  refine lv_iadd hx hb dL_law_1498 ?_
  refine scr hF hXs hbl hL hS (nIadd (4 * jj) 1) (by omega) hx1 dL_law_1499 ?_
  refine lv_aload_n hx hb dL_law_1500 rfl (lv_at hl 1 rfl) ?_
  refine lv_iload hx hb dL_law_1501 (lv_at hl 5 rfl) ?_
  refine lv_iconst (v := 2) hx hb dL_law_1503 (by decide) ?_
  refine lv_iadd hx hb dL_law_1504 ?_
  refine scr hF hXs hbl hL hS (nIadd (4 * jj) 2) (by omega) hx2 dL_law_1505 ?_
  refine wVi (mc := 0) (ms := 0) (As := [.int (nI i), .int (nI x)]) (rest := []) hF (mX1_ambiguousWith hok i hi x hx10) M0.mv (fun _ => M0.mv) hM hM.rc jyX1_ambiguousWith kl_RL_204 ⟨rfl, rfl⟩ ⟨Nat.le_of_ble_eq_true rfl, Nat.le_of_ble_eq_true rfl⟩ rfl hl.1 rfl (Nat.le_of_ble_eq_true rfl) ⟨Nat.le_trans (by omega) hce.1, Nat.le_trans (by omega) hce.2⟩ hS (fun a _ h => (hs2 a h).1) (fun a h => (hs2 a h).1) dL_law_1506 (fun rb ub H locs hp hM9 hz hk hS => ?_)
  have hX := C0.kept hX (fun a ha => hk a (hX.lt ha) (hs1 a ha).2.1)
  have hO := O1.kept hO (hk o hO.lt (fun h => (hs2 o h).2 rfl))
  have hM := hM9
  rw [hp]
  refine lv_istore (lv' := [(6, .int (unW v st N i (nI x))), (5, .int 0), (0, .ref sb), (1, .ref (q 0)), (2, .ref (q2 0)), (3, .ref o), (4, .int (nI (4 * jj)))]) hx hb dL_law_1509 hl (by decide) rfl (fun ls hl => ?_)
  refine lv_aload_n hx hb dL_law_1511 rfl (lv_at hl 4 rfl) ?_
  refine cVi (As := []) (rest := []) hF mX1_thrown M0.mv hM hM.rc jyX1_thrown kl_RL_93 ⟨rfl, rfl⟩ ⟨Nat.le_of_ble_eq_true rfl, Nat.le_of_ble_eq_true rfl⟩ rfl hl.1 rfl (Nat.le_of_ble_eq_true rfl) ⟨Nat.le_trans (by omega) hce.1, Nat.le_trans (by omega) hce.2⟩ dL_law_1512 (fun r hr9 => ?_)
  rw [hr9]
  refine lv_iload hx hb dL_law_1515 (lv_at hl 1 rfl) ?_
  refine lv_icmp_eq (tgt := 1522) hx hb dL_law_1517 (by decide) (fun c1517 => ?_) (fun c1517 => ?_)
  · refine lv_iload hx hb dL_law_1522 (lv_at hl 1 rfl) ?_
    refine lv_if_ne (tgt := 1539) hx hb dL_law_1524 (by decide) (fun c1524 => ?_) (fun c1524 => ?_)
    · exact absurd rfl c1524
    · refine lv_aload_n hx hb dL_law_1527 rfl (lv_at hl 5 rfl) ?_
      refine lv_iconst (v := 0) hx hb dL_law_1528 (by decide) ?_
      refine O1.ld hF hO dL_law_1529 ?_
      refine topL hf0 ?_
      refine lv_iload hx hb dL_law_1530 (lv_at hl 0 rfl) ?_
      refine lv_i2l hx hb dL_law_1532 rfl ?_
      refine W.lcmp hx hb dL_law_1533 ?_
      refine lv_if_eq (tgt := 1539) hx hb dL_law_1534 (by decide) (fun c1534 => ?_) (fun c1534 => ?_)
      · refine lv_goto (tgt := 1666) hx hb dL_law_1539 (by decide) ?_
        exact W.widen (by omega) (by omega) (KK N st v mk w 0 md ub ua H locs ls ⟨⟨hX, hM, hO⟩, ⟨hok, hde, hmk⟩⟩ hS (lv_sub hl [2, 3, 4, 5, 6] rfl))
      · exact absurd ((lg_cmp_eq _ _).mpr rfl) c1534
  · exact absurd rfl c1517
set_option maxHeartbeats 4000000 in
set_option maxRecDepth 100000 in
theorem k_ambiguousWith_b1 (hF : CallFix p m c cL_law 9 s args wA RL) (hfx : FX l s q q2 o t1 t2 t3 sb L xs) (hce : cells + 20 ≤ 601024 ∧ slots + 150 ≤ 7293034) (hj : 4 * jj + 4 ≤ L) (a b : Int32) (hb9 : in10 a = false) (hI : RI D cyI cyZ cyL q q2 o N st v mk w th md w2 f s H) (hS : va_S (A9 s) s.heap H locs) (hl : lv_has ls 9 (LC sb q q2 o jj)) (hx1 : xs (4 * jj + 1) = a) (hx2 : xs (4 * jj + 2) = b)
    (KK : KT p l ev s m args below meth c cells slots Q D cyI cyZ cyL q q2 o sb jj) : W p l ev room_1 s m args below meth c H locs cells slots Q (F0 m 1474 ls []) := by
  obtain ⟨⟨hs1, hs2, hs3⟩, ⟨hZ, hZM, hTH, hNC⟩, ⟨hXs, hbl, hL⟩, hsT⟩ := hfx
  obtain ⟨⟨hX, hM, hO⟩, hok, hde, hmk⟩ := hI
  have hN := hok.1
  have ho : ¬ own 10 q o := fun h => (hs1 o h).2.2 rfl
  obtain ⟨hx, hb, hml, hown, hts⟩ := id hF
  refine lv_aload_n hx hb dL_law_1474 rfl (lv_at hl 1 rfl) ?_
  refine lv_aload_n hx hb dL_law_1475 rfl (lv_at hl 0 rfl) ?_
  refine lv_iload hx hb dL_law_1476 (lv_at hl 4 rfl) ?_
  refine lv_iconst (v := 1) hx hb dL_law_1478 (by decide) ?_
  refine lv_iadd hx hb dL_law_1479 ?_
  refine scr hF hXs hbl hL hS (nIadd (4 * jj) 1) (by omega) hx1 dL_law_1480 ?_
  refine lv_aload_n hx hb dL_law_1481 rfl (lv_at hl 0 rfl) ?_
  refine lv_iload hx hb dL_law_1482 (lv_at hl 4 rfl) ?_
  refine lv_iconst (v := 2) hx hb dL_law_1484 (by decide) ?_
  refine lv_iadd hx hb dL_law_1485 ?_
  refine scr hF hXs hbl hL hS (nIadd (4 * jj) 2) (by omega) hx2 dL_law_1486 ?_
  refine lv_aload_n hx hb dL_law_1487 rfl (lv_at hl 3 rfl) ?_
  refine wSWi (mc := 1) (ms := 6) (X1 := fun (_ : Unit) _ _ => True) (As := [.ref (q 0), .int a, .int b, .ref o]) (rest := []) hF (bL_ambiguousWith1 hsT a b hb9) (Wm.and (Wm.and C0.mv.wm TH.wm) NC.mv.wm) (fun _ => Mv.const) ⟨⟨hX, (hTH.kept hS.2.1).narrow (fun _ h => h.elim)⟩, hNC⟩ jyL_ambiguousWith kl_RL_202 ⟨rfl, rfl⟩ ⟨Nat.le_of_ble_eq_true rfl, Nat.le_of_ble_eq_true rfl⟩ rfl hl.1 rfl (Nat.le_of_ble_eq_true rfl) ⟨Nat.le_trans (by omega) hce.1, Nat.le_trans (by omega) hce.2⟩ hS (fun _ _ h => h.elim) (fun _ h => h.elim) dL_law_1488 (fun ra ua H locs hp hX9 hz hk hS => ?_)
  have hX := C0.kept hX (fun a ha => hk a (hX.lt ha) (fun h => h))
  have hM := M0.kept hM (fun a ha => hk a (hM.lt ha) (fun h => h))
  have hO := O1.kept hO (hk o hO.lt (fun h => h))
  have hr0 := hp
  rw [hr0]
  refine lv_istore (lv' := [(5, .int 1), (0, .ref sb), (1, .ref (q 0)), (2, .ref (q2 0)), (3, .ref o), (4, .int (nI (4 * jj)))]) hx hb dL_law_1491 hl (by decide) rfl (fun ls hl => ?_)
  refine lv_aload_n hx hb dL_law_1493 rfl (lv_at hl 3 rfl) ?_
  refine lv_aload_n hx hb dL_law_1494 rfl (lv_at hl 1 rfl) ?_
  refine lv_iload hx hb dL_law_1495 (lv_at hl 5 rfl) ?_
  refine lv_iconst (v := 1) hx hb dL_law_1497 (by decide) ?_
  refine lv_iadd hx hb dL_law_1498 ?_
  refine scr hF hXs hbl hL hS (nIadd (4 * jj) 1) (by omega) hx1 dL_law_1499 ?_
  refine lv_aload_n hx hb dL_law_1500 rfl (lv_at hl 1 rfl) ?_
  refine lv_iload hx hb dL_law_1501 (lv_at hl 5 rfl) ?_
  refine lv_iconst (v := 2) hx hb dL_law_1503 (by decide) ?_
  refine lv_iadd hx hb dL_law_1504 ?_
  refine scr hF hXs hbl hL hS (nIadd (4 * jj) 2) (by omega) hx2 dL_law_1505 ?_
  refine wVi (mc := 0) (ms := 0) (As := [.int a, .int b]) (rest := []) hF (nX1_ambiguousWith a b (by rw [in10_isI hb9]; rfl)) M0.mv (fun _ => M0.mv) hM hM.rc jyX1_ambiguousWith kl_RL_204 ⟨rfl, rfl⟩ ⟨Nat.le_of_ble_eq_true rfl, Nat.le_of_ble_eq_true rfl⟩ rfl hl.1 rfl (Nat.le_of_ble_eq_true rfl) ⟨Nat.le_trans (by omega) hce.1, Nat.le_trans (by omega) hce.2⟩ hS (fun a _ h => (hs2 a h).1) (fun a h => (hs2 a h).1) dL_law_1506 (fun rb ub H locs hp hM9 hz hk hS => ?_)
  have hX := C0.kept hX (fun a ha => hk a (hX.lt ha) (hs1 a ha).2.1)
  have hO := O1.kept hO (hk o hO.lt (fun h => (hs2 o h).2 rfl))
  have hM := hM9
  refine lv_istore (lv' := [(6, .int rb), (5, .int 1), (0, .ref sb), (1, .ref (q 0)), (2, .ref (q2 0)), (3, .ref o), (4, .int (nI (4 * jj)))]) hx hb dL_law_1509 hl (by decide) rfl (fun ls hl => ?_)
  refine lv_aload_n hx hb dL_law_1511 rfl (lv_at hl 4 rfl) ?_
  refine cVi (As := []) (rest := []) hF mX1_thrown M0.mv hM hM.rc jyX1_thrown kl_RL_93 ⟨rfl, rfl⟩ ⟨Nat.le_of_ble_eq_true rfl, Nat.le_of_ble_eq_true rfl⟩ rfl hl.1 rfl (Nat.le_of_ble_eq_true rfl) ⟨Nat.le_trans (by omega) hce.1, Nat.le_trans (by omega) hce.2⟩ dL_law_1512 (fun r hr9 => ?_)
  rw [hr9]
  refine lv_iload hx hb dL_law_1515 (lv_at hl 1 rfl) ?_
  refine lv_icmp_eq (tgt := 1522) hx hb dL_law_1517 (by decide) (fun c1517 => ?_) (fun c1517 => ?_)
  · refine lv_iload hx hb dL_law_1522 (lv_at hl 1 rfl) ?_
    refine lv_if_ne (tgt := 1539) hx hb dL_law_1524 (by decide) (fun c1524 => ?_) (fun c1524 => ?_)
    · refine lv_goto (tgt := 1666) hx hb dL_law_1539 (by decide) ?_
      exact W.widen (by omega) (by omega) (KK N st v mk w 1 md ub f H locs ls ⟨⟨hX, hM, hO⟩, ⟨hok, hde, hmk⟩⟩ hS (lv_sub hl [2, 3, 4, 5, 6] rfl))
    · exact absurd c1524 (by decide)
  · exact absurd rfl c1517
set_option maxHeartbeats 4000000 in
set_option maxRecDepth 100000 in
theorem k_ambiguousWith_b2 (hF : CallFix p m c cL_law 9 s args wA RL) (hfx : FX l s q q2 o t1 t2 t3 sb L xs) (hce : cells + 20 ≤ 601024 ∧ slots + 150 ≤ 7293034) (hj : 4 * jj + 4 ≤ L) (j : Nat) (hj10 : j < 10) (b : Int32) (hb9 : in10 b = false) (hI : RI D cyI cyZ cyL q q2 o N st v mk w th md w2 f s H) (hS : va_S (A9 s) s.heap H locs) (hl : lv_has ls 9 (LC sb q q2 o jj)) (hx1 : xs (4 * jj + 1) = nI j) (hx2 : xs (4 * jj + 2) = b)
    (KK : KT p l ev s m args below meth c cells slots Q D cyI cyZ cyL q q2 o sb jj) : W p l ev room_1 s m args below meth c H locs cells slots Q (F0 m 1474 ls []) := by
  obtain ⟨⟨hs1, hs2, hs3⟩, ⟨hZ, hZM, hTH, hNC⟩, ⟨hXs, hbl, hL⟩, hsT⟩ := hfx
  obtain ⟨⟨hX, hM, hO⟩, hok, hde, hmk⟩ := hI
  have hN := hok.1
  have ho : ¬ own 10 q o := fun h => (hs1 o h).2.2 rfl
  obtain ⟨hx, hb, hml, hown, hts⟩ := id hF
  refine lv_aload_n hx hb dL_law_1474 rfl (lv_at hl 1 rfl) ?_
  refine lv_aload_n hx hb dL_law_1475 rfl (lv_at hl 0 rfl) ?_
  refine lv_iload hx hb dL_law_1476 (lv_at hl 4 rfl) ?_
  refine lv_iconst (v := 1) hx hb dL_law_1478 (by decide) ?_
  refine lv_iadd hx hb dL_law_1479 ?_
  refine scr hF hXs hbl hL hS (nIadd (4 * jj) 1) (by omega) hx1 dL_law_1480 ?_
  refine lv_aload_n hx hb dL_law_1481 rfl (lv_at hl 0 rfl) ?_
  refine lv_iload hx hb dL_law_1482 (lv_at hl 4 rfl) ?_
  refine lv_iconst (v := 2) hx hb dL_law_1484 (by decide) ?_
  refine lv_iadd hx hb dL_law_1485 ?_
  refine scr hF hXs hbl hL hS (nIadd (4 * jj) 2) (by omega) hx2 dL_law_1486 ?_
  refine lv_aload_n hx hb dL_law_1487 rfl (lv_at hl 3 rfl) ?_
  refine wSWi (mc := 1) (ms := 6) (X1 := fun (_ : Unit) _ _ => True) (As := [.ref (q 0), .int (nI j), .int b, .ref o]) (rest := []) hF (bL_ambiguousWith2 hsT j hj10 b hb9) (Wm.and (Wm.and C0.mv.wm TH.wm) NC.mv.wm) (fun _ => Mv.const) ⟨⟨hX, (hTH.kept hS.2.1).narrow (fun _ h => h.elim)⟩, hNC⟩ jyL_ambiguousWith kl_RL_202 ⟨rfl, rfl⟩ ⟨Nat.le_of_ble_eq_true rfl, Nat.le_of_ble_eq_true rfl⟩ rfl hl.1 rfl (Nat.le_of_ble_eq_true rfl) ⟨Nat.le_trans (by omega) hce.1, Nat.le_trans (by omega) hce.2⟩ hS (fun _ _ h => h.elim) (fun _ h => h.elim) dL_law_1488 (fun ra ua H locs hp hX9 hz hk hS => ?_)
  have hX := C0.kept hX (fun a ha => hk a (hX.lt ha) (fun h => h))
  have hM := M0.kept hM (fun a ha => hk a (hM.lt ha) (fun h => h))
  have hO := O1.kept hO (hk o hO.lt (fun h => h))
  have hr0 := hp
  rw [hr0]
  refine lv_istore (lv' := [(5, .int 1), (0, .ref sb), (1, .ref (q 0)), (2, .ref (q2 0)), (3, .ref o), (4, .int (nI (4 * jj)))]) hx hb dL_law_1491 hl (by decide) rfl (fun ls hl => ?_)
  refine lv_aload_n hx hb dL_law_1493 rfl (lv_at hl 3 rfl) ?_
  refine lv_aload_n hx hb dL_law_1494 rfl (lv_at hl 1 rfl) ?_
  refine lv_iload hx hb dL_law_1495 (lv_at hl 5 rfl) ?_
  refine lv_iconst (v := 1) hx hb dL_law_1497 (by decide) ?_
  refine lv_iadd hx hb dL_law_1498 ?_
  refine scr hF hXs hbl hL hS (nIadd (4 * jj) 1) (by omega) hx1 dL_law_1499 ?_
  refine lv_aload_n hx hb dL_law_1500 rfl (lv_at hl 1 rfl) ?_
  refine lv_iload hx hb dL_law_1501 (lv_at hl 5 rfl) ?_
  refine lv_iconst (v := 2) hx hb dL_law_1503 (by decide) ?_
  refine lv_iadd hx hb dL_law_1504 ?_
  refine scr hF hXs hbl hL hS (nIadd (4 * jj) 2) (by omega) hx2 dL_law_1505 ?_
  refine wVi (mc := 0) (ms := 0) (As := [.int (nI j), .int b]) (rest := []) hF (nX1_ambiguousWith (nI j) b (by rw [in10_isI hb9]; simp)) M0.mv (fun _ => M0.mv) hM hM.rc jyX1_ambiguousWith kl_RL_204 ⟨rfl, rfl⟩ ⟨Nat.le_of_ble_eq_true rfl, Nat.le_of_ble_eq_true rfl⟩ rfl hl.1 rfl (Nat.le_of_ble_eq_true rfl) ⟨Nat.le_trans (by omega) hce.1, Nat.le_trans (by omega) hce.2⟩ hS (fun a _ h => (hs2 a h).1) (fun a h => (hs2 a h).1) dL_law_1506 (fun rb ub H locs hp hM9 hz hk hS => ?_)
  have hX := C0.kept hX (fun a ha => hk a (hX.lt ha) (hs1 a ha).2.1)
  have hO := O1.kept hO (hk o hO.lt (fun h => (hs2 o h).2 rfl))
  have hM := hM9
  refine lv_istore (lv' := [(6, .int rb), (5, .int 1), (0, .ref sb), (1, .ref (q 0)), (2, .ref (q2 0)), (3, .ref o), (4, .int (nI (4 * jj)))]) hx hb dL_law_1509 hl (by decide) rfl (fun ls hl => ?_)
  refine lv_aload_n hx hb dL_law_1511 rfl (lv_at hl 4 rfl) ?_
  refine cVi (As := []) (rest := []) hF mX1_thrown M0.mv hM hM.rc jyX1_thrown kl_RL_93 ⟨rfl, rfl⟩ ⟨Nat.le_of_ble_eq_true rfl, Nat.le_of_ble_eq_true rfl⟩ rfl hl.1 rfl (Nat.le_of_ble_eq_true rfl) ⟨Nat.le_trans (by omega) hce.1, Nat.le_trans (by omega) hce.2⟩ dL_law_1512 (fun r hr9 => ?_)
  rw [hr9]
  refine lv_iload hx hb dL_law_1515 (lv_at hl 1 rfl) ?_
  refine lv_icmp_eq (tgt := 1522) hx hb dL_law_1517 (by decide) (fun c1517 => ?_) (fun c1517 => ?_)
  · refine lv_iload hx hb dL_law_1522 (lv_at hl 1 rfl) ?_
    refine lv_if_ne (tgt := 1539) hx hb dL_law_1524 (by decide) (fun c1524 => ?_) (fun c1524 => ?_)
    · refine lv_goto (tgt := 1666) hx hb dL_law_1539 (by decide) ?_
      exact W.widen (by omega) (by omega) (KK N st v mk w 1 md ub f H locs ls ⟨⟨hX, hM, hO⟩, ⟨hok, hde, hmk⟩⟩ hS (lv_sub hl [2, 3, 4, 5, 6] rfl))
    · exact absurd c1524 (by decide)
  · exact absurd rfl c1517
set_option maxHeartbeats 4000000 in
set_option maxRecDepth 100000 in
theorem k_meanNote (hF : CallFix p m c cL_law 9 s args wA RL) (hfx : FX l s q q2 o t1 t2 t3 sb L xs) (hce : cells + 20 ≤ 601024 ∧ slots + 150 ≤ 7293034) (hj : 4 * jj + 4 ≤ L)  (hI : RI D cyI cyZ cyL q q2 o N st v mk w th md w2 f s H) (hS : va_S (A9 s) s.heap H locs) (hl : lv_has ls 9 (LC sb q q2 o jj)) 
    (KK : KT p l ev s m args below meth c cells slots Q D cyI cyZ cyL q q2 o sb jj) : W p l ev room_1 s m args below meth c H locs cells slots Q (F0 m 1611 ls []) := by
  obtain ⟨⟨hs1, hs2, hs3⟩, ⟨hZ, hZM, hTH, hNC⟩, ⟨hXs, hbl, hL⟩, hsT⟩ := hfx
  obtain ⟨⟨hX, hM, hO⟩, hok, hde, hmk⟩ := hI
  have hN := hok.1
  have ho : ¬ own 10 q o := fun h => (hs1 o h).2.2 rfl
  obtain ⟨hx, hb, hml, hown, hts⟩ := id hF
  refine lv_aload_n hx hb dL_law_1611 rfl (lv_at hl 1 rfl) ?_
  refine cVd (As := []) (rest := []) hF (mX0_meanNote hok hde) C0.mv hX hX.rc jyX0_meanNote kl_RL_212 ⟨rfl, rfl⟩ ⟨Nat.le_of_ble_eq_true rfl, Nat.le_of_ble_eq_true rfl⟩ rfl hl.1 rfl (Nat.le_of_ble_eq_true rfl) ⟨Nat.le_trans (by omega) hce.1, Nat.le_trans (by omega) hce.2⟩ dL_law_1612 (fun r hr9 => ?_)
  rw [hr9]
  refine lv_dstore (lv' := [(5, .double (mean v st N)), (0, .ref sb), (1, .ref (q 0)), (2, .ref (q2 0)), (3, .ref o), (4, .int (nI (4 * jj)))]) hx hb dL_law_1615 hl (by decide) rfl (fun ls hl => ?_)
  refine lv_aload_n hx hb dL_law_1617 rfl (lv_at hl 3 rfl) ?_
  refine wVd (mc := 0) (ms := 0) (As := []) (rest := []) hF (mX1_meanNote hok) M0.mv (fun _ => M0.mv) hM hM.rc jyX1_meanNote kl_RL_216 ⟨rfl, rfl⟩ ⟨Nat.le_of_ble_eq_true rfl, Nat.le_of_ble_eq_true rfl⟩ rfl hl.1 rfl (Nat.le_of_ble_eq_true rfl) ⟨Nat.le_trans (by omega) hce.1, Nat.le_trans (by omega) hce.2⟩ hS (fun a _ h => (hs2 a h).1) (fun a h => (hs2 a h).1) dL_law_1618 (fun rb ub H locs hp hM9 hz hk hS => ?_)
  have hX := C0.kept hX (fun a ha => hk a (hX.lt ha) (hs1 a ha).2.1)
  have hO := O1.kept hO (hk o hO.lt (fun h => (hs2 o h).2 rfl))
  have hM := hM9
  rw [hp]
  refine lv_dstore (lv' := [(7, .double (mean v st N)), (5, .double (mean v st N)), (0, .ref sb), (1, .ref (q 0)), (2, .ref (q2 0)), (3, .ref o), (4, .int (nI (4 * jj)))]) hx hb dL_law_1621 hl (by decide) rfl (fun ls hl => ?_)
  refine lv_dload hx hb dL_law_1623 (lv_at hl 1 rfl) ?_
  refine lv_dload hx hb dL_law_1625 (lv_at hl 0 rfl) ?_
  refine lv_dcmp hx hb dL_law_1627 ?_
  refine lv_if_eq (tgt := 1649) hx hb dL_law_1628 (by decide) (fun c1628 => ?_) (fun c1628 => ?_)
  · refine lv_goto (tgt := 1666) hx hb dL_law_1649 (by decide) ?_
    exact W.widen (by omega) (by omega) (KK N st v mk w 0 md ub f H locs ls ⟨⟨hX, hM, hO⟩, ⟨hok, hde, hmk⟩⟩ hS (lv_sub hl [2, 3, 4, 5, 6] rfl))
  · refine lv_dload hx hb dL_law_1631 (lv_at hl 1 rfl) ?_
    refine lv_dload hx hb dL_law_1633 (lv_at hl 1 rfl) ?_
    refine lv_dcmp hx hb dL_law_1635 ?_
    refine lv_if_eq (tgt := 1647) hx hb dL_law_1636 (by decide) (fun c1636 => ?_) (fun c1636 => ?_)
    · exact absurd c1636 c1628
    · refine lv_dload hx hb dL_law_1639 (lv_at hl 0 rfl) ?_
      refine lv_dload hx hb dL_law_1641 (lv_at hl 0 rfl) ?_
      refine lv_dcmp hx hb dL_law_1643 ?_
      refine lv_if_ne (tgt := 1649) hx hb dL_law_1644 (by decide) (fun c1644 => ?_) (fun c1644 => ?_)
      · refine lv_goto (tgt := 1666) hx hb dL_law_1649 (by decide) ?_
        exact W.widen (by omega) (by omega) (KK N st v mk w 0 md ub f H locs ls ⟨⟨hX, hM, hO⟩, ⟨hok, hde, hmk⟩⟩ hS (lv_sub hl [2, 3, 4, 5, 6] rfl))
      · exact absurd c1644 c1628
end P32
