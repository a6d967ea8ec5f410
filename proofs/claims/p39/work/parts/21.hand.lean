section R21
theorem sF {s t : State} {H : Heap} {locs : List Loc} (hS : va_S (fun q => s.heap.size ≤ q) s.heap H locs) (ht : t.heap = H) : va_F (fun _ => False) s t := ⟨by rw [ht]; exact hS.1, fun q h1 _ => by rw [ht]; exact hS.2.1 q h1 (Nat.not_le.mpr h1)⟩
theorem IA.upK {cyI : ClassId} {a n : Nat} {f : Nat → Int32} {H H1 : Heap} (h : IA cyI a n f H) (ho : ∀ q : Nat, q < H.size → H1[q]? = H[q]?) : IA cyI a n f H1 := h.k (ho _ h.lt)
theorem QA.upK {cyA : ClassId} {a n : Nat} {f : Nat → Option Nat} {H H1 : Heap} (h : QA cyA a n f H) (ho : ∀ q : Nat, q < H.size → H1[q]? = H[q]?) : QA cyA a n f H1 := h.k (ho _ h.lt)
theorem OB.upK {D : va_G} {a : Nat} {fs : List Value} {H H1 : Heap} (h : OB D a fs H) (ho : ∀ q : Nat, q < H.size → H1[q]? = H[q]?) : OB D a fs H1 := h.k (ho _ h.lt)
theorem C0.upK {D : va_G} {cyI cyZ : ClassId} {q : Nat → Nat} {n st : Int32} {v : Nat → Nat → Int32} {mk : Nat → Bool} {w : Nat → Nat → Int32} {s : State} {H H1 : Heap} (h : C0 D cyI cyZ q n st v mk w s H) (ho : ∀ q : Nat, q < H.size → H1[q]? = H[q]?) : C0 D cyI cyZ q n st v mk w s H1 := h.kept (fun b hb => ho b (h.lt hb))
theorem KS.mv {D : va_G} {cyI cyA : ClassId} : Mv (fun U _ => KS D cyI cyA U) := fun _ _ _ al h => h.moved al
theorem IA.mv {cyI : ClassId} {a n : Nat} {f : Nat → Int32} : Mv (fun _ H => IA cyI a n f H) := fun _ _ _ _ h => h
theorem QA.mv {cyA : ClassId} {a n : Nat} {f : Nat → Option Nat} : Mv (fun _ H => QA cyA a n f H) := fun _ _ _ _ h => h
theorem OB.mv {D : va_G} {a : Nat} {fs : List Value} : Mv (fun _ H => OB D a fs H) := fun _ _ _ _ h => h
theorem heapMv {P : Heap → Prop} : Mv (fun _ H => P H) := fun _ _ _ _ h => h
end R21
section R22
variable {p : Program} {l : Launch} {e : Env} {R : Room} {s : State} {m : MethodId} {args : Array Value} {below : List Frame} {meth : Method} {c : Code} {H : Heap} {locs : List Loc} {cells slots : Nat} {Q : State → Prop}
variable {cc : ByteArray} {nL pc idx k maxL : Nat} {ls : Array Slot} {own C : String} {y : MethodName} {bytes : ByteArray} {ret : Option FieldType} {rm : Room} {b : Addr} {As rest st0 : List Value} {X : State → Heap → Prop}
variable {σ : Type} {X1 : σ → Nat → State → Heap → Prop} {A0 A1 : Nat → Prop} {H0 : Heap} {mc ms : Nat} {free : Addr → Prop}
theorem wVr {post : σ → Prop} (hF : CallFix p m c cc nL s args wA own) (hM : Met l y (wm y bytes maxL ret) rm (va_Pc (.ref b :: As) (fun U => X U U.heap)) (va_Qr post (fun u a U => X1 u a U U.heap) A1) mc ms free) (hmv : Mv X) (hmv1 : ∀ u a, Mv (X1 u a)) (hX : X s H) (hrc : Rc C b s H) (hi : IM C y bytes maxL ret k) (hlk : Cond.methodLink own idx y ∈ wA)
    (h0 : rm.cells = mc ∧ rm.slots = ms) (hR : rm.frames + 1 ≤ R.frames ∧ 8 + (maxL + 11) + rm.locals ≤ R.locals) (hk : As.length = k) (hsz : ls.size = nL) (hst : st0 = As.reverse ++ .ref b :: rest) (hW : (rest.map fun v => v.category).sum ≤ 8) (hcs : cells + mc ≤ R.cells ∧ slots + ms ≤ R.slots) (hS : va_S A0 H0 H locs) (hA : ∀ q, q < H.size → A1 q → A0 q) (hf : ∀ q, free q → A0 q) (hdg : decode cc pc = .ok (.invokevirtual idx, 3))
    (kk : ∀ (u : σ) (ra : Nat) (H1 : Heap) (locs1 : List Loc), post u → X1 u ra s H1 → H.size ≤ H1.size → (∀ q : Nat, q < H.size → ¬ A1 q → H1[q]? = H[q]?) → va_S A0 H0 H1 locs1 → W p l e R s m args below meth c H1 locs1 (cells + mc) (slots + ms) Q (F0 m (pc + 3) ls (.ref ra :: rest))) : W p l e R s m args below meth c H locs cells slots Q (F0 m pc ls st0) :=
  va_callr (va_runV hF hM (cwV k hF.2.2.2.2 (gV hlk hi.1) rfl h0.1 h0.2 hi.2 hR) ⟨mvBlind hmv, hrc, fun U hU hW => mvPre hmv hX hU hW⟩ rfl hk hsz hst (lv_room hW) hdg hcs) hS hA hf (fun u ra t H1 locs1 ht hvm hp hB hz hk1 hS1 => kk u ra H1 locs1 hp (by subst ht; exact hmv1 u ra t s t.heap hvm.symm hB) hz hk1 hS1)
theorem wSr {post : σ → Prop} (hF : CallFix p m c cc nL s args wA own) (hM : Met l y (wm y bytes maxL ret) rm (va_Pc As (fun U => X U U.heap)) (va_Qr post (fun u a U => X1 u a U U.heap) A1) mc ms free) (hmv : Mv X) (hmv1 : ∀ u a, Mv (X1 u a)) (hX : X s H) (hi : SM y bytes maxL ret k) (hlk : Cond.methodLink own idx y ∈ wA)
    (h0 : rm.cells = mc ∧ rm.slots = ms) (hR : rm.frames + 1 ≤ R.frames ∧ 8 + (maxL + 11) + rm.locals ≤ R.locals) (hk : As.length = k) (hsz : ls.size = nL) (hst : st0 = As.reverse ++ rest) (hW : (rest.map fun v => v.category).sum ≤ 8) (hcs : cells + mc ≤ R.cells ∧ slots + ms ≤ R.slots) (hS : va_S A0 H0 H locs) (hA : ∀ q, q < H.size → A1 q → A0 q) (hf : ∀ q, free q → A0 q) (hdg : decode cc pc = .ok (.invokestatic idx, 3))
    (kk : ∀ (u : σ) (ra : Nat) (H1 : Heap) (locs1 : List Loc), post u → X1 u ra s H1 → H.size ≤ H1.size → (∀ q : Nat, q < H.size → ¬ A1 q → H1[q]? = H[q]?) → va_S A0 H0 H1 locs1 → W p l e R s m args below meth c H1 locs1 (cells + mc) (slots + ms) Q (F0 m (pc + 3) ls (.ref ra :: rest))) : W p l e R s m args below meth c H locs cells slots Q (F0 m pc ls st0) :=
  va_callr (va_runS hF hM (va_cwS k hF.2.2.2.2 (gS hlk hi.1) rfl h0.1 h0.2 hi.2 hR) ⟨mvBlind hmv, fun U hU hW => mvPre hmv hX hU hW⟩ rfl hk hsz hst (lv_room hW) hdg hcs) hS hA hf (fun u ra t H1 locs1 ht hvm hp hB hz hk1 hS1 => kk u ra H1 locs1 hp (by subst ht; exact hmv1 u ra t s t.heap hvm.symm hB) hz hk1 hS1)
end R22

/-! WHAT THE SONG BY HAND ANSWERS -/
theorem ifc {α : Type} {c d : Prop} [Decidable c] [Decidable d] (h : c ↔ d) (x y : α) : (if c then x else y) = (if d then x else y) := by
  by_cases hc : c
  · rw [if_pos hc, if_pos (h.mp hc)]
  · rw [if_neg hc, if_neg (fun q => hc (h.mpr q))]
def ahd (r : Nat → Nat → Int32) (k : Nat) : Int32 := if k = 0 then 12 else r (k - 1) 3
/-- a leg's row behind singing -/
def sgR (T : Nat → Int32) (st : Int32) (b : Bool) (r : Nat → Nat → Int32) (k i : Nat) : Int32 := if i = 3 then nt T st (k + 1) else if i = 4 then (if nt T st (k + 1) = nt T st k + T k * st then 0 else 1) else if i = 5 ∧ b = true then 0 else r k i
def SgI (T : Nat → Int32) (st : Int32) (b : Bool) (r : Nat → Nat → Int32) (j : Nat) (r2 : Nat → Nat → Int32) : Prop := (∀ k : Nat, k < j → ∀ i : Nat, i < 6 → r2 k i = sgR T st b r k i) ∧ ∀ k : Nat, ¬ k < j → r2 k = r k
section F21
variable {T : Nat → Int32} {st : Int32} {b : Bool} {r r2 : Nat → Nat → Int32} {j : Nat}
theorem sg_ahd (h : SgI T st b r j r2) : ahd r2 j = nt T st j := by
  unfold ahd
  cases j with
  | zero => rfl
  | succ i =>
    rw [if_neg (Nat.succ_ne_zero i), Nat.add_sub_cancel, h.1 i (Nat.lt_succ_self i) 3 (by decide)]
    rfl
theorem sg_t (h : SgI T st b r j r2) (hT : r j 0 = T j) : r2 j 0 = T j := by rw [h.2 j (Nat.lt_irrefl j), hT]
theorem sg_n (h : SgI T st b r j r2) (hT : r j 0 = T j) : nb (ahd r2 j) (r2 j 0 * st) = nt T st (j + 1) := by rw [sg_ahd h, sg_t h hT]; rfl
theorem ahd_up (f : Nat → Int32) : ahd (va_up r2 j f) j = ahd r2 j := by
  unfold ahd
  by_cases h : j = 0
  · rw [if_pos h, if_pos h]
  · rw [if_neg h, if_neg h]
    simp only [va_up]
    rw [if_neg (by omega)]
theorem vup_s (f : Nat → Int32) : (va_up r2 j f) j = f := by simp [va_up]
theorem sg_next {x y z : Int32} (h : SgI T st b r j r2) (hx : x = nt T st (j + 1)) (hy : y = if nt T st (j + 1) = nt T st j + T j * st then 0 else 1) (f : Nat → Nat → Int32) (hf : f = va_up (va_up r2 j (upd (r2 j) 3 x)) j (upd ((va_up r2 j (upd (r2 j) 3 x)) j) 4 y)) (g : Nat → Nat → Int32) (hg : (b = true ∧ z = 0 ∧ g = va_up f j (upd (f j) 5 z)) ∨ (b = false ∧ g = f)) : SgI T st b r (j + 1) g := by
  subst hf
  have key : ∀ k : Nat, k ≠ j → g k = r2 k := by
    intro k hk
    rcases hg with ⟨-, -, e⟩ | ⟨-, e⟩ <;> subst e <;> simp [va_up, hk]
  have h0 : r2 j = r j := h.2 j (Nat.lt_irrefl j)
  refine ⟨fun k hk i hi => ?_, fun k hk => ?_⟩
  · by_cases hkj : k = j
    · subst hkj
      rcases hg with ⟨hb, hz, e⟩ | ⟨hb, e⟩ <;> subst e <;> subst hb
      · subst hz
        match i, hi with
        | 0, _ => simp [va_up, upd, sgR, h0]
        | 1, _ => simp [va_up, upd, sgR, h0]
        | 2, _ => simp [va_up, upd, sgR, h0]
        | 3, _ => simp [va_up, upd, sgR, hx]
        | 4, _ => simp [va_up, upd, sgR, hy]
        | 5, _ => simp [va_up, upd, sgR]
      · match i, hi with
        | 0, _ => simp [va_up, upd, sgR, h0]
        | 1, _ => simp [va_up, upd, sgR, h0]
        | 2, _ => simp [va_up, upd, sgR, h0]
        | 3, _ => simp [va_up, upd, sgR, hx]
        | 4, _ => simp [va_up, upd, sgR, hy]
        | 5, _ => simp [va_up, upd, sgR, h0]
    · rw [key k hkj]
      exact h.1 k (by omega) i hi
  · rw [key k (by omega)]
    exact h.2 k (by omega)
end F21
/-- the rows of a song that all is right of -/
def rowV (v : Nat → Nat → Int32) (st : Int32) (mk : Nat → Bool) (k : Nat) : Nat → Int32
  | 0 => v 0 k
  | 1 => v 1 k
  | 2 => v 2 k
  | 3 => nt (v 0) st (k + 1)
  | 4 => b2i (fold1 v st k)
  | _ => b2i (mk k)
def rdM (v : Nat → Nat → Int32) (st : Int32) (k e j : Nat) : Int32 := tsa (nt (v 0) st (k + 1)) (nt (v 0) st k) st e * lc (v 3) (wd v k) 10 + (if nb (nt (v 0) st k) ((nI e - 3) * st) = nt (v 0) st (k + 1) then lc (v 3) (wd v k) j else 0)
def rdR (v : Nat → Nat → Int32) (st : Int32) (k e0 e j : Nat) : Int32 := if e0 < e ∨ (e = e0 ∧ ix (v 2 k) < j) then rrn v st k else -1
def rd2 (x y : Int32) : Nat → Int32 := fun i => if i = 0 then x else y
section F22
variable {v : Nat → Nat → Int32} {st : Int32} {mk : Nat → Bool} {k e e0 j N : Nat}
theorem rv_ahd : ahd (rowV v st mk) k = nt (v 0) st k := by
  unfold ahd
  cases k with
  | zero => rfl
  | succ i => rw [if_neg (Nat.succ_ne_zero i), Nat.add_sub_cancel]; rfl
theorem rdM_n (h : ¬ nb (nt (v 0) st k) ((nI e - 3) * st) = nt (v 0) st (k + 1)) : rdM v st k e (j + 1) = rdM v st k e j := by unfold rdM; rw [if_neg h, if_neg h]
theorem rdM_w (h : ¬ v 3 j = v 3 (ix (v 2 k))) : rdM v st k e (j + 1) = rdM v st k e j := by unfold rdM; rw [lc_f (x := wd v k) h]
theorem rdM_y (h1 : nb (nt (v 0) st k) ((nI e - 3) * st) = nt (v 0) st (k + 1)) (h2 : v 3 j = v 3 (ix (v 2 k))) : rdM v st k e (j + 1) = rdM v st k e j + 1 := by
  unfold rdM
  rw [if_pos h1, if_pos h1, lc_t (x := wd v k) h2, Int32.add_assoc]
theorem rdM_e : rdM v st k e 10 = rdM v st k (e + 1) 0 := by
  unfold rdM
  have h0 : ∀ c : Prop, [Decidable c] → (if c then lc (v 3) (wd v k) 0 else 0) = 0 := fun c _ => by split <;> rfl
  rw [h0, Int32.add_zero]
  by_cases h : nb (nt (v 0) st k) ((nI e - 3) * st) = nt (v 0) st (k + 1)
  · rw [if_pos h, tsa_t h, Int32.add_mul, Int32.one_mul]
  · rw [if_neg h, tsa_f h, Int32.add_zero]
theorem rdM_0 : rdM v st k 0 0 = 0 := by
  unfold rdM
  rw [show tsa (nt (v 0) st (k + 1)) (nt (v 0) st k) st 0 = 0 from rfl, Int32.zero_mul]
  split <;> rfl
theorem rdM_7 (hok : Ok N st v) : rdM v st k 7 0 = rdn v st k := by
  unfold rdM rdn
  rw [tsa7 hok hok.2.1 k]
  have h0 : ∀ c : Prop, [Decidable c] → (if c then lc (v 3) (wd v k) 0 else 0) = 0 := fun c _ => by split <;> rfl
  rw [h0, Int32.add_zero]
theorem rdR_m (h : ¬ (e = e0 ∧ j = ix (v 2 k))) : rdR v st k e0 e (j + 1) = rdR v st k e0 e j := by unfold rdR; exact ifc (by omega) _ _
theorem rdR_h (hok : Ok N st v) (he : e0 < 7) (hve : v 0 k = nI e0 - 3) (h1 : e = e0) (h2 : j = ix (v 2 k)) : rdR v st k e0 e (j + 1) = rdM v st k e j := by
  unfold rdR
  rw [if_pos (Or.inr ⟨h1, by omega⟩)]
  subst h1
  subst h2
  unfold rdM rrn
  rw [if_pos (show nb (nt (v 0) st k) ((nI e - 3) * st) = nt (v 0) st (k + 1) by rw [← hve]; rfl), tsaE hok he hve]
  congr 1
  split
  · rw [Int32.one_mul]
  · rw [Int32.zero_mul]
theorem rdR_e (h : ix (v 2 k) < 10) : rdR v st k e0 e 10 = rdR v st k e0 (e + 1) 0 := by unfold rdR; exact ifc (by omega) _ _
theorem rdR_0 : rdR v st k e0 0 0 = -1 := by unfold rdR; exact if_neg (by omega)
theorem rdR_7 (he : e0 < 7) : rdR v st k e0 7 0 = rrn v st k := by unfold rdR; exact if_pos (Or.inl he)
theorem rd_m1 (hve : v 0 k = nI e0 - 3) (h : ¬ nb (nt (v 0) st k) ((nI e - 3) * st) = nt (v 0) st (k + 1)) : ¬ (e = e0 ∧ j = ix (v 2 k)) := fun ⟨h1, _⟩ => h (by rw [h1, ← hve]; rfl)
theorem rd_m2 (h : ¬ v 3 j = v 3 (ix (v 2 k))) : ¬ (e = e0 ∧ j = ix (v 2 k)) := fun ⟨_, h2⟩ => h (by rw [h2])
theorem rd_m3 (hve : v 0 k = nI e0 - 3) (h : ¬ nI e - 3 = v 0 k) : ¬ (e = e0 ∧ j = ix (v 2 k)) := fun ⟨h1, _⟩ => h (by rw [h1, hve])
theorem rd_m4 (hok : Ok N st v) (h : ¬ nI j = v 2 k) : ¬ (e = e0 ∧ j = ix (v 2 k)) := fun ⟨_, h2⟩ => h (by rw [h2]; exact (okM hok k).symm)
theorem rd_e (he : e < 7) (he0 : e0 < 7) (hve : v 0 k = nI e0 - 3) (h : nI e - 3 = v 0 k) : e = e0 := by
  rw [hve] at h
  have h1 := congrArg Int32.toInt h
  rw [nI_3T (by omega), nI_3T (by omega)] at h1
  omega
theorem rd_j (hj : j < 10) (h : nI j = v 2 k) : j = ix (v 2 k) := by
  rw [← h]
  exact (nI_clamp (by omega)).symm
end F22
theorem rd2_c {cyI : ClassId} {x : Nat} {m r : Int32} {H : Heap} (h : IA cyI x 2 (upd (upd (fun _ => 0) 0 m) 1 r) H) : IA cyI x 2 (rd2 m r) H := h.c (fun k hk => by
  match k, hk with
  | 0, _ => simp [upd, rd2]
  | 1, _ => simp [upd, rd2])

section P21
variable {l : Launch} {D : va_G} {cyI cyZ cyA : ClassId} {q : Nat → Nat} {sm wd lg n N : Nat} {a : Nat → Nat} {st : Int32} {wv : Nat → Int32} {r : Nat → Nat → Int32} {v w : Nat → Nat → Int32} {mk : Nat → Bool}
set_option maxHeartbeats 4000000 in
set_option maxRecDepth 100000 in
theorem mX1_sung (a i : Int32) : Met l yX1_sung (wm yX1_sung cX1_sung 2 (some .int)) ({ frames := 0, cells := 0, slots := 0, locals := 0 } : Room) (va_Pc [.int a, .int i] (fun U => (fun _ _ => True : State → Heap → Prop) U U.heap)) (vp_Si (fun r => r = nb a i)) 0 0 (fun _ => False) := by
  refine mt (by decide) (Nat.le_of_ble_eq_true rfl) ?_
  intro p ev s m below meth c ls hF hr hlocks hnm hX hl
  have hF : CallFix p m c cX1_sung 2 s _ wA RX1 := hF
  obtain ⟨hx, hb, hml, hown, hts⟩ := id hF
  have hl : lv_has ls 2 [(0, .int a), (1, .int i)] := hl
  refine lv_iload_n hx hb dX1_sung_0 rfl (lv_at hl 0 rfl) ?_
  refine lv_iload_n hx hb dX1_sung_1 rfl (lv_at hl 1 rfl) ?_
  refine lv_iadd hx hb dX1_sung_2 ?_
  refine lv_if_lt (tgt := 14) hx hb dX1_sung_3 (by decide) (fun c3 => ?_) (fun c3 => ?_)
  · refine lv_iload_n hx hb dX1_sung_14 rfl (lv_at hl 0 rfl) ?_
    refine lv_iload_n hx hb dX1_sung_15 rfl (lv_at hl 1 rfl) ?_
    refine lv_isub hx hb dX1_sung_16 ?_
    refine lv_goto (tgt := 23) hx hb dX1_sung_17 (by decide) ?_
    exact W.iret hx hb hr (fun t ht hW => ⟨_, rfl, nb_t (by simp [lv9, c3]), ht⟩) (fun q hq => absurd hq List.not_mem_nil) dX1_sung_23
  · refine lv_iload_n hx hb dX1_sung_6 rfl (lv_at hl 0 rfl) ?_
    refine lv_iload_n hx hb dX1_sung_7 rfl (lv_at hl 1 rfl) ?_
    refine lv_iadd hx hb dX1_sung_8 ?_
    refine lv_bipush (v := 24) hx hb dX1_sung_9 (by decide) ?_
    refine lv_icmp_le (tgt := 20) hx hb dX1_sung_11 (by decide) (fun c11 => ?_) (fun c11 => ?_)
    · refine lv_iload_n hx hb dX1_sung_20 rfl (lv_at hl 0 rfl) ?_
      refine lv_iload_n hx hb dX1_sung_21 rfl (lv_at hl 1 rfl) ?_
      refine lv_iadd hx hb dX1_sung_22 ?_
      exact W.iret hx hb hr (fun t ht hW => ⟨_, rfl, nb_f (by simp [lv9, Int32.not_lt.mp c3, c11] <;> exact ⟨Int32.not_lt.mp c3, c11⟩), ht⟩) (fun q hq => absurd hq List.not_mem_nil) dX1_sung_23
    · refine lv_iload_n hx hb dX1_sung_14 rfl (lv_at hl 0 rfl) ?_
      refine lv_iload_n hx hb dX1_sung_15 rfl (lv_at hl 1 rfl) ?_
      refine lv_isub hx hb dX1_sung_16 ?_
      refine lv_goto (tgt := 23) hx hb dX1_sung_17 (by decide) ?_
      exact W.iret hx hb hr (fun t ht hW => ⟨_, rfl, nb_t (by simp [lv9, Int32.not_le.mp c11]), ht⟩) (fun q hq => absurd hq List.not_mem_nil) dX1_sung_23
set_option maxHeartbeats 4000000 in
set_option maxRecDepth 100000 in
theorem mX1_ahead (k : Nat) (hk : k < n) : Met l yX1_ahead (wm yX1_ahead cX1_ahead 2 (some .int)) ({ frames := 0, cells := 0, slots := 0, locals := 0 } : Room) (va_Pc [.ref sm, .int (nI k)] (fun U => S0 D cyI cyA sm wd lg a n st wv r U U.heap)) (vp_Si (fun r9 => r9 = ahd r k)) 0 0 (fun _ => False) := by
  refine mt (by decide) (Nat.le_of_ble_eq_true rfl) ?_
  intro p ev s m below meth c ls hF hr hlocks hnm hX hl
  have hF : CallFix p m c cX1_ahead 2 s _ wA RX1 := hF
  obtain ⟨hx, hb, hml, hown, hts⟩ := id hF
  have hX : S0 D cyI cyA sm wd lg a n st wv r s s.heap := hX
  have hl : lv_has ls 2 [(0, .ref sm), (1, .int (nI k))] := hl
  have hn16 := hX.n16
  refine lv_iload_n hx hb dX1_ahead_0 rfl (lv_at hl 1 rfl) ?_
  refine lv_if_ne (tgt := 9) hx hb dX1_ahead_1 (by decide) (fun c1 => ?_) (fun c1 => ?_)
  · have c1n : ¬ k = 0 := fun h9 => c1 ((nI_eq (a := k) (b := 0) (by omega) (by omega)).mpr h9)
    refine lv_aload_n hx hb dX1_ahead_9 rfl (lv_at hl 0 rfl) ?_
    refine S0.gL hF hX kf_RX1_9 dX1_ahead_10 ?_
    refine lv_iload_n hx hb dX1_ahead_13 rfl (lv_at hl 1 rfl) ?_
    refine lv_iconst (v := 1) hx hb dX1_ahead_14 (by decide) ?_
    refine lv_isub hx hb dX1_ahead_15 ?_
    refine S0.ldA hF hX (k - 1) (by omega) (nI_dec (by omega)) dX1_ahead_16 ?_
    refine lv_iconst (v := 3) hx hb dX1_ahead_17 (by decide) ?_
    refine S0.ldR hF hX (k - 1) (by omega) 3 (by decide) rfl dX1_ahead_18 ?_
    exact W.iret hx hb hr (fun t ht hW => ⟨_, rfl, (by unfold ahd; rw [if_neg c1n]), ht⟩) (fun q hq => absurd hq List.not_mem_nil) dX1_ahead_19
  · have c1n : k = 0 := (nI_eq (a := k) (b := 0) (by omega) (by omega)).mp c1
    obtain rfl : k = 0 := by omega
    refine lv_bipush (v := 12) hx hb dX1_ahead_4 (by decide) ?_
    refine lv_goto (tgt := 19) hx hb dX1_ahead_6 (by decide) ?_
    exact W.iret hx hb hr (fun t ht hW => ⟨_, rfl, rfl, ht⟩) (fun q hq => absurd hq List.not_mem_nil) dX1_ahead_19
set_option maxHeartbeats 4000000 in
set_option maxRecDepth 100000 in
theorem mX1_sing (T : Nat → Int32) (hT : ∀ k, k < n → r k 0 = T k) (b : Bool) : Met l yX1_sing (wm yX1_sing cX1_sing 4 none) ({ frames := 1, cells := 0, slots := 0, locals := 21 } : Room) (va_Pc [.ref sm, .int (b2i b)] (fun U => S0 D cyI cyA sm wd lg a n st wv r U U.heap)) (va_Qv (fun (_ : Unit) => True) (fun u U => (fun (_ : Unit) => (S0 D cyI cyA sm wd lg a n st wv (sgR T st b r) : State → Heap → Prop)) u U U.heap) (rowA a n)) 0 0 (rowA a n) := by
  refine mt (by decide) (Nat.le_of_ble_eq_true rfl) ?_
  intro p ev s m below meth c ls hF hr hlocks hnm hX hl
  have hF : CallFix p m c cX1_sing 4 s _ wA RX1 := hF
  obtain ⟨hx, hb, hml, hown, hts⟩ := id hF
  have hX : S0 D cyI cyA sm wd lg a n st wv r s s.heap := hX
  have hl : lv_has ls 4 [(0, .ref sm), (1, .int (b2i b))] := hl
  have hS : va_S (rowA a n) s.heap s.heap [] := va_S.rf
  have hn16 := hX.n16
  refine lv_iconst (v := 0) hx hb dX1_sing_0 (by decide) ?_
  refine lv_istore_n (lv' := [(2, .int 0), (0, .ref sm), (1, .int (b2i b))]) hx hb dX1_sing_1 rfl hl (by decide) rfl (fun ls hl => ?_)
  refine W.widen (k := 0) (n := 0) (by omega) (by omega) ?_
  refine lpC (σ := Nat) (τ := Nat → Nat → Int32) (fun j r8 ls H locs => (j ≤ n ∧ SgI T st b r j r8) ∧ (S0 D cyI cyA sm wd lg a n st wv r8 s H) ∧ va_S (rowA a n) s.heap H locs ∧ lv_has ls 4 [(0, .ref sm), (1, .int (b2i b)), (2, .int (nI j))]) (fun j r8 => n - j) (fun j => 0) (fun j => 0) (fun j r8 ls H locs hI ih => ?_) (0) r ⟨⟨Nat.zero_le _, fun k h => absurd h (Nat.not_lt_zero _), fun k _ => rfl⟩, hX, hS, lv_sub hl [1, 2, 0] rfl⟩
  obtain ⟨hj, hX, hS, hl⟩ := hI
  refine lv_iload_n hx hb dX1_sing_2 rfl (lv_at hl 2 rfl) ?_
  refine lv_aload_n hx hb dX1_sing_3 rfl (lv_at hl 0 rfl) ?_
  refine S0.gL hF hX kf_RX1_9 dX1_sing_4 ?_
  refine S0.len hF hX dX1_sing_7 ?_
  refine lv_icmp_ge (tgt := 79) hx hb dX1_sing_8 (by decide) (fun c8 => ?_) (fun c8 => ?_)
  · have c8n : n ≤ j := (nI_leI (a := n) (b := j) (by omega) (by omega)).mp c8
    obtain rfl : j = n := by omega
    exact W.vret hx hb hr (fun t ht hW => ⟨⟨(), rfl, trivial, wEnd S0.mv (hX.cg (fun _ _ => rfl) (fun k hk => hj.2.1 k hk)) ht hW⟩, hS.F ht⟩) hS.2.2 dX1_sing_79
  · have c8n : ¬ n ≤ j := fun h9 => c8 ((nI_leI (a := n) (b := j) (by omega) (by omega)).mpr h9)
    refine lv_aload_n hx hb dX1_sing_11 rfl (lv_at hl 0 rfl) ?_
    refine S0.gL hF hX kf_RX1_9 dX1_sing_12 ?_
    refine lv_iload_n hx hb dX1_sing_15 rfl (lv_at hl 2 rfl) ?_
    refine S0.ldA hF hX j (by omega) rfl dX1_sing_16 ?_
    refine lv_astore_n (lv' := [(3, .ref (a j)), (0, .ref sm), (1, .int (b2i b)), (2, .int (nI j))]) hx hb dX1_sing_17 rfl hl (by decide) rfl (fun ls hl => ?_)
    refine lv_aload_n hx hb dX1_sing_18 rfl (lv_at hl 0 rfl) ?_
    refine lv_iconst (v := 3) hx hb dX1_sing_19 (by decide) ?_
    refine lv_aload_n hx hb dX1_sing_20 rfl (lv_at hl 1 rfl) ?_
    refine lv_iload_n hx hb dX1_sing_21 rfl (lv_at hl 3 rfl) ?_
    refine cVi (As := [.int (nI j)]) (rest := [.int 3, .ref (a j)]) hF (mX1_ahead j (by omega)) S0.mv hX hX.rc jyX1_ahead kl_RX1_27 ⟨rfl, rfl⟩ ⟨Nat.le_of_ble_eq_true rfl, Nat.le_of_ble_eq_true rfl⟩ rfl hl.1 rfl (Nat.le_of_ble_eq_true rfl) ⟨(by show _ ≤ 0; omega), (by show _ ≤ 0; omega)⟩ dX1_sing_22 (fun r9 hr9 => ?_)
    subst hr9
    refine lv_aload_n hx hb dX1_sing_25 rfl (lv_at hl 0 rfl) ?_
    refine lv_iconst (v := 0) hx hb dX1_sing_26 (by decide) ?_
    refine S0.ldR hF hX j (by omega) 0 (by decide) rfl dX1_sing_27 ?_
    refine lv_aload_n hx hb dX1_sing_28 rfl (lv_at hl 1 rfl) ?_
    refine S0.gS hF hX kf_RX1_18 dX1_sing_29 ?_
    refine lv_imul hx hb dX1_sing_32 ?_
    refine cSi (As := [.int (ahd r8 j), .int ((r8 j 0) * st)]) (rest := [.int 3, .ref (a j)]) hF (mX1_sung (ahd r8 j) ((r8 j 0) * st)) Mv.const trivial jyX1_sung kl_RX1_31 ⟨rfl, rfl⟩ ⟨Nat.le_of_ble_eq_true rfl, Nat.le_of_ble_eq_true rfl⟩ rfl hl.1 rfl (Nat.le_of_ble_eq_true rfl) ⟨Nat.zero_le _, Nat.zero_le _⟩ dX1_sing_33 (fun r hr9 => ?_)
    subst hr9
    refine topI (show (nb (ahd r8 j) ((r8 j 0) * st)) = nt T st (j + 1) from sg_n hj.2 (hT j (by omega))) ?_
    refine S0.stR hF hX hS j (by omega) ⟨j, by omega, rfl⟩ 3 (by decide) rfl dX1_sing_36 (fun H locs hX hz oq hS => ?_)
    refine lv_aload_n hx hb dX1_sing_37 rfl (lv_at hl 0 rfl) ?_
    refine lv_iconst (v := 4) hx hb dX1_sing_38 (by decide) ?_
    refine lv_aload_n hx hb dX1_sing_39 rfl (lv_at hl 0 rfl) ?_
    refine lv_iconst (v := 3) hx hb dX1_sing_40 (by decide) ?_
    refine S0.ldR hF hX j (by omega) 3 (by decide) rfl dX1_sing_41 ?_
    refine topI (show ((va_up r8 j (upd (r8 j) 3 (nt T st (j + 1)))) j 3) = nt T st (j + 1) from by rw [vup_s]; simp [upd]) ?_
    refine lv_aload_n hx hb dX1_sing_42 rfl (lv_at hl 1 rfl) ?_
    refine lv_iload_n hx hb dX1_sing_43 rfl (lv_at hl 3 rfl) ?_
    refine cVi (As := [.int (nI j)]) (rest := [.int (nt T st (j + 1)), .int 4, .ref (a j)]) hF (mX1_ahead j (by omega)) S0.mv hX hX.rc jyX1_ahead kl_RX1_27 ⟨rfl, rfl⟩ ⟨Nat.le_of_ble_eq_true rfl, Nat.le_of_ble_eq_true rfl⟩ rfl hl.1 rfl (Nat.le_of_ble_eq_true rfl) ⟨(by show _ ≤ 0; omega), (by show _ ≤ 0; omega)⟩ dX1_sing_44 (fun r9 hr9 => ?_)
    subst hr9
    refine topI (show (ahd (va_up r8 j (upd (r8 j) 3 (nt T st (j + 1)))) j) = nt T st j from by rw [ahd_up]; exact sg_ahd hj.2) ?_
    refine lv_aload_n hx hb dX1_sing_47 rfl (lv_at hl 0 rfl) ?_
    refine lv_iconst (v := 0) hx hb dX1_sing_48 (by decide) ?_
    refine S0.ldR hF hX j (by omega) 0 (by decide) rfl dX1_sing_49 ?_
    refine topI (show ((va_up r8 j (upd (r8 j) 3 (nt T st (j + 1)))) j 0) = T j from by rw [vup_s]; simp only [upd]; rw [if_neg (by decide)]; exact sg_t hj.2 (hT j (by omega))) ?_
    refine lv_aload_n hx hb dX1_sing_50 rfl (lv_at hl 1 rfl) ?_
    refine S0.gS hF hX kf_RX1_18 dX1_sing_51 ?_
    refine lv_imul hx hb dX1_sing_54 ?_
    refine lv_iadd hx hb dX1_sing_55 ?_
    refine lv_icmp_ne (tgt := 63) hx hb dX1_sing_56 (by decide) (fun c56 => ?_) (fun c56 => ?_)
    · refine lv_iconst (v := 1) hx hb dX1_sing_63 (by decide) ?_
      refine S0.stR hF hX hS j (by omega) ⟨j, by omega, rfl⟩ 4 (by decide) rfl dX1_sing_64 (fun H locs hX hz oq hS => ?_)
      refine lv_iload_n hx hb dX1_sing_65 rfl (lv_at hl 2 rfl) ?_
      refine lv_if_eq (tgt := 73) hx hb dX1_sing_66 (by decide) (fun c66 => ?_) (fun c66 => ?_)
      · have c66b := b2i_f c66
        refine lv_iinc (v := (nI (j + 1))) (lv' := [(2, .int (nI (j + 1))), (3, .ref (a j)), (0, .ref sm), (1, .int (b2i b))]) hx hb dX1_sing_73 hl (k := 3) rfl (nI_1 _) (by decide) rfl (fun ls hl => ?_)
        refine lv_goto (tgt := 2) hx hb dX1_sing_76 (by decide) ?_
        refine W.widen (k := 0) (n := 0) (by omega) (by omega) ?_
        exact ih (j + 1) (va_up (va_up r8 j (upd (r8 j) 3 (nt T st (j + 1)))) j (upd ((va_up r8 j (upd (r8 j) 3 (nt T st (j + 1)))) j) 4 1)) ls H locs (by omega) ⟨⟨by omega, sg_next (z := 0) hj.2 rfl (y := 1) (if_neg c56).symm _ rfl _ (Or.inr ⟨c66b, rfl⟩)⟩, hX, hS, by exact lv_sub hl [2, 3, 0] rfl⟩
      · have c66b := b2i_t c66
        refine lv_aload_n hx hb dX1_sing_69 rfl (lv_at hl 0 rfl) ?_
        refine lv_iconst (v := 5) hx hb dX1_sing_70 (by decide) ?_
        refine lv_iconst (v := 0) hx hb dX1_sing_71 (by decide) ?_
        refine S0.stR hF hX hS j (by omega) ⟨j, by omega, rfl⟩ 5 (by decide) rfl dX1_sing_72 (fun H locs hX hz oq hS => ?_)
        refine lv_iinc (v := (nI (j + 1))) (lv' := [(2, .int (nI (j + 1))), (3, .ref (a j)), (0, .ref sm), (1, .int (b2i b))]) hx hb dX1_sing_73 hl (k := 3) rfl (nI_1 _) (by decide) rfl (fun ls hl => ?_)
        refine lv_goto (tgt := 2) hx hb dX1_sing_76 (by decide) ?_
        refine W.widen (k := 0) (n := 0) (by omega) (by omega) ?_
        exact ih (j + 1) (va_up (va_up (va_up r8 j (upd (r8 j) 3 (nt T st (j + 1)))) j (upd ((va_up r8 j (upd (r8 j) 3 (nt T st (j + 1)))) j) 4 1)) j (upd ((va_up (va_up r8 j (upd (r8 j) 3 (nt T st (j + 1)))) j (upd ((va_up r8 j (upd (r8 j) 3 (nt T st (j + 1)))) j) 4 1)) j) 5 0)) ls H locs (by omega) ⟨⟨by omega, sg_next (z := 0) hj.2 rfl (y := 1) (if_neg c56).symm _ rfl _ (Or.inl ⟨c66b, rfl, rfl⟩)⟩, hX, hS, by exact lv_sub hl [2, 3, 0] rfl⟩
    · refine lv_iconst (v := 0) hx hb dX1_sing_59 (by decide) ?_
      refine lv_goto (tgt := 64) hx hb dX1_sing_60 (by decide) ?_
      refine S0.stR hF hX hS j (by omega) ⟨j, by omega, rfl⟩ 4 (by decide) rfl dX1_sing_64 (fun H locs hX hz oq hS => ?_)
      refine lv_iload_n hx hb dX1_sing_65 rfl (lv_at hl 2 rfl) ?_
      refine lv_if_eq (tgt := 73) hx hb dX1_sing_66 (by decide) (fun c66 => ?_) (fun c66 => ?_)
      · have c66b := b2i_f c66
        refine lv_iinc (v := (nI (j + 1))) (lv' := [(2, .int (nI (j + 1))), (3, .ref (a j)), (0, .ref sm), (1, .int (b2i b))]) hx hb dX1_sing_73 hl (k := 3) rfl (nI_1 _) (by decide) rfl (fun ls hl => ?_)
        refine lv_goto (tgt := 2) hx hb dX1_sing_76 (by decide) ?_
        refine W.widen (k := 0) (n := 0) (by omega) (by omega) ?_
        exact ih (j + 1) (va_up (va_up r8 j (upd (r8 j) 3 (nt T st (j + 1)))) j (upd ((va_up r8 j (upd (r8 j) 3 (nt T st (j + 1)))) j) 4 0)) ls H locs (by omega) ⟨⟨by omega, sg_next (z := 0) hj.2 rfl (y := 0) (if_pos c56).symm _ rfl _ (Or.inr ⟨c66b, rfl⟩)⟩, hX, hS, by exact lv_sub hl [2, 3, 0] rfl⟩
      · have c66b := b2i_t c66
        refine lv_aload_n hx hb dX1_sing_69 rfl (lv_at hl 0 rfl) ?_
        refine lv_iconst (v := 5) hx hb dX1_sing_70 (by decide) ?_
        refine lv_iconst (v := 0) hx hb dX1_sing_71 (by decide) ?_
        refine S0.stR hF hX hS j (by omega) ⟨j, by omega, rfl⟩ 5 (by decide) rfl dX1_sing_72 (fun H locs hX hz oq hS => ?_)
        refine lv_iinc (v := (nI (j + 1))) (lv' := [(2, .int (nI (j + 1))), (3, .ref (a j)), (0, .ref sm), (1, .int (b2i b))]) hx hb dX1_sing_73 hl (k := 3) rfl (nI_1 _) (by decide) rfl (fun ls hl => ?_)
        refine lv_goto (tgt := 2) hx hb dX1_sing_76 (by decide) ?_
        refine W.widen (k := 0) (n := 0) (by omega) (by omega) ?_
        exact ih (j + 1) (va_up (va_up (va_up r8 j (upd (r8 j) 3 (nt T st (j + 1)))) j (upd ((va_up r8 j (upd (r8 j) 3 (nt T st (j + 1)))) j) 4 0)) j (upd ((va_up (va_up r8 j (upd (r8 j) 3 (nt T st (j + 1)))) j (upd ((va_up r8 j (upd (r8 j) 3 (nt T st (j + 1)))) j) 4 0)) j) 5 0)) ls H locs (by omega) ⟨⟨by omega, sg_next (z := 0) hj.2 rfl (y := 0) (if_pos c56).symm _ rfl _ (Or.inl ⟨c66b, rfl, rfl⟩)⟩, hX, hS, by exact lv_sub hl [2, 3, 0] rfl⟩
end P21
