section R23
variable {p : Program} {l : Launch} {e : Env} {R : Room} {s : State} {m : MethodId} {args : Array Value} {below : List Frame} {meth : Method} {c : Code} {H : Heap} {locs : List Loc} {cells slots : Nat} {Q : State → Prop}
variable {cc : ByteArray} {nL pc idx k maxL : Nat} {ls : Array Slot} {own C own0 : String} {y : MethodName} {bytes : ByteArray} {ret : Option FieldType} {rm : Room} {b : Addr} {As rest st0 : List Value} {X : State → Heap → Prop}
variable {σ : Type} {X1 : σ → State → Heap → Prop} {A A0 A1 : Nat → Prop} {H0 : Heap} {mc ms : Nat} {free : Addr → Prop} {D : va_G} {cyI cyA : ClassId}
variable {sm wd lg n x z : Nat} {a : Nat → Nat} {st : Int32} {wv g : Nat → Int32} {r : Nat → Nat → Int32}
abbrev CM (y : MethodName) (c : ByteArray) (n : Nat) (k : Nat) : Prop :=
  (Cond.instanceMethod y ∈ wA ∧ Cond.initialized y.cls ∈ wA ∧ Cond.code y c n none ∈ wA) ∧ y.name = "<init>" ∧ (y.cls ≠ "java/lang/invoke/MethodHandle" ∧ y.cls ≠ "java/lang/invoke/VarHandle" ∧ (parseMethodDescriptor y.desc).map (fun d => d.parameters.length) = some k)
theorem wIv {post : σ → Prop} (hF : CallFix p m c cc nL s args wA own) (hM : Met l y (wm y bytes maxL none) rm (va_Pc (.ref b :: As) (fun U => X U U.heap)) (va_Qv post (fun u U => X1 u U U.heap) A1) mc ms free) (hmv : Mv X) (hmv1 : ∀ u, Mv (X1 u)) (hX : X s H) (hi : CM y bytes maxL k) (hlk : Cond.methodLink own idx y ∈ wA)
    (h0 : rm.cells = mc ∧ rm.slots = ms) (hR : rm.frames + 1 ≤ R.frames ∧ 8 + (maxL + 11) + rm.locals ≤ R.locals) (hk : As.length = k) (hsz : ls.size = nL) (hst : st0 = As.reverse ++ .ref b :: rest) (hW : (rest.map fun v => v.category).sum ≤ 8) (hcs : cells + mc ≤ R.cells ∧ slots + ms ≤ R.slots) (hS : va_S A0 H0 H locs) (hA : ∀ q, q < H.size → A1 q → A0 q) (hf : ∀ q, free q → A0 q) (hdg : decode cc pc = .ok (.invokespecial idx, 3))
    (kk : ∀ (u : σ) (H1 : Heap) (locs1 : List Loc), post u → X1 u s H1 → H.size ≤ H1.size → (∀ q : Nat, q < H.size → ¬ A1 q → H1[q]? = H[q]?) → va_S A0 H0 H1 locs1 → W p l e R s m args below meth c H1 locs1 (cells + mc) (slots + ms) Q (F0 m (pc + 3) ls rest)) : W p l e R s m args below meth c H locs cells slots Q (F0 m pc ls st0) :=
  va_callv (va_runI hF hM (cwI k hF.2.2.2.2 (gm hi.1.2.2) rfl h0.1 h0.2 (hF.2.2.2.2 _ hi.1.2.1) (hF.2.2.2.2 _ hlk) (hF.2.2.2.2 _ hi.1.1) hi.2.1 hi.2.2 hR) ⟨mvBlind hmv, fun U hU hW => mvPre hmv hX hU hW⟩ rfl hk hsz hst (lv_room hW) hdg hcs) hS hA hf (fun u t H1 locs1 ht hvm hp hB hz hk1 hS1 => kk u H1 locs1 hp (by subst ht; exact hmv1 u t s t.heap hvm.symm hB) hz hk1 hS1)
/-- a nest mate's private constructor -/
theorem wIvN {post : σ → Prop} {host : String} (hF : CallFix p m c cc nL s args wA own) (hM : Met l y (wm y bytes maxL none) rm (va_Pc (.ref b :: As) (fun U => X U U.heap)) (va_Qv post (fun u U => X1 u U U.heap) A1) mc ms free) (hmv : Mv X) (hmv1 : ∀ u, Mv (X1 u)) (hX : X s H) (hi : CM y bytes maxL k) (hlk : va_Nw (.methodLinkNest own idx y host) s)
    (h0 : rm.cells = mc ∧ rm.slots = ms) (hR : rm.frames + 1 ≤ R.frames ∧ 8 + (maxL + 11) + rm.locals ≤ R.locals) (hk : As.length = k) (hsz : ls.size = nL) (hst : st0 = As.reverse ++ .ref b :: rest) (hW : (rest.map fun v => v.category).sum ≤ 8) (hcs : cells + mc ≤ R.cells ∧ slots + ms ≤ R.slots) (hS : va_S A0 H0 H locs) (hA : ∀ q, q < H.size → A1 q → A0 q) (hf : ∀ q, free q → A0 q) (hdg : decode cc pc = .ok (.invokespecial idx, 3))
    (kk : ∀ (u : σ) (H1 : Heap) (locs1 : List Loc), post u → X1 u s H1 → H.size ≤ H1.size → (∀ q : Nat, q < H.size → ¬ A1 q → H1[q]? = H[q]?) → va_S A0 H0 H1 locs1 → W p l e R s m args below meth c H1 locs1 (cells + mc) (slots + ms) Q (F0 m (pc + 3) ls rest)) : W p l e R s m args below meth c H locs cells slots Q (F0 m pc ls st0) :=
  va_callv (va_runIN hF hM ⟨va_cnB k hF.2.2.2.2 (gm hi.1.2.2) rfl h0.1 h0.2 hlk (hF.2.2.2.2 _ hi.1.2.1) hi.2.2 hR, hi.2.1, hF.2.2.2.2 _ hi.1.1⟩ ⟨mvBlind hmv, fun U hU hW => mvPre hmv hX hU hW⟩ rfl hk hsz hst (lv_room hW) hdg hcs) hS hA hf (fun u t H1 locs1 ht hvm hp hB hz hk1 hS1 => kk u H1 locs1 hp (by subst ht; exact hmv1 u t s t.heap hvm.symm hB) hz hk1 hS1)
theorem up_n (f : Nat → Nat) (v : Nat) : va_up f n v n = v := by simp [va_up]
theorem up_lt (f : Nat → Nat) (v : Nat) {j : Nat} (h : j < n) : va_up f n v j = f j := by simp [va_up, Nat.ne_of_lt h]
theorem Ap.grow (h : Ap sm wd lg a n) (hx : ∀ q : Nat, sown sm wd lg a n q → q ≠ x) (hz : ∀ q : Nat, sown sm wd lg a n q → q ≠ z) (hzx : x ≠ z) : Ap sm wd z (va_up a n x) (n + 1) := by
  refine ⟨⟨h.1.1, hz _ (Or.inl rfl), hz _ (Or.inr (Or.inl rfl))⟩, fun k hk => ?_, fun k hk j hj e => ?_⟩
  · by_cases hkn : k = n
    · subst hkn
      rw [up_n]
      exact ⟨Ne.symm (hx _ (Or.inl rfl)), Ne.symm (hx _ (Or.inr (Or.inl rfl))), hzx⟩
    · rw [up_lt _ _ (by omega)]
      have h9 := h.2.1 k (by omega)
      exact ⟨h9.1, h9.2.1, hz _ (Or.inr (Or.inr (Or.inr ⟨k, by omega, rfl⟩)))⟩
  · by_cases hkn : k = n
    · subst hkn
      by_cases hjn : j = k
      · exact hjn.symm
      · rw [up_n, up_lt _ _ (by omega)] at e
        exact absurd e.symm (hx _ (Or.inr (Or.inr (Or.inr ⟨j, by omega, rfl⟩))))
    · by_cases hjn : j = n
      · subst hjn
        rw [up_n, up_lt _ _ (by omega)] at e
        exact absurd e (hx _ (Or.inr (Or.inr (Or.inr ⟨k, by omega, rfl⟩))))
      · rw [up_lt _ _ (by omega), up_lt _ _ (by omega)] at e
        exact h.2.2 k (by omega) j (by omega) e
theorem S0.stG (hF : CallFix p m c cc nL s args wA own0) (h : S0 D cyI cyA sm wd lg a n st wv r s H) (hS : va_S A H0 H locs) (hA : A sm) (hI : IA cyI x 6 g H) (hQ : QA cyA z (n + 1) (fun k => some (va_up a n x k)) H) (hx : ∀ q : Nat, sown sm wd lg a n q → q ≠ x) (hz : ∀ q : Nat, sown sm wd lg a n q → q ≠ z) (hzx : x ≠ z) (hn : n < 16) (hl : Cond.fieldLink own0 idx "MapSongsLaw$Sim" "legs" "[[I" ∈ wA) (hdg : decode cc pc = .ok (.putfield idx, 3))
    (kk : ∀ (H1 : Heap) (locs1 : List Loc), S0 D cyI cyA sm wd z (va_up a n x) (n + 1) st wv (va_up r n g) s H1 → H1.size = H.size → (∀ q : Nat, q ≠ sm → H1[q]? = H[q]?) → va_S A H0 H1 locs1 → W p l e R s m args below meth c H1 locs1 cells slots Q (F0 m (pc + 3) ls rest)) : W p l e R s m args below meth c H locs cells slots Q (F0 m pc ls (.ref z :: .ref sm :: rest)) := by
  refine S0.stL hF h hS hA hQ (r2 := va_up r n g) (fun k hk => ?_) (h.2.2.1.grow hx hz hzx) (by omega) hl hdg kk
  by_cases hkn : k = n
  · subst hkn
    rw [up_n, show va_up r k g k = g by simp [va_up]]
    exact hI
  · rw [up_lt _ _ (by omega), show va_up r n g k = r k by simp [va_up, hkn]]
    exact h.1.2.2.2 k (by omega)
theorem S0.stK {M : Nat} (hF : CallFix p m c cc nL s args wA own0) (h : S0 D cyI cyA sm wd lg a (M + 1) st wv r s H) (hS : va_S A H0 H locs) (hA : A sm) (hQ : QA cyA z M (fun k => some (a k)) H) (hz : ∀ q : Nat, sown sm wd lg a (M + 1) q → q ≠ z) (hl : Cond.fieldLink own0 idx "MapSongsLaw$Sim" "legs" "[[I" ∈ wA) (hdg : decode cc pc = .ok (.putfield idx, 3))
    (kk : ∀ (H1 : Heap) (locs1 : List Loc), S0 D cyI cyA sm wd z a M st wv r s H1 → H1.size = H.size → (∀ q : Nat, q ≠ sm → H1[q]? = H[q]?) → va_S A H0 H1 locs1 → W p l e R s m args below meth c H1 locs1 cells slots Q (F0 m (pc + 3) ls rest)) : W p l e R s m args below meth c H locs cells slots Q (F0 m pc ls (.ref z :: .ref sm :: rest)) := by
  have hAp := h.2.2.1
  refine S0.stL hF h hS hA hQ (fun k hk => h.1.2.2.2 k (by omega)) ⟨⟨hAp.1.1, hz _ (Or.inl rfl), hz _ (Or.inr (Or.inl rfl))⟩, fun k hk => ?_, fun k hk j hj e => hAp.2.2 k (by omega) j (by omega) e⟩ (Nat.le_trans (Nat.le_succ M) h.n16) hl hdg kk
  have h9 := hAp.2.1 k (by omega)
  exact ⟨h9.1, h9.2.1, hz _ (Or.inr (Or.inr (Or.inr ⟨k, by omega, rfl⟩)))⟩
theorem f8_up {f : Nat → Option Nat} {j : Nat} (h : ∀ k : Nat, k < j → f k = some (a k)) : ∀ k : Nat, k < j + 1 → va_up f j (some (a j)) k = some (a k) := by
  intro k hk
  by_cases hkj : k = j
  · subst hkj; simp [va_up]
  · simp only [va_up, if_neg hkj]; exact h k (by omega)
theorem f8_end {f : Nat → Option Nat} {v : Nat} (h : ∀ k : Nat, k < n → f k = some (a k)) : ∀ k : Nat, k < n + 1 → va_up f n (some v) k = some (va_up a n v k) := by
  intro k hk
  by_cases hkj : k = n
  · subst hkj; simp [va_up]
  · simp only [va_up, if_neg hkj]; exact h k (by omega)
theorem words_c {H : Heap} (h : IA cyI x 10 (upd (upd (upd (upd (upd (upd (upd (upd (upd (upd (fun _ => 0) 0 (nI 0)) 1 (nI 1)) 2 (nI 2)) 3 (nI 3)) 4 (nI 4)) 5 (nI 5)) 6 (nI 6)) 7 (nI 7)) 8 (nI 8)) 9 (nI 9)) H) : IA cyI x 10 nI H := h.c (fun k hk => by
  match k, hk with
  | 0, _ => simp [upd]
  | 1, _ => simp [upd]
  | 2, _ => simp [upd]
  | 3, _ => simp [upd]
  | 4, _ => simp [upd]
  | 5, _ => simp [upd]
  | 6, _ => simp [upd]
  | 7, _ => simp [upd]
  | 8, _ => simp [upd]
  | 9, _ => simp [upd])
/-- a row of six numbers -/
def six (x0 x1 x2 x3 x4 x5 : Int32) : Nat → Int32
  | 0 => x0
  | 1 => x1
  | 2 => x2
  | 3 => x3
  | 4 => x4
  | _ => x5
theorem six_c {H : Heap} {x0 x1 x2 x3 x4 x5 : Int32} (h : IA cyI x 6 (upd (upd (upd (upd (upd (upd (fun _ => 0) 0 x0) 1 x1) 2 x2) 3 x3) 4 x4) 5 x5) H) : IA cyI x 6 (six x0 x1 x2 x3 x4 x5) H := h.c (fun k hk => by
  match k, hk with
  | 0, _ => simp [upd, six]
  | 1, _ => simp [upd, six]
  | 2, _ => simp [upd, six]
  | 3, _ => simp [upd, six]
  | 4, _ => simp [upd, six]
  | 5, _ => simp [upd, six])
theorem six_r {f : Nat → Int32} : ∀ i : Nat, i < 6 → six (f 0) (f 1) (f 2) (f 3) (f 4) (f 5) i = f i := by
  intro i hi
  match i, hi with
  | 0, _ => rfl
  | 1, _ => rfl
  | 2, _ => rfl
  | 3, _ => rfl
  | 4, _ => rfl
  | 5, _ => rfl
theorem S0.new {h0 : Nat} {wd lg : Nat} {wv : Nat → Int32} {st : Int32} (hO : OB D h0 [.ref lg, .ref wd, .int st] H) (hI : IA cyI wd 10 wv H) (hQ : QA cyA lg 0 (fun _ => none) H) (hK : KS D cyI cyA s) (h1 : h0 ≠ wd) (h2 : h0 ≠ lg) (h3 : lg ≠ wd) : S0 D cyI cyA h0 wd lg (fun _ => 0) 0 st wv (fun _ _ => 0) s H :=
  ⟨⟨hO, hI, hQ.c (fun k hk => absurd hk (Nat.not_lt_zero _)), fun k hk => absurd hk (Nat.not_lt_zero _)⟩, hK, ⟨⟨h1, h2, Ne.symm h3⟩, fun k hk => absurd hk (Nat.not_lt_zero _), fun k hk => absurd hk (Nat.not_lt_zero _)⟩, Nat.zero_le _⟩
def XIni (D : va_G) (cyI cyA : ClassId) (h0 sz : Nat) : State → Heap → Prop := fun U H => OB D h0 [.null, .null, .int 0] H ∧ KS D cyI cyA U ∧ H.size = sz
theorem XIni.mv {h0 sz : Nat} : Mv (XIni D cyI cyA h0 sz) := fun _ _ _ al h => ⟨h.1, h.2.1.moved al, h.2.2⟩
def XSz (D : va_G) (cyI cyA : ClassId) (sm wd lg : Nat) (a : Nat → Nat) (n : Nat) (st : Int32) (wv : Nat → Int32) (r : Nat → Nat → Int32) (sz : Nat) : State → Heap → Prop := fun U H => S0 D cyI cyA sm wd lg a n st wv r U H ∧ H.size = sz
theorem XSz.mv {sz : Nat} : Mv (XSz D cyI cyA sm wd lg a n st wv r sz) := fun _ _ _ al h => ⟨S0.mv _ _ _ al h.1, h.2⟩
def XWi (D : va_G) (cyI cyA : ClassId) (sm wd lg : Nat) (a : Nat → Nat) (n : Nat) (st : Int32) (wv : Nat → Int32) (r : Nat → Nat → Int32) (v0 : Nat) (g0 : Nat → Int32) (sz : Nat) : State → Heap → Prop := fun U H => S0 D cyI cyA sm wd lg a n st wv r U H ∧ IA cyI v0 6 g0 H ∧ H.size = sz
theorem XWi.mv {v0 sz : Nat} {g0 : Nat → Int32} : Mv (XWi D cyI cyA sm wd lg a n st wv r v0 g0 sz) := fun _ _ _ al h => ⟨S0.mv _ _ _ al h.1, h.2⟩
def YQ (cyA : ClassId) (n : Nat) (f : Nat → Nat) (sz : Nat) (_ : Unit) (z : Nat) : State → Heap → Prop := fun _ H => QA cyA z n (fun k => some (f k)) H ∧ sz ≤ z
theorem YQ.mv {sz : Nat} {u : Unit} {z : Nat} : Mv (YQ cyA n a sz u z) := fun _ _ _ _ h => h
def YCo (D : va_G) (cyI cyA : ClassId) (n : Nat) (st : Int32) (wv : Nat → Int32) (r : Nat → Nat → Int32) (sz : Nat) (u : Nat × Nat × (Nat → Nat)) (z : Nat) : State → Heap → Prop := fun U H => S0 D cyI cyA z u.1 u.2.1 u.2.2 n st wv r U H ∧ ∀ q : Nat, sown z u.1 u.2.1 u.2.2 n q → sz ≤ q
theorem YCo.mv {sz : Nat} {u : Nat × Nat × (Nat → Nat)} {z : Nat} : Mv (YCo D cyI cyA n st wv r sz u z) := fun _ _ _ al h => ⟨S0.mv _ _ _ al h.1, h.2⟩
theorem Mv3 {P : State → Prop} {Q0 : Heap → Prop} {R0 : Heap → Prop} (h : ∀ u U : State, u.vm.Alike U.vm → P u → P U) : Mv (fun U H => R0 H ∧ P U ∧ Q0 H) := fun u U _ al hh => ⟨hh.1, h u U al hh.2.1, hh.2.2⟩
end R23
theorem cjX1_init : CM yX1_init cX1_init 1 0 := ⟨⟨ki_yX1_init, kn_RX1, kd_yX1_init⟩, by decide +kernel⟩

section P23
variable {l : Launch} {D : va_G} {cyI cyZ cyA : ClassId} {q : Nat → Nat} {sm wd lg n N : Nat} {a : Nat → Nat} {st : Int32} {wv : Nat → Int32} {r : Nat → Nat → Int32} {v w : Nat → Nat → Int32} {mk : Nat → Bool}
variable {h0 sz : Nat}
set_option maxHeartbeats 4000000 in
set_option maxRecDepth 100000 in
theorem mX1_init  : Met l yX1_init (wm yX1_init cX1_init 1 none) ({ frames := 1, cells := 2, slots := 10, locals := 12 } : Room) (va_Pc [.ref h0] (fun U => XIni D cyI cyA h0 sz U U.heap)) (va_Qv (fun u : Nat × Nat => sz ≤ u.1 ∧ sz ≤ u.2) (fun u U => (fun (u : Nat × Nat) => (S0 D cyI cyA h0 u.1 u.2 (fun _ => 0) 0 2 nI (fun _ _ => 0) : State → Heap → Prop)) u U U.heap) (fun q => q = h0 ∨ sz ≤ q)) 2 10 (fun q => q = h0 ∨ sz ≤ q) := by
  refine mt (by decide) (Nat.le_of_ble_eq_true rfl) ?_
  intro p ev s m below meth c ls hF hr hlocks hnm hX hl
  have hF : CallFix p m c cX1_init 1 s _ wA RX1 := hF
  obtain ⟨hx, hb, hml, hown, hts⟩ := id hF
  have hX : XIni D cyI cyA h0 sz s s.heap := hX
  have hl : lv_has ls 1 [(0, .ref h0)] := hl
  have hS : va_S (fun q => q = h0 ∨ s.heap.size ≤ q) s.heap s.heap [] := va_S.rf
  obtain ⟨h_h0, hK, hsz⟩ := hX
  subst hsz
  refine lv_aload_n hx hb dX1_init_0 rfl (lv_at hl 0 rfl) ?_
  refine W.objInit hx hb hown (hts _ kl_RX1_1) (hts _ ki_objectInit) (hts _ kd_objectInit) rfl (by rw [hml]; exact hl.1) rfl dX1_init_1 (Nat.le_of_ble_eq_true rfl) (Nat.le_of_ble_eq_true rfl) ?_
  refine W.eq (g2 := F0 m 4 ls []) rfl ?_
  refine lv_aload_n hx hb dX1_init_4 rfl (lv_at hl 0 rfl) ?_
  refine lv_iconst (v := 0) hx hb dX1_init_5 (by decide) ?_
  refine newQr hF hK hS 0 (by decide) rfl kc_RX1_7 (by show _ ≤ 2; omega) (by show _ ≤ 10; omega) dX1_init_6 (fun x1 H hq h_x1 hz ho hS1 => ?_)
  have n_h0_x1 : h0 ≠ x1 := by rw [hq]; exact Nat.ne_of_lt h_h0.lt
  have n_x1_h0 := Ne.symm n_h0_x1
  have hA_x1 : s.heap.size ≤ x1 := by rw [hq]; exact hS.1
  have hS := hS1
  have h_h0 := h_h0.upK ho
  refine putS hF hK h_h0 hS (Or.inl rfl) 0 (by decide) rfl (ty := .array (.array .int)) (by decide +kernel) rfl rfl (by show _ < 3; decide) kf_RX1_9 dX1_init_9 (fun H locs h_h0 hz oq hS => ?_)
  have h_h0 : OB D h0 [.ref x1, .null, .int 0] H := h_h0
  have h_x1 := h_x1.k (oq _ n_x1_h0)
  refine lv_aload_n hx hb dX1_init_12 rfl (lv_at hl 0 rfl) ?_
  refine lv_bipush (v := 10) hx hb dX1_init_13 (by decide) ?_
  refine newIr hF hK hS 10 (by decide) rfl (by show _ ≤ 2; omega) (by show _ ≤ 10; omega) dX1_init_15 (fun x2 H hq h_x2 hz ho hS1 => ?_)
  have n_h0_x2 : h0 ≠ x2 := by rw [hq]; exact Nat.ne_of_lt h_h0.lt
  have n_x2_h0 := Ne.symm n_h0_x2
  have n_x1_x2 : x1 ≠ x2 := by rw [hq]; exact Nat.ne_of_lt h_x1.lt
  have n_x2_x1 := Ne.symm n_x1_x2
  have hA_x2 : s.heap.size ≤ x2 := by rw [hq]; exact hS.1
  have hS := hS1
  have h_h0 := h_h0.upK ho
  have h_x1 := h_x1.upK ho
  refine lv_dup hx hb dX1_init_17 rfl ?_
  refine lv_iconst (v := 0) hx hb dX1_init_18 (by decide) ?_
  refine lv_iconst (v := (nI 0)) hx hb dX1_init_19 (by decide) ?_
  refine stI hF hK h_x2 hS (Or.inr hA_x2) 0 (by decide) (by decide) rfl dX1_init_20 (fun H locs h_x2 hz oq hS => ?_)
  have h_h0 := h_h0.k (oq _ n_h0_x2)
  have h_x1 := h_x1.k (oq _ n_x1_x2)
  refine lv_dup hx hb dX1_init_21 rfl ?_
  refine lv_iconst (v := 1) hx hb dX1_init_22 (by decide) ?_
  refine lv_iconst (v := (nI 1)) hx hb dX1_init_23 (by decide) ?_
  refine stI hF hK h_x2 hS (Or.inr hA_x2) 1 (by decide) (by decide) rfl dX1_init_24 (fun H locs h_x2 hz oq hS => ?_)
  have h_h0 := h_h0.k (oq _ n_h0_x2)
  have h_x1 := h_x1.k (oq _ n_x1_x2)
  refine lv_dup hx hb dX1_init_25 rfl ?_
  refine lv_iconst (v := 2) hx hb dX1_init_26 (by decide) ?_
  refine lv_iconst (v := (nI 2)) hx hb dX1_init_27 (by decide) ?_
  refine stI hF hK h_x2 hS (Or.inr hA_x2) 2 (by decide) (by decide) rfl dX1_init_28 (fun H locs h_x2 hz oq hS => ?_)
  have h_h0 := h_h0.k (oq _ n_h0_x2)
  have h_x1 := h_x1.k (oq _ n_x1_x2)
  refine lv_dup hx hb dX1_init_29 rfl ?_
  refine lv_iconst (v := 3) hx hb dX1_init_30 (by decide) ?_
  refine lv_iconst (v := (nI 3)) hx hb dX1_init_31 (by decide) ?_
  refine stI hF hK h_x2 hS (Or.inr hA_x2) 3 (by decide) (by decide) rfl dX1_init_32 (fun H locs h_x2 hz oq hS => ?_)
  have h_h0 := h_h0.k (oq _ n_h0_x2)
  have h_x1 := h_x1.k (oq _ n_x1_x2)
  refine lv_dup hx hb dX1_init_33 rfl ?_
  refine lv_iconst (v := 4) hx hb dX1_init_34 (by decide) ?_
  refine lv_iconst (v := (nI 4)) hx hb dX1_init_35 (by decide) ?_
  refine stI hF hK h_x2 hS (Or.inr hA_x2) 4 (by decide) (by decide) rfl dX1_init_36 (fun H locs h_x2 hz oq hS => ?_)
  have h_h0 := h_h0.k (oq _ n_h0_x2)
  have h_x1 := h_x1.k (oq _ n_x1_x2)
  refine lv_dup hx hb dX1_init_37 rfl ?_
  refine lv_iconst (v := 5) hx hb dX1_init_38 (by decide) ?_
  refine lv_iconst (v := (nI 5)) hx hb dX1_init_39 (by decide) ?_
  refine stI hF hK h_x2 hS (Or.inr hA_x2) 5 (by decide) (by decide) rfl dX1_init_40 (fun H locs h_x2 hz oq hS => ?_)
  have h_h0 := h_h0.k (oq _ n_h0_x2)
  have h_x1 := h_x1.k (oq _ n_x1_x2)
  refine lv_dup hx hb dX1_init_41 rfl ?_
  refine lv_bipush (v := 6) hx hb dX1_init_42 (by decide) ?_
  refine lv_bipush (v := (nI 6)) hx hb dX1_init_44 (by decide) ?_
  refine stI hF hK h_x2 hS (Or.inr hA_x2) 6 (by decide) (by decide) rfl dX1_init_46 (fun H locs h_x2 hz oq hS => ?_)
  have h_h0 := h_h0.k (oq _ n_h0_x2)
  have h_x1 := h_x1.k (oq _ n_x1_x2)
  refine lv_dup hx hb dX1_init_47 rfl ?_
  refine lv_bipush (v := 7) hx hb dX1_init_48 (by decide) ?_
  refine lv_bipush (v := (nI 7)) hx hb dX1_init_50 (by decide) ?_
  refine stI hF hK h_x2 hS (Or.inr hA_x2) 7 (by decide) (by decide) rfl dX1_init_52 (fun H locs h_x2 hz oq hS => ?_)
  have h_h0 := h_h0.k (oq _ n_h0_x2)
  have h_x1 := h_x1.k (oq _ n_x1_x2)
  refine lv_dup hx hb dX1_init_53 rfl ?_
  refine lv_bipush (v := 8) hx hb dX1_init_54 (by decide) ?_
  refine lv_bipush (v := (nI 8)) hx hb dX1_init_56 (by decide) ?_
  refine stI hF hK h_x2 hS (Or.inr hA_x2) 8 (by decide) (by decide) rfl dX1_init_58 (fun H locs h_x2 hz oq hS => ?_)
  have h_h0 := h_h0.k (oq _ n_h0_x2)
  have h_x1 := h_x1.k (oq _ n_x1_x2)
  refine lv_dup hx hb dX1_init_59 rfl ?_
  refine lv_bipush (v := 9) hx hb dX1_init_60 (by decide) ?_
  refine lv_bipush (v := (nI 9)) hx hb dX1_init_62 (by decide) ?_
  refine stI hF hK h_x2 hS (Or.inr hA_x2) 9 (by decide) (by decide) rfl dX1_init_64 (fun H locs h_x2 hz oq hS => ?_)
  have h_h0 := h_h0.k (oq _ n_h0_x2)
  have h_x1 := h_x1.k (oq _ n_x1_x2)
  refine putS hF hK h_h0 hS (Or.inl rfl) 1 (by decide) rfl (ty := .array .int) (by decide +kernel) rfl rfl (by show _ < 3; decide) kf_RX1_15 dX1_init_65 (fun H locs h_h0 hz oq hS => ?_)
  have h_h0 : OB D h0 [.ref x1, .ref x2, .int 0] H := h_h0
  have h_x1 := h_x1.k (oq _ n_x1_h0)
  have h_x2 := h_x2.k (oq _ n_x2_h0)
  refine lv_aload_n hx hb dX1_init_68 rfl (lv_at hl 0 rfl) ?_
  refine lv_iconst (v := 2) hx hb dX1_init_69 (by decide) ?_
  refine putS hF hK h_h0 hS (Or.inl rfl) 2 (by decide) rfl (ty := .int) (by decide +kernel) rfl rfl (by show _ < 3; decide) kf_RX1_18 dX1_init_70 (fun H locs h_h0 hz oq hS => ?_)
  have h_h0 : OB D h0 [.ref x1, .ref x2, .int 2] H := h_h0
  have h_x1 := h_x1.k (oq _ n_x1_h0)
  have h_x2 := h_x2.k (oq _ n_x2_h0)
  exact W.vret hx hb hr (fun t ht hW => ⟨⟨(x2, x1), rfl, ⟨hA_x2, hA_x1⟩, wEnd S0.mv (S0.new h_h0 (words_c h_x2) h_x1 hK n_h0_x2 n_h0_x1 n_x1_x2) ht hW⟩, hS.F ht⟩) hS.2.2 dX1_init_73
set_option maxHeartbeats 4000000 in
set_option maxRecDepth 100000 in
theorem mX1_with {v0 : Nat} {g0 : Nat → Int32} (hn : n < 16) : Met l yX1_with (wm yX1_with cX1_with 4 (some (.array (.array .int)))) ({ frames := 0, cells := 1, slots := 17, locals := 0 } : Room) (va_Pc [.ref lg, .ref v0] (fun U => XWi D cyI cyA sm wd lg a n st wv r v0 g0 sz U U.heap)) (va_Qr (fun (_ : Unit) => True) (fun u z U => YQ cyA (n + 1) (va_up a n v0) sz u z U U.heap) (fun _ => False)) 1 17 (fun _ => False) := by
  refine mt (by decide) (Nat.le_of_ble_eq_true rfl) ?_
  intro p ev s m below meth c ls hF hr hlocks hnm hX hl
  have hF : CallFix p m c cX1_with 4 s _ wA RX1 := hF
  obtain ⟨hx, hb, hml, hown, hts⟩ := id hF
  have hX : XWi D cyI cyA sm wd lg a n st wv r v0 g0 sz s s.heap := hX
  have hl : lv_has ls 4 [(0, .ref lg), (1, .ref v0)] := hl
  have hS : va_S (fun q => s.heap.size ≤ q) s.heap s.heap [] := va_S.rf
  obtain ⟨hX0, h_v0, hsz⟩ := hX
  subst hsz
  have hX := hX0
  have hn16 := hX.n16
  refine lv_aload_n hx hb dX1_with_0 rfl (lv_at hl 0 rfl) ?_
  refine S0.len hF hX dX1_with_1 ?_
  refine lv_iconst (v := 1) hx hb dX1_with_2 (by decide) ?_
  refine lv_iadd hx hb dX1_with_3 ?_
  refine topI (show ((nI n) + 1) = nI (n + 1) from nI_1 n) ?_
  refine newQr hF hX.2.1 hS (n + 1) (by omega) rfl kc_RX1_7 (by show _ ≤ 1; omega) (by show _ ≤ 17; omega) dX1_with_4 (fun x1 H hq h_x1 hz ho hS1 => ?_)
  have n_v0_x1 : v0 ≠ x1 := by rw [hq]; exact Nat.ne_of_lt h_v0.lt
  have n_x1_v0 := Ne.symm n_v0_x1
  have hA_x1 : s.heap.size ≤ x1 := by rw [hq]; exact hS.1
  have hS := hS1
  have hX := hX0.up hS
  have h_v0 := h_v0.upK ho
  refine lv_astore_n (lv' := [(2, .ref x1), (0, .ref lg), (1, .ref v0)]) hx hb dX1_with_7 rfl hl (by decide) rfl (fun ls hl => ?_)
  refine lv_iconst (v := 0) hx hb dX1_with_8 (by decide) ?_
  refine lv_istore_n (lv' := [(3, .int 0), (2, .ref x1), (0, .ref lg), (1, .ref v0)]) hx hb dX1_with_9 rfl hl (by decide) rfl (fun ls hl => ?_)
  refine W.widen (k := 1) (n := n + 1) (by omega) (by omega) ?_
  refine lpC (σ := Nat) (τ := Nat → Option Nat) (fun j f8 ls H locs => (j ≤ n ∧ ∀ k : Nat, k < j → f8 k = some (a k)) ∧ (S0 D cyI cyA sm wd lg a n st wv r s H) ∧ (IA cyI v0 6 g0 H) ∧ (QA cyA x1 (n + 1) f8 H) ∧ va_S (fun q => s.heap.size ≤ q) s.heap H locs ∧ lv_has ls 4 [(0, .ref lg), (1, .ref v0), (2, .ref x1), (3, .int (nI j))]) (fun j f8 => n - j) (fun j => 1) (fun j => n + 1) (fun j f8 ls H locs hI ih => ?_) (0) (fun _ => none) ⟨⟨Nat.zero_le _, fun k h => absurd h (Nat.not_lt_zero _)⟩, hX, h_v0, h_x1, hS, lv_sub hl [2, 3, 1, 0] rfl⟩
  obtain ⟨hj, hX, h_v0, h_x1, hS, hl⟩ := hI
  refine lv_iload_n hx hb dX1_with_10 rfl (lv_at hl 3 rfl) ?_
  refine lv_aload_n hx hb dX1_with_11 rfl (lv_at hl 0 rfl) ?_
  refine S0.len hF hX dX1_with_12 ?_
  refine lv_icmp_ge (tgt := 28) hx hb dX1_with_13 (by decide) (fun c13 => ?_) (fun c13 => ?_)
  · have c13n : n ≤ j := (nI_leI (a := n) (b := j) (by omega) (by omega)).mp c13
    obtain rfl : n = j := by omega
    refine lv_aload_n hx hb dX1_with_28 rfl (lv_at hl 2 rfl) ?_
    refine lv_aload_n hx hb dX1_with_29 rfl (lv_at hl 0 rfl) ?_
    refine S0.len hF hX dX1_with_30 ?_
    refine lv_aload_n hx hb dX1_with_31 rfl (lv_at hl 1 rfl) ?_
    refine stQ hF hX.2.1 h_x1 h_v0 hS hA_x1 n (by omega) (by omega) rfl dX1_with_32 (fun H locs h_x1 hz oq hS => ?_)
    have hX := hX0.up hS
    have h_v0 := h_v0.k (oq _ n_v0_x1)
    refine lv_aload_n hx hb dX1_with_33 rfl (lv_at hl 2 rfl) ?_
    refine W.widen (k := 1) (n := 17) (by omega) (by omega) ?_
    refine va_forget (fun q hq => hS.2.2 q hq) ?_
    exact W.aret hx hb hr (Or.inr ⟨_, rfl⟩) (Or.inr ⟨_, rfl⟩) (fun t ht hW => ⟨⟨(), _, rfl, trivial, ⟨by show QA cyA x1 _ _ t.heap; rw [ht]; exact h_x1.c (f8_end hj.2), hA_x1⟩⟩, sF hS ht⟩) (fun q hq => absurd hq List.not_mem_nil) dX1_with_34
  · have c13n : ¬ n ≤ j := fun h9 => c13 ((nI_leI (a := n) (b := j) (by omega) (by omega)).mpr h9)
    refine lv_aload_n hx hb dX1_with_16 rfl (lv_at hl 2 rfl) ?_
    refine lv_iload_n hx hb dX1_with_17 rfl (lv_at hl 3 rfl) ?_
    refine lv_aload_n hx hb dX1_with_18 rfl (lv_at hl 0 rfl) ?_
    refine lv_iload_n hx hb dX1_with_19 rfl (lv_at hl 3 rfl) ?_
    refine S0.ldA hF hX j (by omega) rfl dX1_with_20 ?_
    refine stQ hF hX.2.1 h_x1 (hX.1.2.2.2 j (by omega)) hS hA_x1 j (by omega) (by omega) rfl dX1_with_21 (fun H locs h_x1 hz oq hS => ?_)
    have hX := hX0.up hS
    have h_v0 := h_v0.k (oq _ n_v0_x1)
    refine lv_iinc (v := (nI (j + 1))) (lv' := [(3, .int (nI (j + 1))), (0, .ref lg), (1, .ref v0), (2, .ref x1)]) hx hb dX1_with_22 hl (k := 3) rfl (nI_1 _) (by decide) rfl (fun ls hl => ?_)
    refine lv_goto (tgt := 10) hx hb dX1_with_25 (by decide) ?_
    refine W.widen (k := 1) (n := n + 1) (by omega) (by omega) ?_
    exact ih (j + 1) (va_up f8 j (some (a j))) ls H locs (by omega) ⟨⟨by omega, f8_up hj.2⟩, hX, h_v0, h_x1, hS, by exact lv_sub hl [1, 2, 3, 0] rfl⟩
set_option maxHeartbeats 4000000 in
set_option maxRecDepth 100000 in
theorem mX1_less {M : Nat} : Met l yX1_less (wm yX1_less cX1_less 3 (some (.array (.array .int)))) ({ frames := 0, cells := 1, slots := 16, locals := 0 } : Room) (va_Pc [.ref lg] (fun U => XSz D cyI cyA sm wd lg a (M + 1) st wv r sz U U.heap)) (va_Qr (fun (_ : Unit) => True) (fun u z U => YQ cyA M a sz u z U U.heap) (fun _ => False)) 1 16 (fun _ => False) := by
  refine mt (by decide) (Nat.le_of_ble_eq_true rfl) ?_
  intro p ev s m below meth c ls hF hr hlocks hnm hX hl
  have hF : CallFix p m c cX1_less 3 s _ wA RX1 := hF
  obtain ⟨hx, hb, hml, hown, hts⟩ := id hF
  have hX : XSz D cyI cyA sm wd lg a (M + 1) st wv r sz s s.heap := hX
  have hl : lv_has ls 3 [(0, .ref lg)] := hl
  have hS : va_S (fun q => s.heap.size ≤ q) s.heap s.heap [] := va_S.rf
  obtain ⟨hX0, hsz⟩ := hX
  subst hsz
  have hX := hX0
  have hn16 := hX.n16
  refine lv_aload_n hx hb dX1_less_0 rfl (lv_at hl 0 rfl) ?_
  refine S0.len hF hX dX1_less_1 ?_
  refine lv_iconst (v := 1) hx hb dX1_less_2 (by decide) ?_
  refine lv_isub hx hb dX1_less_3 ?_
  refine topI (show ((nI (M + 1)) - 1) = nI M from nI_pred M) ?_
  refine newQr hF hX.2.1 hS M (by omega) rfl kc_RX1_7 (by show _ ≤ 1; omega) (by show _ ≤ 16; omega) dX1_less_4 (fun x1 H hq h_x1 hz ho hS1 => ?_)
  have hA_x1 : s.heap.size ≤ x1 := by rw [hq]; exact hS.1
  have hS := hS1
  have hX := hX0.up hS
  refine lv_astore_n (lv' := [(1, .ref x1), (0, .ref lg)]) hx hb dX1_less_7 rfl hl (by decide) rfl (fun ls hl => ?_)
  refine lv_iconst (v := 0) hx hb dX1_less_8 (by decide) ?_
  refine lv_istore_n (lv' := [(2, .int 0), (1, .ref x1), (0, .ref lg)]) hx hb dX1_less_9 rfl hl (by decide) rfl (fun ls hl => ?_)
  refine W.widen (k := 1) (n := M) (by omega) (by omega) ?_
  refine lpC (σ := Nat) (τ := Nat → Option Nat) (fun j f8 ls H locs => (j ≤ M ∧ ∀ k : Nat, k < j → f8 k = some (a k)) ∧ (S0 D cyI cyA sm wd lg a (M + 1) st wv r s H) ∧ (QA cyA x1 M f8 H) ∧ va_S (fun q => s.heap.size ≤ q) s.heap H locs ∧ lv_has ls 3 [(0, .ref lg), (1, .ref x1), (2, .int (nI j))]) (fun j f8 => M - j) (fun j => 1) (fun j => M) (fun j f8 ls H locs hI ih => ?_) (0) (fun _ => none) ⟨⟨Nat.zero_le _, fun k h => absurd h (Nat.not_lt_zero _)⟩, hX, h_x1, hS, lv_sub hl [2, 1, 0] rfl⟩
  obtain ⟨hj, hX, h_x1, hS, hl⟩ := hI
  refine lv_iload_n hx hb dX1_less_10 rfl (lv_at hl 2 rfl) ?_
  refine lv_aload_n hx hb dX1_less_11 rfl (lv_at hl 1 rfl) ?_
  refine lenQ hF hX.2.1 h_x1 dX1_less_12 ?_
  refine lv_icmp_ge (tgt := 28) hx hb dX1_less_13 (by decide) (fun c13 => ?_) (fun c13 => ?_)
  · have c13n : M ≤ j := (nI_leI (a := M) (b := j) (by omega) (by omega)).mp c13
    obtain rfl : M = j := by omega
    refine lv_aload_n hx hb dX1_less_28 rfl (lv_at hl 1 rfl) ?_
    refine W.widen (k := 1) (n := 16) (by omega) (by omega) ?_
    refine va_forget (fun q hq => hS.2.2 q hq) ?_
    exact W.aret hx hb hr (Or.inr ⟨_, rfl⟩) (Or.inr ⟨_, rfl⟩) (fun t ht hW => ⟨⟨(), _, rfl, trivial, ⟨by show QA cyA x1 _ _ t.heap; rw [ht]; exact h_x1.c (fun k hk => hj.2 k hk), hA_x1⟩⟩, sF hS ht⟩) (fun q hq => absurd hq List.not_mem_nil) dX1_less_29
  · have c13n : ¬ M ≤ j := fun h9 => c13 ((nI_leI (a := M) (b := j) (by omega) (by omega)).mpr h9)
    refine lv_aload_n hx hb dX1_less_16 rfl (lv_at hl 1 rfl) ?_
    refine lv_iload_n hx hb dX1_less_17 rfl (lv_at hl 2 rfl) ?_
    refine lv_aload_n hx hb dX1_less_18 rfl (lv_at hl 0 rfl) ?_
    refine lv_iload_n hx hb dX1_less_19 rfl (lv_at hl 2 rfl) ?_
    refine S0.ldA hF hX j (by omega) rfl dX1_less_20 ?_
    refine stQ hF hX.2.1 h_x1 (hX.1.2.2.2 j (by omega)) hS hA_x1 j (by omega) (by omega) rfl dX1_less_21 (fun H locs h_x1 hz oq hS => ?_)
    have hX := hX0.up hS
    refine lv_iinc (v := (nI (j + 1))) (lv' := [(2, .int (nI (j + 1))), (0, .ref lg), (1, .ref x1)]) hx hb dX1_less_22 hl (k := 2) rfl (nI_1 _) (by decide) rfl (fun ls hl => ?_)
    refine lv_goto (tgt := 10) hx hb dX1_less_25 (by decide) ?_
    refine W.widen (k := 1) (n := M) (by omega) (by omega) ?_
    exact ih (j + 1) (va_up f8 j (some (a j))) ls H locs (by omega) ⟨⟨by omega, f8_up hj.2⟩, hX, h_x1, hS, by exact lv_sub hl [1, 2, 0] rfl⟩
end P23
