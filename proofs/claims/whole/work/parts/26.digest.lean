section P26
variable {l : Launch} {D : va_G} {cyI cyZ : ClassId} {q : Nat → Nat} {N K : Nat} {n st th md : Int32} {v w : Nat → Nat → Int32} {mk : Nat → Bool}
variable {t1 : Nat}
set_option maxHeartbeats 4000000 in
set_option maxRecDepth 100000 in
theorem mX1_digest (sz : Nat) (hok : Ok N st v) (hmk : Mk N mk md) : Met l yX1_digest (wm yX1_digest cX1_digest 10 (some .long)) ({ frames := 7, cells := 17, slots := 138, locals := 157 } : Room) (va_Pc [.ref (q 0)] (fun U => (fun U H => M0 D cyI cyZ q th (nI N) st md v w U H ∧ SM1 t1 (fun a => own 8 q a ∨ sz ≤ a) U H ∧ H.size = sz : State → Heap → Prop) U U.heap)) (va_Ql (fun (r : Int64) (u : Nat → Nat → Int32) => r = dgst v st mk N) (fun u U => (fun (u : Nat → Nat → Int32) => (M0 D cyI cyZ q 0 (nI N) st md v u : State → Heap → Prop)) u U U.heap) (fun a => own 8 q a ∨ sz ≤ a)) 17 138 (fun a => own 8 q a ∨ sz ≤ a) := by
  refine mt (by decide) (Nat.le_of_ble_eq_true rfl) ?_
  intro p ev s m below meth c ls hF hr hlocks hnm hX hl
  have hF : CallFix p m c cX1_digest 10 s _ wA RX1 := hF
  obtain ⟨hx, hb, hml, hown, hts⟩ := id hF
  obtain ⟨hX, hZ0, hsz⟩ := hX
  have hX : M0 D cyI cyZ q th (nI N) st md v w s s.heap := hX
  subst hsz
  have hl : lv_has ls 10 [(0, .ref (q 0))] := hl
  have hA : ∀ a : Nat, s.heap.size ≤ a → (fun a => own 8 q a ∨ s.heap.size ≤ a) a := fun _ h => Or.inr h
  have hS : va_S (fun a => own 8 q a ∨ s.heap.size ≤ a) s.heap s.heap [] := va_S.rf
  have hN := hok.1
  refine cutW (σ := Nat → Nat → Int32) (I := fun w ls H locs => M0 D cyI cyZ q 0 (nI N) st md v w s H ∧ va_S (fun a => own 8 q a ∨ s.heap.size ≤ a) s.heap H locs ∧ lv_has ls 10 [(0, .ref (q 0)), (2, .long (dgLegs v st mk (dgHead v st mk N) N))]) (pc2 := 314) (st2 := []) (cells2 := 17) (slots2 := 138) ?_ (fun J3 => ?_)
  · intro w ls H locs hI
    obtain ⟨hX, hS, hl⟩ := hI
    refine lv_iconst (v := 0) hx hb dX1_digest_314 (by decide) ?_
    refine lv_istore (lv' := [(4, .int 0), (0, .ref (q 0)), (2, .long (dgLegs v st mk (dgHead v st mk N) N))]) hx hb dX1_digest_315 hl (by decide) rfl (fun ls hl => ?_)
    refine lpH2 (σ := Nat) (τ := Nat → Nat → Int32) (fun j w ls H locs => (j ≤ 10) ∧ M0 D cyI cyZ q 0 (nI N) st md v w s H ∧ va_S (fun a => own 8 q a ∨ s.heap.size ≤ a) s.heap H locs ∧ lv_has ls 10 [(0, .ref (q 0)), (2, .long (dgWords v st N (dgLegs v st mk (dgHead v st mk N) N) j)), (4, .int (nI j))]) (fun j _ => 10 - j) (fun j w ls H locs hI ih => ?_) 0 w ⟨Nat.zero_le _, hX, hS, lv_sub hl [1, 2, 0] rfl⟩
    obtain ⟨hj, hX, hS, hl⟩ := hI
    refine lv_iload hx hb dX1_digest_317 (lv_at hl 2 rfl) ?_
    refine lv_bipush (v := (nI 10)) hx hb dX1_digest_319 (by decide) ?_
    refine lv_icmp_ge (tgt := 357) hx hb dX1_digest_321 (by decide) (fun c321 => ?_) (fun c321 => ?_)
    · have c321n : 10 ≤ j := (nI_leI (a := 10) (b := j) (by omega) (by omega)).mp c321
      have hx9 : j = 10 := by omega
      rw [hx9] at hl
      refine lv_lload_n hx hb dX1_digest_357 rfl (lv_at hl 1 rfl) ?_
      exact W.lret hx hb hr (fun t ht hW => ⟨⟨_, w, rfl, rfl, wEnd M0.mv hX ht hW⟩, hS.F ht⟩) hS.2.2 dX1_digest_358
    · have c321n : ¬ 10 ≤ j := fun h9 => c321 ((nI_leI (a := 10) (b := j) (by omega) (by omega)).mpr h9)
      refine lv_lload_n hx hb dX1_digest_324 rfl (lv_at hl 1 rfl) ?_
      refine lv_ldc2 hx hb hown (hts _ kk_RX1_171) dX1_digest_325 ?_
      refine lv_lmul hx hb dX1_digest_328 ?_
      refine lv_aload_n hx hb dX1_digest_329 rfl (lv_at hl 0 rfl) ?_
      refine M0.get hF hX 6 (by decide) rfl rfl kf_RX1_23 dX1_digest_330 ?_
      refine lv_iload hx hb dX1_digest_333 (lv_at hl 2 rfl) ?_
      refine aldI hF hX.2.1 hX.1 4 0 rfl rfl j (by omega) (by decide) rfl dX1_digest_335 ?_
      refine lv_i2l hx hb dX1_digest_336 rfl ?_
      refine lv_ladd hx hb dX1_digest_337 ?_
      refine lv_ldc2 hx hb hown (hts _ kk_RX1_171) dX1_digest_338 ?_
      refine lv_lmul hx hb dX1_digest_341 ?_
      refine lv_aload_n hx hb dX1_digest_342 rfl (lv_at hl 0 rfl) ?_
      refine lv_iload hx hb dX1_digest_343 (lv_at hl 2 rfl) ?_
      refine wVi (mc := 0) (ms := 0) (As := [.int (nI j)]) (rest := [.long ((((dgWords v st N (dgLegs v st mk (dgHead v st mk N) N) j) * 31) + (Int32.toInt64 (v 3 j))) * 31)]) hF (mX1_wordFor hok j (by omega)) M0.mv (fun _ => M0.mv) hX (M0.rc hX) jyX1_wordFor kl_RX1_163 ⟨rfl, rfl⟩ ⟨Nat.le_of_ble_eq_true rfl, Nat.le_of_ble_eq_true rfl⟩ rfl hl.1 rfl (Nat.le_of_ble_eq_true rfl) ⟨by show _ ≤ 17; omega, by show _ ≤ 138; omega⟩ hS (fun _ _ h => Or.inl h) (fun _ h => Or.inl h) dX1_digest_345 (fun r9 w1 H locs hp hX hz hk hS => ?_)
      have hr9 := hp
      subst hr9
      refine lv_i2l hx hb dX1_digest_348 rfl ?_
      refine lv_ladd hx hb dX1_digest_349 ?_
      refine topL (show (((((dgWords v st N (dgLegs v st mk (dgHead v st mk N) N) j) * 31) + (Int32.toInt64 (v 3 j))) * 31) + (Int32.toInt64 (nI (bwd v st N j)))) = dgWords v st N (dgLegs v st mk (dgHead v st mk N) N) (j + 1) from rfl) ?_
      refine lv_lstore_n (lv' := [(2, .long (dgWords v st N (dgLegs v st mk (dgHead v st mk N) N) (j + 1))), (0, .ref (q 0)), (4, .int (nI j))]) hx hb dX1_digest_350 rfl hl (by decide) rfl (fun ls hl => ?_)
      refine lv_iinc (v := (nI (j + 1))) (lv' := [(4, .int (nI (j + 1))), (2, .long (dgWords v st N (dgLegs v st mk (dgHead v st mk N) N) (j + 1))), (0, .ref (q 0))]) hx hb dX1_digest_351 hl (k := 2) rfl (nI_1 _) (by decide) rfl (fun ls hl => ?_)
      refine lv_goto (tgt := 317) hx hb dX1_digest_354 (by decide) ?_
      exact ih (j + 1) w1 ls H locs (by omega) ⟨by omega, hX, hS, lv_sub hl [2, 1, 0] rfl⟩
  · refine cutW (σ := Nat → Nat → Int32) (I := fun w ls H locs => M0 D cyI cyZ q 0 (nI N) st md v w s H ∧ va_S (fun a => own 8 q a ∨ s.heap.size ≤ a) s.heap H locs ∧ lv_has ls 10 [(0, .ref (q 0)), (2, .long (dgHead v st mk N))]) (pc2 := 158) (st2 := []) (cells2 := 1 + 0) (slots2 := 10 + 8 * 0) ?_ (fun J2 => ?_)
    · intro w ls H locs hI
      obtain ⟨hX, hS, hl⟩ := hI
      refine lv_iconst (v := 0) hx hb dX1_digest_158 (by decide) ?_
      refine lv_istore (lv' := [(4, .int 0), (0, .ref (q 0)), (2, .long (dgHead v st mk N))]) hx hb dX1_digest_159 hl (by decide) rfl (fun ls hl => ?_)
      refine lpC (σ := Nat) (τ := Nat → Nat → Int32) (fun j w ls H locs => (j ≤ N) ∧ M0 D cyI cyZ q 0 (nI N) st md v w s H ∧ va_S (fun a => own 8 q a ∨ s.heap.size ≤ a) s.heap H locs ∧ lv_has ls 10 [(0, .ref (q 0)), (2, .long (dgLegs v st mk (dgHead v st mk N) j)), (4, .int (nI j))]) (fun j _ => N - j) (fun j => 1 + j) (fun j => 10 + 8 * j) (fun j w ls H locs hI ih => ?_) 0 w ⟨Nat.zero_le _, hX, hS, lv_sub hl [1, 2, 0] rfl⟩
      obtain ⟨hj, hX, hS, hl⟩ := hI
      refine lv_iload hx hb dX1_digest_161 (lv_at hl 2 rfl) ?_
      refine lv_aload_n hx hb dX1_digest_163 rfl (lv_at hl 0 rfl) ?_
      refine M0.get hF hX 1 (by decide) rfl rfl kf_RX1_38 dX1_digest_164 ?_
      refine lv_icmp_ge (tgt := 314) hx hb dX1_digest_167 (by decide) (fun c167 => ?_) (fun c167 => ?_)
      · have c167n : N ≤ j := (nI_leI (a := N) (b := j) (by omega) (by omega)).mp c167
        have hx9 : j = N := by omega
        rw [hx9] at hl
        refine W.widen (k := 17) (n := 138) (by omega) (by omega) ?_
        exact J3 w ls H locs ⟨hX, hS, lv_sub hl [0, 1] rfl⟩
      · have c167n : ¬ N ≤ j := fun h9 => c167 ((nI_leI (a := N) (b := j) (by omega) (by omega)).mpr h9)
        refine lv_bipush (v := (nI 8)) hx hb dX1_digest_170 (by decide) ?_
        refine M0.newT hF hX hS hA (fun _ h => Or.inl h) 8 (by decide) rfl (by show _ ≤ 17; omega) (by show _ ≤ 138; omega) dX1_digest_172 (fun a2 H hX hBa2 hna2 hia2 hS => ?_)
        refine lv_dup hx hb dX1_digest_174 rfl ?_
        refine lv_iconst (v := 0) hx hb dX1_digest_175 (by decide) ?_
        refine lv_aload_n hx hb dX1_digest_176 rfl (lv_at hl 0 rfl) ?_
        refine M0.get hF hX 3 (by decide) rfl rfl kf_RX1_13 dX1_digest_177 ?_
        refine lv_iload hx hb dX1_digest_180 (lv_at hl 2 rfl) ?_
        refine aldI hF hX.2.1 hX.1 1 0 rfl rfl j (by omega) (by decide) rfl dX1_digest_182 ?_
        refine M0.stT hF hX hBa2 hna2 hia2 (fun _ h => Or.inl h) hS 0 (by decide) (by decide) rfl dX1_digest_183 (fun H locs hX hBa2 hS => ?_)
        refine lv_dup hx hb dX1_digest_184 rfl ?_
        refine lv_iconst (v := 1) hx hb dX1_digest_185 (by decide) ?_
        refine lv_aload_n hx hb dX1_digest_186 rfl (lv_at hl 0 rfl) ?_
        refine lv_iload hx hb dX1_digest_187 (lv_at hl 2 rfl) ?_
        refine cVi (As := [.int (nI j)]) (rest := [.int 1, .ref a2, .ref a2]) hF (mX1_heading hok j (by omega)) M0.mv hX (M0.rc hX) jyX1_heading kl_RX1_48 ⟨rfl, rfl⟩ ⟨Nat.le_of_ble_eq_true rfl, Nat.le_of_ble_eq_true rfl⟩ rfl hl.1 rfl (Nat.le_of_ble_eq_true rfl) ⟨by show _ ≤ 17; omega, by show _ ≤ 138; omega⟩ dX1_digest_189 (fun r hr9 => ?_)
        subst hr9
        refine M0.stT hF hX hBa2 hna2 hia2 (fun _ h => Or.inl h) hS 1 (by decide) (by decide) rfl dX1_digest_192 (fun H locs hX hBa2 hS => ?_)
        refine lv_dup hx hb dX1_digest_193 rfl ?_
        refine lv_iconst (v := 2) hx hb dX1_digest_194 (by decide) ?_
        refine lv_aload_n hx hb dX1_digest_195 rfl (lv_at hl 0 rfl) ?_
        refine M0.get hF hX 5 (by decide) rfl rfl kf_RX1_20 dX1_digest_196 ?_
        refine lv_iload hx hb dX1_digest_199 (lv_at hl 2 rfl) ?_
        refine aldI hF hX.2.1 hX.1 3 0 rfl rfl j (by omega) (by decide) rfl dX1_digest_201 ?_
        refine M0.stT hF hX hBa2 hna2 hia2 (fun _ h => Or.inl h) hS 2 (by decide) (by decide) rfl dX1_digest_202 (fun H locs hX hBa2 hS => ?_)
        refine lv_dup hx hb dX1_digest_203 rfl ?_
        refine lv_iconst (v := 3) hx hb dX1_digest_204 (by decide) ?_
        refine lv_aload_n hx hb dX1_digest_205 rfl (lv_at hl 0 rfl) ?_
        refine lv_iload hx hb dX1_digest_206 (lv_at hl 2 rfl) ?_
        refine wVi (mc := 0) (ms := 0) (As := [.int (nI j)]) (rest := [.int 3, .ref a2, .ref a2]) hF (mX1_noteNow hok j (by omega)) M0.mv (fun _ => M0.mv) hX (M0.rc hX) jyX1_noteNow kl_RX1_132 ⟨rfl, rfl⟩ ⟨Nat.le_of_ble_eq_true rfl, Nat.le_of_ble_eq_true rfl⟩ rfl hl.1 rfl (Nat.le_of_ble_eq_true rfl) ⟨by show _ ≤ 17; omega, by show _ ≤ 138; omega⟩ hS (fun _ _ h => Or.inl h) (fun _ h => Or.inl h) dX1_digest_208 (fun r9 w3 H locs hp hX hz hk hS => ?_)
        have hr9 := hp
        subst hr9
        have hBa2 := bKept hBa2 hna2 hk
        refine M0.stT hF hX hBa2 hna2 hia2 (fun _ h => Or.inl h) hS 3 (by decide) (by decide) rfl dX1_digest_211 (fun H locs hX hBa2 hS => ?_)
        refine lv_dup hx hb dX1_digest_212 rfl ?_
        refine lv_iconst (v := 4) hx hb dX1_digest_213 (by decide) ?_
        refine lv_aload_n hx hb dX1_digest_214 rfl (lv_at hl 0 rfl) ?_
        refine M0.get hF hX 6 (by decide) rfl rfl kf_RX1_23 dX1_digest_215 ?_
        refine lv_aload_n hx hb dX1_digest_218 rfl (lv_at hl 0 rfl) ?_
        refine M0.get hF hX 5 (by decide) rfl rfl kf_RX1_20 dX1_digest_219 ?_
        refine lv_iload hx hb dX1_digest_222 (lv_at hl 2 rfl) ?_
        refine aldI hF hX.2.1 hX.1 3 0 rfl rfl j (by omega) (by decide) rfl dX1_digest_224 ?_
        refine aldI hF hX.2.1 hX.1 4 0 rfl rfl (ix (v 2 j)) (okM10 hok j) (by decide) (okM hok j) dX1_digest_225 ?_
        refine M0.stT hF hX hBa2 hna2 hia2 (fun _ h => Or.inl h) hS 4 (by decide) (by decide) rfl dX1_digest_226 (fun H locs hX hBa2 hS => ?_)
        refine lv_dup hx hb dX1_digest_227 rfl ?_
        refine lv_iconst (v := 5) hx hb dX1_digest_228 (by decide) ?_
        refine lv_aload_n hx hb dX1_digest_229 rfl (lv_at hl 0 rfl) ?_
        refine lv_iload hx hb dX1_digest_230 (lv_at hl 2 rfl) ?_
        refine wVi (mc := 0) (ms := 0) (As := [.int (nI j)]) (rest := [.int 5, .ref a2, .ref a2]) hF (mX1_manyNow hok j (by omega)) M0.mv (fun _ => M0.mv) hX (M0.rc hX) jyX1_manyNow kl_RX1_91 ⟨rfl, rfl⟩ ⟨Nat.le_of_ble_eq_true rfl, Nat.le_of_ble_eq_true rfl⟩ rfl hl.1 rfl (Nat.le_of_ble_eq_true rfl) ⟨by show _ ≤ 17; omega, by show _ ≤ 138; omega⟩ hS (fun _ _ h => Or.inl h) (fun _ h => Or.inl h) dX1_digest_232 (fun r9 w4 H locs hp hX hz hk hS => ?_)
        have hr9 := hp
        subst hr9
        have hBa2 := bKept hBa2 hna2 hk
        refine M0.stT hF hX hBa2 hna2 hia2 (fun _ h => Or.inl h) hS 5 (by decide) (by decide) rfl dX1_digest_235 (fun H locs hX hBa2 hS => ?_)
        refine lv_dup hx hb dX1_digest_236 rfl ?_
        refine lv_bipush (v := 6) hx hb dX1_digest_237 (by decide) ?_
        refine lv_aload_n hx hb dX1_digest_239 rfl (lv_at hl 0 rfl) ?_
        refine lv_iload hx hb dX1_digest_240 (lv_at hl 2 rfl) ?_
        refine wVi (mc := 0) (ms := 0) (As := [.int (nI j)]) (rest := [.int 6, .ref a2, .ref a2]) hF (mX1_right hok j (by omega)) M0.mv (fun _ => M0.mv) hX (M0.rc hX) jyX1_right kl_RX1_149 ⟨rfl, rfl⟩ ⟨Nat.le_of_ble_eq_true rfl, Nat.le_of_ble_eq_true rfl⟩ rfl hl.1 rfl (Nat.le_of_ble_eq_true rfl) ⟨by show _ ≤ 17; omega, by show _ ≤ 138; omega⟩ hS (fun _ _ h => Or.inl h) (fun _ h => Or.inl h) dX1_digest_242 (fun r9 w5 H locs hp hX hz hk hS => ?_)
        have hr9 := hp
        subst hr9
        have hBa2 := bKept hBa2 hna2 hk
        refine M0.stT hF hX hBa2 hna2 hia2 (fun _ h => Or.inl h) hS 6 (by decide) (by decide) rfl dX1_digest_245 (fun H locs hX hBa2 hS => ?_)
        refine lv_dup hx hb dX1_digest_246 rfl ?_
        refine lv_bipush (v := 7) hx hb dX1_digest_247 (by decide) ?_
        refine lv_aload_n hx hb dX1_digest_249 rfl (lv_at hl 0 rfl) ?_
        refine lv_iload hx hb dX1_digest_250 (lv_at hl 2 rfl) ?_
        refine cVi (As := [.int (nI j)]) (rest := [.int 7, .ref a2, .ref a2]) hF (mX1_isMendedNow hok hmk j (by omega)) M0.mv hX (M0.rc hX) jyX1_isMendedNow kl_RX1_88 ⟨rfl, rfl⟩ ⟨Nat.le_of_ble_eq_true rfl, Nat.le_of_ble_eq_true rfl⟩ rfl hl.1 rfl (Nat.le_of_ble_eq_true rfl) ⟨by show _ ≤ 17; omega, by show _ ≤ 138; omega⟩ dX1_digest_252 (fun r hr9 => ?_)
        subst hr9
        refine lv_if_eq (tgt := 262) hx hb dX1_digest_255 (by decide) (fun c255 => ?_) (fun c255 => ?_)
        · have c255b := b2i_f c255
          refine lv_iconst (v := 0) hx hb dX1_digest_262 (by decide) ?_
          refine topI (show 0 = b2i (mk j) from b2i_0 c255b) ?_
          refine M0.stT hF hX hBa2 hna2 hia2 (fun _ h => Or.inl h) hS 7 (by decide) (by decide) rfl dX1_digest_263 (fun H locs hX hBa2 hS => ?_)
          obtain ⟨F2, hF2⟩ : ∃ z : Nat → Int32, z = (upd (upd (upd (upd (upd (upd (upd (upd (fun _ => 0) 0 (v 0 j)) 1 (hd (v 0) (j + 1))) 2 (v 2 j)) 3 (nt (v 0) st (j + 1))) 4 (v 3 (ix (v 2 j)))) 5 (rdn v st j)) 6 (rrn v st j)) 7 (b2i (mk j))) := ⟨_, rfl⟩
          rw [← hF2] at hBa2
          have F2_0 : F2 0 = (v 0 j) := by rw [hF2, pk_un (by decide), pk_un (by decide), pk_un (by decide), pk_un (by decide), pk_un (by decide), pk_un (by decide), pk_un (by decide), pk_us]
          have F2_1 : F2 1 = (hd (v 0) (j + 1)) := by rw [hF2, pk_un (by decide), pk_un (by decide), pk_un (by decide), pk_un (by decide), pk_un (by decide), pk_un (by decide), pk_us]
          have F2_2 : F2 2 = (v 2 j) := by rw [hF2, pk_un (by decide), pk_un (by decide), pk_un (by decide), pk_un (by decide), pk_un (by decide), pk_us]
          have F2_3 : F2 3 = (nt (v 0) st (j + 1)) := by rw [hF2, pk_un (by decide), pk_un (by decide), pk_un (by decide), pk_un (by decide), pk_us]
          have F2_4 : F2 4 = (v 3 (ix (v 2 j))) := by rw [hF2, pk_un (by decide), pk_un (by decide), pk_un (by decide), pk_us]
          have F2_5 : F2 5 = (rdn v st j) := by rw [hF2, pk_un (by decide), pk_un (by decide), pk_us]
          have F2_6 : F2 6 = (rrn v st j) := by rw [hF2, pk_un (by decide), pk_us]
          have F2_7 : F2 7 = (b2i (mk j)) := by rw [hF2, pk_us]
          refine lv_astore (lv' := [(5, .ref a2), (0, .ref (q 0)), (2, .long (dgLegs v st mk (dgHead v st mk N) j)), (4, .int (nI j))]) hx hb dX1_digest_264 hl (by decide) rfl (fun ls hl => ?_)
          refine lv_aload hx hb dX1_digest_266 (lv_at hl 0 rfl) ?_
          refine lv_astore (lv' := [(6, .ref a2), (5, .ref a2), (0, .ref (q 0)), (2, .long (dgLegs v st mk (dgHead v st mk N) j)), (4, .int (nI j))]) hx hb dX1_digest_268 hl (by decide) rfl (fun ls hl => ?_)
          refine lv_aload hx hb dX1_digest_270 (lv_at hl 0 rfl) ?_
          refine va_alen hx hb hX.2.1 hBa2 0 0 rfl rfl (v := (nI 8)) rfl dX1_digest_272 ?_
          refine lv_istore (lv' := [(7, .int (nI 8)), (6, .ref a2), (5, .ref a2), (0, .ref (q 0)), (2, .long (dgLegs v st mk (dgHead v st mk N) j)), (4, .int (nI j))]) hx hb dX1_digest_273 hl (by decide) rfl (fun ls hl => ?_)
          refine lv_iconst (v := 0) hx hb dX1_digest_275 (by decide) ?_
          refine lv_istore (lv' := [(8, .int 0), (7, .int (nI 8)), (6, .ref a2), (5, .ref a2), (0, .ref (q 0)), (2, .long (dgLegs v st mk (dgHead v st mk N) j)), (4, .int (nI j))]) hx hb dX1_digest_276 hl (by decide) rfl (fun ls hl => ?_)
          refine lpW (σ := Nat) (fun k ls => (k ≤ 8) ∧ lv_has ls 10 [(0, .ref (q 0)), (2, .long (dgArr F2 (dgLegs v st mk (dgHead v st mk N) j) k)), (4, .int (nI j)), (6, .ref a2), (7, .int (nI 8)), (8, .int (nI k))]) (fun k => 8 - k) (fun k ls hI ih2 => ?_) (0) ⟨Nat.zero_le _, lv_sub hl [4, 5, 6, 2, 1, 0] rfl⟩
          obtain ⟨hk2, hl⟩ := hI
          refine lv_iload hx hb dX1_digest_278 (lv_at hl 5 rfl) ?_
          refine lv_iload hx hb dX1_digest_280 (lv_at hl 4 rfl) ?_
          refine lv_icmp_ge (tgt := 308) hx hb dX1_digest_282 (by decide) (fun c282 => ?_) (fun c282 => ?_)
          · have c282n : 8 ≤ k := (nI_leI (a := 8) (b := k) (by omega) (by omega)).mp c282
            have hx9 : k = 8 := by omega
            rw [hx9] at hl
            refine lv_iinc (v := (nI (j + 1))) (lv' := [(4, .int (nI (j + 1))), (0, .ref (q 0)), (2, .long (dgArr F2 (dgLegs v st mk (dgHead v st mk N) j) 8)), (6, .ref a2), (7, .int (nI 8)), (8, .int (nI 8))]) hx hb dX1_digest_308 hl (k := 2) rfl (nI_1 _) (by decide) rfl (fun ls hl => ?_)
            refine lv_goto (tgt := 161) hx hb dX1_digest_311 (by decide) ?_
            refine W.widen (k := 1 + (j + 1)) (n := 10 + 8 * (j + 1)) (by omega) (by omega) ?_
            exact ih (j + 1) w5 ls H locs (by omega) ⟨by omega, hX, hS, by rw [show dgLegs v st mk (dgHead v st mk N) (j + 1) = dgArr F2 (dgLegs v st mk (dgHead v st mk N) j) 8 by rw [dgArr8, F2_0, F2_1, F2_2, F2_3, F2_4, F2_5, F2_6, F2_7]; rfl]; exact lv_sub hl [1, 2, 0] rfl⟩
          · have c282n : ¬ 8 ≤ k := fun h9 => c282 ((nI_leI (a := 8) (b := k) (by omega) (by omega)).mpr h9)
            refine lv_aload hx hb dX1_digest_285 (lv_at hl 3 rfl) ?_
            refine lv_iload hx hb dX1_digest_287 (lv_at hl 5 rfl) ?_
            refine aldI hF hX.2.1 hBa2 0 0 rfl rfl k (by omega) (by decide) rfl dX1_digest_289 ?_
            refine lv_istore (lv' := [(9, .int (F2 k)), (0, .ref (q 0)), (2, .long (dgArr F2 (dgLegs v st mk (dgHead v st mk N) j) k)), (4, .int (nI j)), (6, .ref a2), (7, .int (nI 8)), (8, .int (nI k))]) hx hb dX1_digest_290 hl (by decide) rfl (fun ls hl => ?_)
            refine lv_lload_n hx hb dX1_digest_292 rfl (lv_at hl 2 rfl) ?_
            refine lv_ldc2 hx hb hown (hts _ kk_RX1_171) dX1_digest_293 ?_
            refine lv_lmul hx hb dX1_digest_296 ?_
            refine lv_iload hx hb dX1_digest_297 (lv_at hl 0 rfl) ?_
            refine lv_i2l hx hb dX1_digest_299 rfl ?_
            refine lv_ladd hx hb dX1_digest_300 ?_
            refine lv_lstore_n (lv' := [(2, .long (((dgArr F2 (dgLegs v st mk (dgHead v st mk N) j) k) * 31) + (Int32.toInt64 (F2 k)))), (9, .int (F2 k)), (0, .ref (q 0)), (4, .int (nI j)), (6, .ref a2), (7, .int (nI 8)), (8, .int (nI k))]) hx hb dX1_digest_301 rfl hl (by decide) rfl (fun ls hl => ?_)
            refine lv_iinc (v := (nI (k + 1))) (lv' := [(8, .int (nI (k + 1))), (2, .long (((dgArr F2 (dgLegs v st mk (dgHead v st mk N) j) k) * 31) + (Int32.toInt64 (F2 k)))), (9, .int (F2 k)), (0, .ref (q 0)), (4, .int (nI j)), (6, .ref a2), (7, .int (nI 8))]) hx hb dX1_digest_302 hl (k := 6) rfl (nI_1 _) (by decide) rfl (fun ls hl => ?_)
            refine lv_goto (tgt := 278) hx hb dX1_digest_305 (by decide) ?_
            exact ih2 (k + 1) ls (by omega) ⟨by omega, by exact lv_sub hl [3, 1, 4, 5, 6, 0] rfl⟩
        · have c255b := b2i_t c255
          refine lv_iconst (v := 1) hx hb dX1_digest_258 (by decide) ?_
          refine lv_goto (tgt := 263) hx hb dX1_digest_259 (by decide) ?_
          refine topI (show 1 = b2i (mk j) from b2i_1 c255b) ?_
          refine M0.stT hF hX hBa2 hna2 hia2 (fun _ h => Or.inl h) hS 7 (by decide) (by decide) rfl dX1_digest_263 (fun H locs hX hBa2 hS => ?_)
          obtain ⟨F2, hF2⟩ : ∃ z : Nat → Int32, z = (upd (upd (upd (upd (upd (upd (upd (upd (fun _ => 0) 0 (v 0 j)) 1 (hd (v 0) (j + 1))) 2 (v 2 j)) 3 (nt (v 0) st (j + 1))) 4 (v 3 (ix (v 2 j)))) 5 (rdn v st j)) 6 (rrn v st j)) 7 (b2i (mk j))) := ⟨_, rfl⟩
          rw [← hF2] at hBa2
          have F2_0 : F2 0 = (v 0 j) := by rw [hF2, pk_un (by decide), pk_un (by decide), pk_un (by decide), pk_un (by decide), pk_un (by decide), pk_un (by decide), pk_un (by decide), pk_us]
          have F2_1 : F2 1 = (hd (v 0) (j + 1)) := by rw [hF2, pk_un (by decide), pk_un (by decide), pk_un (by decide), pk_un (by decide), pk_un (by decide), pk_un (by decide), pk_us]
          have F2_2 : F2 2 = (v 2 j) := by rw [hF2, pk_un (by decide), pk_un (by decide), pk_un (by decide), pk_un (by decide), pk_un (by decide), pk_us]
          have F2_3 : F2 3 = (nt (v 0) st (j + 1)) := by rw [hF2, pk_un (by decide), pk_un (by decide), pk_un (by decide), pk_un (by decide), pk_us]
          have F2_4 : F2 4 = (v 3 (ix (v 2 j))) := by rw [hF2, pk_un (by decide), pk_un (by decide), pk_un (by decide), pk_us]
          have F2_5 : F2 5 = (rdn v st j) := by rw [hF2, pk_un (by decide), pk_un (by decide), pk_us]
          have F2_6 : F2 6 = (rrn v st j) := by rw [hF2, pk_un (by decide), pk_us]
          have F2_7 : F2 7 = (b2i (mk j)) := by rw [hF2, pk_us]
          refine lv_astore (lv' := [(5, .ref a2), (0, .ref (q 0)), (2, .long (dgLegs v st mk (dgHead v st mk N) j)), (4, .int (nI j))]) hx hb dX1_digest_264 hl (by decide) rfl (fun ls hl => ?_)
          refine lv_aload hx hb dX1_digest_266 (lv_at hl 0 rfl) ?_
          refine lv_astore (lv' := [(6, .ref a2), (5, .ref a2), (0, .ref (q 0)), (2, .long (dgLegs v st mk (dgHead v st mk N) j)), (4, .int (nI j))]) hx hb dX1_digest_268 hl (by decide) rfl (fun ls hl => ?_)
          refine lv_aload hx hb dX1_digest_270 (lv_at hl 0 rfl) ?_
          refine va_alen hx hb hX.2.1 hBa2 0 0 rfl rfl (v := (nI 8)) rfl dX1_digest_272 ?_
          refine lv_istore (lv' := [(7, .int (nI 8)), (6, .ref a2), (5, .ref a2), (0, .ref (q 0)), (2, .long (dgLegs v st mk (dgHead v st mk N) j)), (4, .int (nI j))]) hx hb dX1_digest_273 hl (by decide) rfl (fun ls hl => ?_)
          refine lv_iconst (v := 0) hx hb dX1_digest_275 (by decide) ?_
          refine lv_istore (lv' := [(8, .int 0), (7, .int (nI 8)), (6, .ref a2), (5, .ref a2), (0, .ref (q 0)), (2, .long (dgLegs v st mk (dgHead v st mk N) j)), (4, .int (nI j))]) hx hb dX1_digest_276 hl (by decide) rfl (fun ls hl => ?_)
          refine lpW (σ := Nat) (fun k ls => (k ≤ 8) ∧ lv_has ls 10 [(0, .ref (q 0)), (2, .long (dgArr F2 (dgLegs v st mk (dgHead v st mk N) j) k)), (4, .int (nI j)), (6, .ref a2), (7, .int (nI 8)), (8, .int (nI k))]) (fun k => 8 - k) (fun k ls hI ih2 => ?_) (0) ⟨Nat.zero_le _, lv_sub hl [4, 5, 6, 2, 1, 0] rfl⟩
          obtain ⟨hk2, hl⟩ := hI
          refine lv_iload hx hb dX1_digest_278 (lv_at hl 5 rfl) ?_
          refine lv_iload hx hb dX1_digest_280 (lv_at hl 4 rfl) ?_
          refine lv_icmp_ge (tgt := 308) hx hb dX1_digest_282 (by decide) (fun c282 => ?_) (fun c282 => ?_)
          · have c282n : 8 ≤ k := (nI_leI (a := 8) (b := k) (by omega) (by omega)).mp c282
            have hx9 : k = 8 := by omega
            rw [hx9] at hl
            refine lv_iinc (v := (nI (j + 1))) (lv' := [(4, .int (nI (j + 1))), (0, .ref (q 0)), (2, .long (dgArr F2 (dgLegs v st mk (dgHead v st mk N) j) 8)), (6, .ref a2), (7, .int (nI 8)), (8, .int (nI 8))]) hx hb dX1_digest_308 hl (k := 2) rfl (nI_1 _) (by decide) rfl (fun ls hl => ?_)
            refine lv_goto (tgt := 161) hx hb dX1_digest_311 (by decide) ?_
            refine W.widen (k := 1 + (j + 1)) (n := 10 + 8 * (j + 1)) (by omega) (by omega) ?_
            exact ih (j + 1) w5 ls H locs (by omega) ⟨by omega, hX, hS, by rw [show dgLegs v st mk (dgHead v st mk N) (j + 1) = dgArr F2 (dgLegs v st mk (dgHead v st mk N) j) 8 by rw [dgArr8, F2_0, F2_1, F2_2, F2_3, F2_4, F2_5, F2_6, F2_7]; rfl]; exact lv_sub hl [1, 2, 0] rfl⟩
          · have c282n : ¬ 8 ≤ k := fun h9 => c282 ((nI_leI (a := 8) (b := k) (by omega) (by omega)).mpr h9)
            refine lv_aload hx hb dX1_digest_285 (lv_at hl 3 rfl) ?_
            refine lv_iload hx hb dX1_digest_287 (lv_at hl 5 rfl) ?_
            refine aldI hF hX.2.1 hBa2 0 0 rfl rfl k (by omega) (by decide) rfl dX1_digest_289 ?_
            refine lv_istore (lv' := [(9, .int (F2 k)), (0, .ref (q 0)), (2, .long (dgArr F2 (dgLegs v st mk (dgHead v st mk N) j) k)), (4, .int (nI j)), (6, .ref a2), (7, .int (nI 8)), (8, .int (nI k))]) hx hb dX1_digest_290 hl (by decide) rfl (fun ls hl => ?_)
            refine lv_lload_n hx hb dX1_digest_292 rfl (lv_at hl 2 rfl) ?_
            refine lv_ldc2 hx hb hown (hts _ kk_RX1_171) dX1_digest_293 ?_
            refine lv_lmul hx hb dX1_digest_296 ?_
            refine lv_iload hx hb dX1_digest_297 (lv_at hl 0 rfl) ?_
            refine lv_i2l hx hb dX1_digest_299 rfl ?_
            refine lv_ladd hx hb dX1_digest_300 ?_
            refine lv_lstore_n (lv' := [(2, .long (((dgArr F2 (dgLegs v st mk (dgHead v st mk N) j) k) * 31) + (Int32.toInt64 (F2 k)))), (9, .int (F2 k)), (0, .ref (q 0)), (4, .int (nI j)), (6, .ref a2), (7, .int (nI 8)), (8, .int (nI k))]) hx hb dX1_digest_301 rfl hl (by decide) rfl (fun ls hl => ?_)
            refine lv_iinc (v := (nI (k + 1))) (lv' := [(8, .int (nI (k + 1))), (2, .long (((dgArr F2 (dgLegs v st mk (dgHead v st mk N) j) k) * 31) + (Int32.toInt64 (F2 k)))), (9, .int (F2 k)), (0, .ref (q 0)), (4, .int (nI j)), (6, .ref a2), (7, .int (nI 8))]) hx hb dX1_digest_302 hl (k := 6) rfl (nI_1 _) (by decide) rfl (fun ls hl => ?_)
            refine lv_goto (tgt := 278) hx hb dX1_digest_305 (by decide) ?_
            exact ih2 (k + 1) ls (by omega) ⟨by omega, by exact lv_sub hl [3, 1, 4, 5, 6, 0] rfl⟩
    · skip
      refine lv_aload_n hx hb dX1_digest_0 rfl (lv_at hl 0 rfl) ?_
      refine lv_iconst (v := 0) hx hb dX1_digest_1 (by decide) ?_
      refine M0.put_th hF hX hS kf_RX1_35 dX1_digest_2 (fun H locs hX hS => ?_) (hAq := fun _ h => Or.inl h)
      refine lv_bipush (v := (nI 10)) hx hb dX1_digest_5 (by decide) ?_
      refine M0.newT hF hX hS hA (fun _ h => Or.inl h) 10 (by decide) rfl (by show _ ≤ 17; omega) (by show _ ≤ 138; omega) dX1_digest_7 (fun a6 H hX hBa6 hna6 hia6 hS => ?_)
      refine lv_dup hx hb dX1_digest_9 rfl ?_
      refine lv_iconst (v := 0) hx hb dX1_digest_10 (by decide) ?_
      refine lv_aload_n hx hb dX1_digest_11 rfl (lv_at hl 0 rfl) ?_
      refine M0.get hF hX 1 (by decide) rfl rfl kf_RX1_38 dX1_digest_12 ?_
      refine M0.stT hF hX hBa6 hna6 hia6 (fun _ h => Or.inl h) hS 0 (by decide) (by decide) rfl dX1_digest_15 (fun H locs hX hBa6 hS => ?_)
      refine lv_dup hx hb dX1_digest_16 rfl ?_
      refine lv_iconst (v := 1) hx hb dX1_digest_17 (by decide) ?_
      refine lv_aload_n hx hb dX1_digest_18 rfl (lv_at hl 0 rfl) ?_
      refine M0.get hF hX 2 (by decide) rfl rfl kf_RX1_7 dX1_digest_19 ?_
      refine M0.stT hF hX hBa6 hna6 hia6 (fun _ h => Or.inl h) hS 1 (by decide) (by decide) rfl dX1_digest_22 (fun H locs hX hBa6 hS => ?_)
      refine lv_dup hx hb dX1_digest_23 rfl ?_
      refine lv_iconst (v := 2) hx hb dX1_digest_24 (by decide) ?_
      refine lv_aload_n hx hb dX1_digest_25 rfl (lv_at hl 0 rfl) ?_
      refine lv_aload_n hx hb dX1_digest_26 rfl (lv_at hl 0 rfl) ?_
      refine M0.get hF hX 9 (by decide) rfl rfl kf_RX1_29 dX1_digest_27 ?_
      refine wVi (mc := 0) (ms := 0) (As := [.ref (q 6)]) (rest := [.int 2, .ref a6, .ref a6]) hF (mX1_endOf_x hok) (Mv.and M0.mv SM1.mv) (fun _ => M0.mv) ⟨hX, SM1.narrow (SM1.kept hZ0 hS.2.1) (fun _ h => Or.inl h)⟩ (M0.rc hX) jyX1_endOf kl_RX1_121 ⟨rfl, rfl⟩ ⟨Nat.le_of_ble_eq_true rfl, Nat.le_of_ble_eq_true rfl⟩ rfl hl.1 rfl (Nat.le_of_ble_eq_true rfl) ⟨by show _ ≤ 17; omega, by show _ ≤ 138; omega⟩ hS (fun _ _ h => Or.inl h) (fun _ h => Or.inl h) dX1_digest_30 (fun r9 w7 H locs hp hX hz hk hS => ?_)
      have hr9 := hp
      subst hr9
      have hBa6 := bKept hBa6 hna6 hk
      refine M0.stT hF hX hBa6 hna6 hia6 (fun _ h => Or.inl h) hS 2 (by decide) (by decide) rfl dX1_digest_33 (fun H locs hX hBa6 hS => ?_)
      refine lv_dup hx hb dX1_digest_34 rfl ?_
      refine lv_iconst (v := 3) hx hb dX1_digest_35 (by decide) ?_
      refine lv_aload_n hx hb dX1_digest_36 rfl (lv_at hl 0 rfl) ?_
      refine lv_aload_n hx hb dX1_digest_37 rfl (lv_at hl 0 rfl) ?_
      refine M0.get hF hX 10 (by decide) rfl rfl kf_RX1_32 dX1_digest_38 ?_
      refine wVi (mc := 0) (ms := 0) (As := [.ref (q 7)]) (rest := [.int 3, .ref a6, .ref a6]) hF (mX1_endOf_y hok) (Mv.and M0.mv SM1.mv) (fun _ => M0.mv) ⟨hX, SM1.narrow (SM1.kept hZ0 hS.2.1) (fun _ h => Or.inl h)⟩ (M0.rc hX) jyX1_endOf kl_RX1_121 ⟨rfl, rfl⟩ ⟨Nat.le_of_ble_eq_true rfl, Nat.le_of_ble_eq_true rfl⟩ rfl hl.1 rfl (Nat.le_of_ble_eq_true rfl) ⟨by show _ ≤ 17; omega, by show _ ≤ 138; omega⟩ hS (fun _ _ h => Or.inl h) (fun _ h => Or.inl h) dX1_digest_41 (fun r9 w8 H locs hp hX hz hk hS => ?_)
      have hr9 := hp
      subst hr9
      have hBa6 := bKept hBa6 hna6 hk
      refine M0.stT hF hX hBa6 hna6 hia6 (fun _ h => Or.inl h) hS 3 (by decide) (by decide) rfl dX1_digest_44 (fun H locs hX hBa6 hS => ?_)
      refine lv_dup hx hb dX1_digest_45 rfl ?_
      refine lv_iconst (v := 4) hx hb dX1_digest_46 (by decide) ?_
      refine lv_aload_n hx hb dX1_digest_47 rfl (lv_at hl 0 rfl) ?_
      refine wVi (mc := 0) (ms := 0) (As := []) (rest := [.int 4, .ref a6, .ref a6]) hF (mX1_home hok) (Mv.and M0.mv SM1.mv) (fun _ => M0.mv) ⟨hX, SM1.narrow (SM1.kept hZ0 hS.2.1) (fun _ h => Or.inl h)⟩ (M0.rc hX) jyX1_home kl_RX1_125 ⟨rfl, rfl⟩ ⟨Nat.le_of_ble_eq_true rfl, Nat.le_of_ble_eq_true rfl⟩ rfl hl.1 rfl (Nat.le_of_ble_eq_true rfl) ⟨by show _ ≤ 17; omega, by show _ ≤ 138; omega⟩ hS (fun _ _ h => Or.inl h) (fun _ h => Or.inl h) dX1_digest_48 (fun r9 w9 H locs hp hX hz hk hS => ?_)
      have hr9 := hp
      subst hr9
      have hBa6 := bKept hBa6 hna6 hk
      refine M0.stT hF hX hBa6 hna6 hia6 (fun _ h => Or.inl h) hS 4 (by decide) (by decide) rfl dX1_digest_51 (fun H locs hX hBa6 hS => ?_)
      refine lv_dup hx hb dX1_digest_52 rfl ?_
      refine lv_iconst (v := 5) hx hb dX1_digest_53 (by decide) ?_
      refine lv_aload_n hx hb dX1_digest_54 rfl (lv_at hl 0 rfl) ?_
      refine wVi (mc := 0) (ms := 0) (As := []) (rest := [.int 5, .ref a6, .ref a6]) hF (mX1_back hok) (Mv.and M0.mv SM1.mv) (fun _ => M0.mv) ⟨hX, SM1.narrow (SM1.kept hZ0 hS.2.1) (fun _ h => Or.inl h)⟩ (M0.rc hX) jyX1_back kl_RX1_129 ⟨rfl, rfl⟩ ⟨Nat.le_of_ble_eq_true rfl, Nat.le_of_ble_eq_true rfl⟩ rfl hl.1 rfl (Nat.le_of_ble_eq_true rfl) ⟨by show _ ≤ 17; omega, by show _ ≤ 138; omega⟩ hS (fun _ _ h => Or.inl h) (fun _ h => Or.inl h) dX1_digest_55 (fun r9 w10 H locs hp hX hz hk hS => ?_)
      have hr9 := hp
      subst hr9
      have hBa6 := bKept hBa6 hna6 hk
      refine M0.stT hF hX hBa6 hna6 hia6 (fun _ h => Or.inl h) hS 5 (by decide) (by decide) rfl dX1_digest_58 (fun H locs hX hBa6 hS => ?_)
      refine lv_dup hx hb dX1_digest_59 rfl ?_
      refine lv_bipush (v := 6) hx hb dX1_digest_60 (by decide) ?_
      refine lv_aload_n hx hb dX1_digest_62 rfl (lv_at hl 0 rfl) ?_
      refine cVi (As := []) (rest := [.int 6, .ref a6, .ref a6]) hF (mX1_allBeats hok) M0.mv hX (M0.rc hX) jyX1_allBeats kl_RX1_138 ⟨rfl, rfl⟩ ⟨Nat.le_of_ble_eq_true rfl, Nat.le_of_ble_eq_true rfl⟩ rfl hl.1 rfl (Nat.le_of_ble_eq_true rfl) ⟨by show _ ≤ 17; omega, by show _ ≤ 138; omega⟩ dX1_digest_63 (fun r hr9 => ?_)
      subst hr9
      refine M0.stT hF hX hBa6 hna6 hia6 (fun _ h => Or.inl h) hS 6 (by decide) (by decide) rfl dX1_digest_66 (fun H locs hX hBa6 hS => ?_)
      refine lv_dup hx hb dX1_digest_67 rfl ?_
      refine lv_bipush (v := 7) hx hb dX1_digest_68 (by decide) ?_
      refine lv_aload_n hx hb dX1_digest_70 rfl (lv_at hl 0 rfl) ?_
      refine wVi (mc := 0) (ms := 0) (As := []) (rest := [.int 7, .ref a6, .ref a6]) hF (mX1_foldedNow hok) M0.mv (fun _ => M0.mv) hX (M0.rc hX) jyX1_foldedNow kl_RX1_141 ⟨rfl, rfl⟩ ⟨Nat.le_of_ble_eq_true rfl, Nat.le_of_ble_eq_true rfl⟩ rfl hl.1 rfl (Nat.le_of_ble_eq_true rfl) ⟨by show _ ≤ 17; omega, by show _ ≤ 138; omega⟩ hS (fun _ _ h => Or.inl h) (fun _ h => Or.inl h) dX1_digest_71 (fun r9 w11 H locs hp hX hz hk hS => ?_)
      have hr9 := hp
      subst hr9
      have hBa6 := bKept hBa6 hna6 hk
      refine M0.stT hF hX hBa6 hna6 hia6 (fun _ h => Or.inl h) hS 7 (by decide) (by decide) rfl dX1_digest_74 (fun H locs hX hBa6 hS => ?_)
      refine lv_dup hx hb dX1_digest_75 rfl ?_
      refine lv_bipush (v := 8) hx hb dX1_digest_76 (by decide) ?_
      refine lv_aload_n hx hb dX1_digest_78 rfl (lv_at hl 0 rfl) ?_
      refine wVi (mc := 0) (ms := 0) (As := []) (rest := [.int 8, .ref a6, .ref a6]) hF (mX1_wide hok) M0.mv (fun _ => M0.mv) hX (M0.rc hX) jyX1_wide kl_RX1_146 ⟨rfl, rfl⟩ ⟨Nat.le_of_ble_eq_true rfl, Nat.le_of_ble_eq_true rfl⟩ rfl hl.1 rfl (Nat.le_of_ble_eq_true rfl) ⟨by show _ ≤ 17; omega, by show _ ≤ 138; omega⟩ hS (fun _ _ h => Or.inl h) (fun _ h => Or.inl h) dX1_digest_79 (fun r9 w12 H locs hp hX hz hk hS => ?_)
      have hr9 := hp
      subst hr9
      have hBa6 := bKept hBa6 hna6 hk
      refine M0.stT hF hX hBa6 hna6 hia6 (fun _ h => Or.inl h) hS 8 (by decide) (by decide) rfl dX1_digest_82 (fun H locs hX hBa6 hS => ?_)
      refine lv_dup hx hb dX1_digest_83 rfl ?_
      refine lv_bipush (v := 9) hx hb dX1_digest_84 (by decide) ?_
      refine lv_aload_n hx hb dX1_digest_86 rfl (lv_at hl 0 rfl) ?_
      refine wVi (mc := 0) (ms := 0) (As := []) (rest := [.int 9, .ref a6, .ref a6]) hF (mX1_open hok hmk) M0.mv (fun _ => M0.mv) hX (M0.rc hX) jyX1_open kl_RX1_157 ⟨rfl, rfl⟩ ⟨Nat.le_of_ble_eq_true rfl, Nat.le_of_ble_eq_true rfl⟩ rfl hl.1 rfl (Nat.le_of_ble_eq_true rfl) ⟨by show _ ≤ 17; omega, by show _ ≤ 138; omega⟩ hS (fun _ _ h => Or.inl h) (fun _ h => Or.inl h) dX1_digest_87 (fun r9 w13 H locs hp hX hz hk hS => ?_)
      have hr9 := hp
      subst hr9
      have hBa6 := bKept hBa6 hna6 hk
      refine M0.stT hF hX hBa6 hna6 hia6 (fun _ h => Or.inl h) hS 9 (by decide) (by decide) rfl dX1_digest_90 (fun H locs hX hBa6 hS => ?_)
      obtain ⟨F1, hF1⟩ : ∃ z : Nat → Int32, z = (upd (upd (upd (upd (upd (upd (upd (upd (upd (upd (fun _ => 0) 0 (nI N)) 1 st) 2 (px (v 0) (v 1) N)) 3 (py (v 0) (v 1) N)) 4 (mx (ab (px (v 0) (v 1) N)) (ab (py (v 0) (v 1) N)))) 5 (rtn v N)) 6 (sumI (v 1) N)) 7 (ctB (fold1 v st) N)) 8 (rng v st N)) 9 (ctB (amb v st mk) N)) := ⟨_, rfl⟩
      rw [← hF1] at hBa6
      have F1_0 : F1 0 = (nI N) := by rw [hF1, pk_un (by decide), pk_un (by decide), pk_un (by decide), pk_un (by decide), pk_un (by decide), pk_un (by decide), pk_un (by decide), pk_un (by decide), pk_un (by decide), pk_us]
      have F1_1 : F1 1 = st := by rw [hF1, pk_un (by decide), pk_un (by decide), pk_un (by decide), pk_un (by decide), pk_un (by decide), pk_un (by decide), pk_un (by decide), pk_un (by decide), pk_us]
      have F1_2 : F1 2 = (px (v 0) (v 1) N) := by rw [hF1, pk_un (by decide), pk_un (by decide), pk_un (by decide), pk_un (by decide), pk_un (by decide), pk_un (by decide), pk_un (by decide), pk_us]
      have F1_3 : F1 3 = (py (v 0) (v 1) N) := by rw [hF1, pk_un (by decide), pk_un (by decide), pk_un (by decide), pk_un (by decide), pk_un (by decide), pk_un (by decide), pk_us]
      have F1_4 : F1 4 = (mx (ab (px (v 0) (v 1) N)) (ab (py (v 0) (v 1) N))) := by rw [hF1, pk_un (by decide), pk_un (by decide), pk_un (by decide), pk_un (by decide), pk_un (by decide), pk_us]
      have F1_5 : F1 5 = (rtn v N) := by rw [hF1, pk_un (by decide), pk_un (by decide), pk_un (by decide), pk_un (by decide), pk_us]
      have F1_6 : F1 6 = (sumI (v 1) N) := by rw [hF1, pk_un (by decide), pk_un (by decide), pk_un (by decide), pk_us]
      have F1_7 : F1 7 = (ctB (fold1 v st) N) := by rw [hF1, pk_un (by decide), pk_un (by decide), pk_us]
      have F1_8 : F1 8 = (rng v st N) := by rw [hF1, pk_un (by decide), pk_us]
      have F1_9 : F1 9 = (ctB (amb v st mk) N) := by rw [hF1, pk_us]
      refine lv_astore_n (lv' := [(1, .ref a6), (0, .ref (q 0))]) hx hb dX1_digest_91 rfl hl (by decide) rfl (fun ls hl => ?_)
      refine lv_ldc2 hx hb hown (hts _ kk_RX1_169) dX1_digest_92 ?_
      refine lv_lstore_n (lv' := [(2, .long 1051), (1, .ref a6), (0, .ref (q 0))]) hx hb dX1_digest_95 rfl hl (by decide) rfl (fun ls hl => ?_)
      refine lv_aload_n hx hb dX1_digest_96 rfl (lv_at hl 1 rfl) ?_
      refine lv_astore (lv' := [(4, .ref a6), (2, .long 1051), (1, .ref a6), (0, .ref (q 0))]) hx hb dX1_digest_97 hl (by decide) rfl (fun ls hl => ?_)
      refine lv_aload hx hb dX1_digest_99 (lv_at hl 0 rfl) ?_
      refine va_alen hx hb hX.2.1 hBa6 0 0 rfl rfl (v := (nI 10)) rfl dX1_digest_101 ?_
      refine lv_istore (lv' := [(5, .int (nI 10)), (4, .ref a6), (2, .long 1051), (1, .ref a6), (0, .ref (q 0))]) hx hb dX1_digest_102 hl (by decide) rfl (fun ls hl => ?_)
      refine lv_iconst (v := 0) hx hb dX1_digest_104 (by decide) ?_
      refine lv_istore (lv' := [(6, .int 0), (5, .int (nI 10)), (4, .ref a6), (2, .long 1051), (1, .ref a6), (0, .ref (q 0))]) hx hb dX1_digest_105 hl (by decide) rfl (fun ls hl => ?_)
      refine lpW (σ := Nat) (fun k ls => (k ≤ 10) ∧ lv_has ls 10 [(0, .ref (q 0)), (2, .long (dgArr F1 1051 k)), (4, .ref a6), (5, .int (nI 10)), (6, .int (nI k))]) (fun k => 10 - k) (fun k ls hI ih1 => ?_) (0) ⟨Nat.zero_le _, by rw [dgArr0]; exact lv_sub hl [5, 3, 2, 1, 0] rfl⟩
      obtain ⟨hk1, hl⟩ := hI
      refine lv_iload hx hb dX1_digest_107 (lv_at hl 4 rfl) ?_
      refine lv_iload hx hb dX1_digest_109 (lv_at hl 3 rfl) ?_
      refine lv_icmp_ge (tgt := 137) hx hb dX1_digest_111 (by decide) (fun c111 => ?_) (fun c111 => ?_)
      · have c111n : 10 ≤ k := (nI_leI (a := 10) (b := k) (by omega) (by omega)).mp c111
        have hx9 : k = 10 := by omega
        rw [hx9] at hl
        refine lv_lload_n hx hb dX1_digest_137 rfl (lv_at hl 1 rfl) ?_
        refine lv_ldc2 hx hb hown (hts _ kk_RX1_171) dX1_digest_138 ?_
        refine lv_lmul hx hb dX1_digest_141 ?_
        refine lv_aload_n hx hb dX1_digest_142 rfl (lv_at hl 0 rfl) ?_
        refine wVl (mc := 0) (ms := 0) (As := []) (rest := [.long ((dgArr F1 1051 10) * 31)]) hF (mX1_all hok hmk) M0.mv (fun _ => M0.mv) hX (M0.rc hX) jyX1_all kl_RX1_153 ⟨rfl, rfl⟩ ⟨Nat.le_of_ble_eq_true rfl, Nat.le_of_ble_eq_true rfl⟩ rfl hl.1 rfl (Nat.le_of_ble_eq_true rfl) ⟨by show _ ≤ 17; omega, by show _ ≤ 138; omega⟩ hS (fun _ _ h => Or.inl h) (fun _ h => Or.inl h) dX1_digest_143 (fun r9 w14 H locs hp hX hz hk hS => ?_)
        have hr9 := hp
        subst hr9
        have hBa6 := bKept hBa6 hna6 hk
        refine lv_ladd hx hb dX1_digest_146 ?_
        refine lv_ldc2 hx hb hown (hts _ kk_RX1_171) dX1_digest_147 ?_
        refine lv_lmul hx hb dX1_digest_150 ?_
        refine lv_aload_n hx hb dX1_digest_151 rfl (lv_at hl 0 rfl) ?_
        refine wVi (mc := 0) (ms := 0) (As := []) (rest := [.long ((((dgArr F1 1051 10) * 31) + (wys v st mk N)) * 31)]) hF (mX1_stepFor hok) M0.mv (fun _ => M0.mv) hX (M0.rc hX) jyX1_stepFor kl_RX1_166 ⟨rfl, rfl⟩ ⟨Nat.le_of_ble_eq_true rfl, Nat.le_of_ble_eq_true rfl⟩ rfl hl.1 rfl (Nat.le_of_ble_eq_true rfl) ⟨by show _ ≤ 17; omega, by show _ ≤ 138; omega⟩ hS (fun _ _ h => Or.inl h) (fun _ h => Or.inl h) dX1_digest_152 (fun r9 w15 H locs hp hX hz hk hS => ?_)
        have hr9 := hp
        subst hr9
        have hBa6 := bKept hBa6 hna6 hk
        refine lv_i2l hx hb dX1_digest_155 rfl ?_
        refine lv_ladd hx hb dX1_digest_156 ?_
        refine topL (show (((((dgArr F1 1051 10) * 31) + (wys v st mk N)) * 31) + (Int32.toInt64 (nI (bst v N)))) = dgHead v st mk N from by rw [dgArr10, F1_0, F1_1, F1_2, F1_3, F1_4, F1_5, F1_6, F1_7, F1_8, F1_9]; unfold dgHead; exact dgHd) ?_
        refine lv_lstore_n (lv' := [(2, .long (dgHead v st mk N)), (0, .ref (q 0)), (4, .ref a6), (5, .int (nI 10)), (6, .int (nI 10))]) hx hb dX1_digest_157 rfl hl (by decide) rfl (fun ls hl => ?_)
        refine W.widen (k := 1 + 0) (n := 10 + 8 * 0) (by omega) (by omega) ?_
        exact J2 w15 ls H locs ⟨hX, hS, lv_sub hl [1, 0] rfl⟩
      · have c111n : ¬ 10 ≤ k := fun h9 => c111 ((nI_leI (a := 10) (b := k) (by omega) (by omega)).mpr h9)
        refine lv_aload hx hb dX1_digest_114 (lv_at hl 2 rfl) ?_
        refine lv_iload hx hb dX1_digest_116 (lv_at hl 4 rfl) ?_
        refine aldI hF hX.2.1 hBa6 0 0 rfl rfl k (by omega) (by decide) rfl dX1_digest_118 ?_
        refine lv_istore (lv' := [(7, .int (F1 k)), (0, .ref (q 0)), (2, .long (dgArr F1 1051 k)), (4, .ref a6), (5, .int (nI 10)), (6, .int (nI k))]) hx hb dX1_digest_119 hl (by decide) rfl (fun ls hl => ?_)
        refine lv_lload_n hx hb dX1_digest_121 rfl (lv_at hl 2 rfl) ?_
        refine lv_ldc2 hx hb hown (hts _ kk_RX1_171) dX1_digest_122 ?_
        refine lv_lmul hx hb dX1_digest_125 ?_
        refine lv_iload hx hb dX1_digest_126 (lv_at hl 0 rfl) ?_
        refine lv_i2l hx hb dX1_digest_128 rfl ?_
        refine lv_ladd hx hb dX1_digest_129 ?_
        refine topL (show (((dgArr F1 1051 k) * 31) + (Int32.toInt64 (F1 k))) = dgArr F1 1051 (k + 1) from dgArrS) ?_
        refine lv_lstore_n (lv' := [(2, .long (dgArr F1 1051 (k + 1))), (7, .int (F1 k)), (0, .ref (q 0)), (4, .ref a6), (5, .int (nI 10)), (6, .int (nI k))]) hx hb dX1_digest_130 rfl hl (by decide) rfl (fun ls hl => ?_)
        refine lv_iinc (v := (nI (k + 1))) (lv' := [(6, .int (nI (k + 1))), (2, .long (dgArr F1 1051 (k + 1))), (7, .int (F1 k)), (0, .ref (q 0)), (4, .ref a6), (5, .int (nI 10))]) hx hb dX1_digest_131 hl (k := 5) rfl (nI_1 _) (by decide) rfl (fun ls hl => ?_)
        refine lv_goto (tgt := 107) hx hb dX1_digest_134 (by decide) ?_
        exact ih1 (k + 1) ls (by omega) ⟨by omega, by exact lv_sub hl [3, 1, 4, 5, 0] rfl⟩
end P26
