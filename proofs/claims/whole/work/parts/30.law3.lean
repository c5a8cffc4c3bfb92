set_option maxHeartbeats 8000000 in
set_option maxRecDepth 100000 in
theorem l_start {p : Program} {l : Launch} {e : Env} {s : State} {m : MethodId} {below : List Frame} {meth : Method} {c : Code} {dC : Nat → ClassId} {dI : Nat → Nat → Nat} {b L : Nat} {xs : Nat → Int32} (hst : l.stackTraces = false) (hL : L ≤ 2562) (C0 : lw_At p s m meth c b L xs) (hok : xt_ok s) (hnk : xt_nk s) {x a1 a2 a5 a6 a7 y b1 b2 b3 b4 b5 b6 b7 b8 b9 b10 q : Nat} {cI cJ cZ : ClassId} {nD nR : Nat} (hK : va_K (dC, dI) vwCl [(cI, .int), (cJ, .long), (cZ, .boolean)] s) (i : Nat) (hi : i + 5 ≤ L) (KK : lwK p l e s m below meth c dC dI b x a1 a2 a5 a6 a7 y b1 b2 b3 b4 b5 b6 b7 b8 b9 b10 q cI cJ cZ nD nR i) (a3 a4 : Nat) (dv : Nat → Int64) (r : Nat → Nat) (cap : Nat) (ti va ev ed : Nat → Int64) (ec : Nat) (ad : Nat → Int32) (ac : Nat) (now : Int64) (th : Nat) (vs : Nat → Int64) (mac : Nat → Bool) (o : Nat → Nat) (mt mw : Nat → Int64) (zs : List ZT) (nv dl : Nat → Int64) (rt rv : Nat → Int64) (mk : Nat → Bool) (ou : Nat → Int64) (G : Nat) (H : Heap) (locs : List Loc) (hR : wrel nD nR cap ec ac dv r ti va ev ed ad now vs mac zs nv dl) (hZ : wz zs o mt mw) (hG : G ≤ 4 * cap ∨ cap = nR ∧ G ≤ 6 * nR) (hP : va_P (dC, dI) vwCl (wlw x a1 a2 a3 a4 a5 a6 a7 y b1 b2 b3 b4 b5 b6 b7 b8 b9 b10 q cI cJ cZ nD nR dv r cap ti va ev ed ec ad ac now th vs mac now o mt mw zs.length nv dl ec rt rv mk ou) H) (hD : va_D (fun z : Nat => s.heap.size ≤ z) (wlw x a1 a2 a3 a4 a5 a6 a7 y b1 b2 b3 b4 b5 b6 b7 b8 b9 b10 q cI cJ cZ nD nR dv r cap ti va ev ed ec ad ac now th vs mac now o mt mw zs.length nv dl ec rt rv mk ou)) (hS : va_S (fun z : Nat => s.heap.size ≤ z) s.heap H locs) (ls : Array Slot) (hl : lv_has ls 8 [(0, .ref b), (1, .ref x), (2, .ref y), (3, .ref q), (4, .int (nI i))]) : W p l e room_1 s m #[Value.ref b] below meth c H locs (20 + 2 * i) (70000 + 6 * i + G) (lw_Z below #[Value.ref b] s) (F0 m 361 ls []) := by
  obtain ⟨hx, hb, hr, hml, hown, hts, hX, hbl, hlocks, hgv⟩ := C0
  have hA : ∀ z : Nat, s.heap.size ≤ z → (fun z : Nat => s.heap.size ≤ z) z := fun _ h => h
  have hbA : ¬ (fun z : Nat => s.heap.size ≤ z) b := Nat.not_le.mpr hbl
  have hall : ∀ w ∈ allw, w.before #[Value.ref b] s = true := fun w h => hts w (List.mem_filter.mp h).1
  have hown : s.vm.findClass RL = some m.cls := hown
  have hI := hR.1
  have hIm := wrel_I hR
  obtain ⟨hnD1, hnD, hnR1, hnR, hcap, hrc, hrR, hr0, hmo, hec, hac⟩ := id hR.1
  have hG6 : G ≤ 49152 := by omega
  obtain ⟨d0, E_d0⟩ : ∃ z : Int32, z = xs (i + 1) := ⟨_, rfl⟩
  obtain ⟨t, E_t⟩ : ∃ z : Int64, z = (xs (i + 2)).toInt64 <<< ((32 : Int32).toInt64 &&& 63) ||| (xs (i + 3)).toInt64 &&& 4294967295 := ⟨_, rfl⟩
  by_cases c1 : d0 < 0 ∨ nI nD ≤ d0
  · refine lv_aload_n hx hb dL_law_361 rfl (lv_at hl 1 rfl) ?_
    refine lv_aload_n hx hb dL_law_362 rfl (lv_at hl 0 rfl) ?_
    refine lv_iload hx hb dL_law_363 (lv_at hl 4 rfl) ?_
    refine lv_iconst (v := 1) hx hb dL_law_365 (by decide) ?_
    refine lv_iadd hx hb dL_law_366 ?_
    refine tp_i (y := nI (i + 1)) (nI_add i 1) ?_
    refine va_sld hx hb hX hbl hbA hS (vp_in_nI (show i + 1 < L by omega) (by omega)) dL_law_367 ?_
    refine tp_i (y := d0) (by rw [nI_clamp (by omega)]; exact E_d0.symm) ?_
    refine lv_aload_n hx hb dL_law_368 rfl (lv_at hl 0 rfl) ?_
    refine lv_iload hx hb dL_law_369 (lv_at hl 4 rfl) ?_
    refine lv_iconst (v := 2) hx hb dL_law_371 (by decide) ?_
    refine lv_iadd hx hb dL_law_372 ?_
    refine tp_i (y := nI (i + 2)) (nI_add i 2) ?_
    refine va_sld hx hb hX hbl hbA hS (vp_in_nI (show i + 2 < L by omega) (by omega)) dL_law_373 ?_
    refine tp_i (y := xs (i + 2)) (by rw [nI_clamp (by omega)]) ?_
    refine lv_i2l hx hb dL_law_374 rfl ?_
    refine lv_bipush (v := 32) hx hb dL_law_375 (by decide) ?_
    refine lv_lshl hx hb dL_law_377 rfl ?_
    refine lv_aload_n hx hb dL_law_378 rfl (lv_at hl 0 rfl) ?_
    refine lv_iload hx hb dL_law_379 (lv_at hl 4 rfl) ?_
    refine lv_iconst (v := 3) hx hb dL_law_381 (by decide) ?_
    refine lv_iadd hx hb dL_law_382 ?_
    refine tp_i (y := nI (i + 3)) (nI_add i 3) ?_
    refine va_sld hx hb hX hbl hbA hS (vp_in_nI (show i + 3 < L by omega) (by omega)) dL_law_383 ?_
    refine tp_i (y := xs (i + 3)) (by rw [nI_clamp (by omega)]) ?_
    refine lv_i2l hx hb dL_law_384 rfl ?_
    refine lv_ldc2 (v := 4294967295) hx hb hown (hall _ kw_447) dL_law_385 ?_
    refine lv_land hx hb dL_law_388 ?_
    refine lv_lor hx hb dL_law_389 ?_
    refine tp_l (y := t) E_t.symm ?_
    refine lv_aload_n hx hb dL_law_390 rfl (lv_at hl 3 rfl) ?_
    have hPc := hP.sub (ws' := (wr x a1 a2 a3 a4 a5 a6 a7 cI cJ nD nR dv r cap ti va ev ed ec ad ac now)) [0, 1, 2, 3, 4, 5, 6, 7] rfl
    have hDc := hD.sub (ws' := (wr x a1 a2 a3 a4 a5 a6 a7 cI cJ nD nR dv r cap ti va ev ed ec ad ac now)) [0, 1, 2, 3, 4, 5, 6, 7] (by decide) rfl
    have hKc := hK.sub (tys' := [(cI, .int), (cJ, .long)]) [0, 1] rfl
    have hFc := va_free (wc := (wr x a1 a2 a3 a4 a5 a6 a7 cI cJ nD nR dv r cap ti va ev ed ec ad ac now)) hD hS hA [0, 1, 2, 3, 4, 5, 6, 7] rfl
    refine va_calli (xt_runSW (n := 4) (As := [.ref x, .int d0, .long t, .ref q]) (rest := []) ⟨hx, hb, hml, hown, hall⟩ (h_start1 l dC dI x a1 a2 a3 a4 a5 a6 a7 cI cJ nD nR dv r cap ti va ev ed ec ad ac now hst q H.size d0 c1 t) gL_77 rfl rfl rfl (by decide +kernel) ⟨Nat.le_of_ble_eq_true rfl, Nat.le_of_ble_eq_true rfl⟩ ⟨xh_blind, fun U hU hW => ⟨rfl, by rw [hU], by rw [hU]; exact hPc, va_K.moved hW.alike hKc, hDc.weaken (fun _ _ _ _ => trivial), xt_move hW (fun z hz => by rw [hU]; exact hS.2.1 z hz (Nat.not_le.mpr hz)) hok, xt_nk_move hW.alike hnk⟩⟩ rfl rfl hl.1 rfl (lv_room (Nat.le_of_ble_eq_true rfl)) dL_law_391 ⟨by show _ ≤ 601024; omega, by show _ ≤ 7293000; omega⟩) hS (fun q _ h => hFc q h) hFc (fun v_1 u t9 H1 locs ht hvm hw hB hz1 hk1 hS => ?_)
    obtain ⟨hP1, hK1, hD1⟩ := hB
    rw [ht] at hP1
    obtain ⟨hP, hD⟩ := va_join (wr := (wm y b1 b2 b3 b4 b5 b6 b7 b8 b9 b10 cI cJ cZ th nD nR vs mac now o mt mw zs.length nv dl ec rt rv mk) ++ [(q, .inl (cJ, 1, .inr (.inl ou)))]) (w1 := (wr x a1 a2 a3 a4 a5 a6 a7 cI cJ nD nR dv r cap ti va ev ed ec ad ac now)) hP hD [0, 1, 2, 3, 4, 5, 6, 7] [8, 9, 10, 11, 12, 13, 14, 15, 16, 17, 18, 19] rfl rfl (by decide) (by decide) hk1 hFc hP1 hD1
    generalize H1 = H at hP hS ⊢
    have hP := hP.sub (ws' := (wlw x a1 a2 a3 a4 a5 a6 a7 y b1 b2 b3 b4 b5 b6 b7 b8 b9 b10 q cI cJ cZ nD nR dv r cap ti va ev ed ec ad ac now th vs mac now o mt mw zs.length nv dl ec rt rv mk ou)) [12, 13, 14, 15, 16, 17, 18, 19, 0, 1, 2, 3, 4, 5, 6, 7, 8, 9, 10, 11] rfl
    have hD := hD.sub (ws' := (wlw x a1 a2 a3 a4 a5 a6 a7 y b1 b2 b3 b4 b5 b6 b7 b8 b9 b10 q cI cJ cZ nD nR dv r cap ti va ev ed ec ad ac now th vs mac now o mt mw zs.length nv dl ec rt rv mk ou)) [12, 13, 14, 15, 16, 17, 18, 19, 0, 1, 2, 3, 4, 5, 6, 7, 8, 9, 10, 11] (by decide) rfl
    obtain rfl : v_1 = nI 1 := hw
    refine lv_istore (lv' := [(5, .int (nI 1)), (0, .ref b), (1, .ref x), (2, .ref y), (3, .ref q), (4, .int (nI i))]) hx hb dL_law_394 hl (by decide) rfl (fun ls hl => ?_)
    refine lv_aload_n hx hb dL_law_396 rfl (lv_at hl 3 rfl) ?_
    refine lv_aload_n hx hb dL_law_397 rfl (lv_at hl 1 rfl) ?_
    refine lv_iload hx hb dL_law_398 (lv_at hl 5 rfl) ?_
    refine lv_iconst (v := 1) hx hb dL_law_400 (by decide) ?_
    refine lv_iadd hx hb dL_law_401 ?_
    refine tp_i (y := nI (i + 1)) (nI_add i 1) ?_
    refine va_sld hx hb hX hbl hbA hS (vp_in_nI (show i + 1 < L by omega) (by omega)) dL_law_402 ?_
    refine tp_i (y := d0) (by rw [nI_clamp (by omega)]; exact E_d0.symm) ?_
    refine lv_aload_n hx hb dL_law_403 rfl (lv_at hl 1 rfl) ?_
    refine lv_iload hx hb dL_law_404 (lv_at hl 5 rfl) ?_
    refine lv_iconst (v := 2) hx hb dL_law_406 (by decide) ?_
    refine lv_iadd hx hb dL_law_407 ?_
    refine tp_i (y := nI (i + 2)) (nI_add i 2) ?_
    refine va_sld hx hb hX hbl hbA hS (vp_in_nI (show i + 2 < L by omega) (by omega)) dL_law_408 ?_
    refine tp_i (y := xs (i + 2)) (by rw [nI_clamp (by omega)]) ?_
    refine lv_i2l hx hb dL_law_409 rfl ?_
    refine lv_bipush (v := 32) hx hb dL_law_410 (by decide) ?_
    refine lv_lshl hx hb dL_law_412 rfl ?_
    refine lv_aload_n hx hb dL_law_413 rfl (lv_at hl 1 rfl) ?_
    refine lv_iload hx hb dL_law_414 (lv_at hl 5 rfl) ?_
    refine lv_iconst (v := 3) hx hb dL_law_416 (by decide) ?_
    refine lv_iadd hx hb dL_law_417 ?_
    refine tp_i (y := nI (i + 3)) (nI_add i 3) ?_
    refine va_sld hx hb hX hbl hbA hS (vp_in_nI (show i + 3 < L by omega) (by omega)) dL_law_418 ?_
    refine tp_i (y := xs (i + 3)) (by rw [nI_clamp (by omega)]) ?_
    refine lv_i2l hx hb dL_law_419 rfl ?_
    refine lv_ldc2 (v := 4294967295) hx hb hown (hall _ kw_447) dL_law_420 ?_
    refine lv_land hx hb dL_law_423 ?_
    refine lv_lor hx hb dL_law_424 ?_
    refine tp_l (y := t) E_t.symm ?_
    have hPc := hP.sub (ws' := (wm y b1 b2 b3 b4 b5 b6 b7 b8 b9 b10 cI cJ cZ th nD nR vs mac now o mt mw zs.length nv dl ec rt rv mk)) [8, 9, 10, 11, 12, 13, 14, 15, 16, 17, 18] rfl
    have hDc := hD.sub (ws' := (wm y b1 b2 b3 b4 b5 b6 b7 b8 b9 b10 cI cJ cZ th nD nR vs mac now o mt mw zs.length nv dl ec rt rv mk)) [8, 9, 10, 11, 12, 13, 14, 15, 16, 17, 18] (by decide) rfl
    have hFc := va_free (wc := (wm y b1 b2 b3 b4 b5 b6 b7 b8 b9 b10 cI cJ cZ th nD nR vs mac now o mt mw zs.length nv dl ec rt rv mk)) hD hS hA [8, 9, 10, 11, 12, 13, 14, 15, 16, 17, 18] rfl
    refine va_calli (va_runV (As := [.int d0, .long t]) (rest := []) ⟨hx, hb, hml, hown, hall⟩ (m_start1 l dC dI y b1 b2 b3 b4 b5 b6 b7 b8 b9 b10 cI cJ cZ th nD nR vs mac now o mt mw nv dl ec rt rv mk zs H.size d0 c1 t) (cwV 2 hall gL_80 rfl rfl rfl (by decide +kernel) ⟨Nat.le_of_ble_eq_true rfl, Nat.le_of_ble_eq_true rfl⟩) ⟨xu_blind, va_recv hK hPc (ci := 1) (q0 := 0) rfl rfl, fun U hU hW => ⟨rfl, by rw [hU], by rw [hU]; exact hPc, va_K.moved hW.alike hK, hDc.weaken (fun _ _ _ _ => trivial)⟩⟩ rfl rfl hl.1 rfl (lv_room (Nat.le_of_ble_eq_true rfl)) dL_law_425 ⟨by show _ ≤ 601024; omega, by show _ ≤ 7293000; omega⟩) hS (fun q _ h => hFc q h) hFc (fun v_2 u9 t9 H1 locs ht hvm hw hB hz1 hk1 hS => ?_)
    obtain ⟨hP1, hK1, hD1⟩ := hB
    rw [ht] at hP1
    obtain ⟨hP, hD⟩ := va_join (wr := (wr x a1 a2 a3 a4 a5 a6 a7 cI cJ nD nR dv r cap ti va ev ed ec ad ac now) ++ [(q, .inl (cJ, 1, .inr (.inl ou)))]) (w1 := (wm y b1 b2 b3 b4 b5 b6 b7 b8 b9 b10 cI cJ cZ 1 nD nR vs mac now o mt mw zs.length nv dl ec rt rv mk)) hP hD [8, 9, 10, 11, 12, 13, 14, 15, 16, 17, 18] [0, 1, 2, 3, 4, 5, 6, 7, 19] rfl rfl (by decide) (by decide) hk1 hFc hP1 hD1
    generalize H1 = H at hP hS ⊢
    have hP := hP.sub (ws' := (wlw x a1 a2 a3 a4 a5 a6 a7 y b1 b2 b3 b4 b5 b6 b7 b8 b9 b10 q cI cJ cZ nD nR dv r cap ti va ev ed ec ad ac now 1 vs mac now o mt mw zs.length nv dl ec rt rv mk ou)) [0, 1, 2, 3, 4, 5, 6, 7, 9, 10, 11, 12, 13, 14, 15, 16, 17, 18, 19, 8] rfl
    have hD := hD.sub (ws' := (wlw x a1 a2 a3 a4 a5 a6 a7 y b1 b2 b3 b4 b5 b6 b7 b8 b9 b10 q cI cJ cZ nD nR dv r cap ti va ev ed ec ad ac now 1 vs mac now o mt mw zs.length nv dl ec rt rv mk ou)) [0, 1, 2, 3, 4, 5, 6, 7, 9, 10, 11, 12, 13, 14, 15, 16, 17, 18, 19, 8] (by decide) rfl
    refine lv_istore (lv' := [(6, .int v_2), (5, .int (nI 1)), (0, .ref b), (1, .ref x), (2, .ref y), (3, .ref q), (4, .int (nI i))]) hx hb dL_law_428 hl (by decide) rfl (fun ls hl => ?_)
    refine lv_aload_n hx hb dL_law_430 rfl (lv_at hl 4 rfl) ?_
    have hPc := hP.sub (ws' := (wm y b1 b2 b3 b4 b5 b6 b7 b8 b9 b10 cI cJ cZ 1 nD nR vs mac now o mt mw zs.length nv dl ec rt rv mk)) [8, 9, 10, 11, 12, 13, 14, 15, 16, 17, 18] rfl
    refine vp_callSi (W.runV (As := []) (rest := []) ⟨hx, hb, hml, hown, hall⟩ (m_thrown l dC dI y b1 b2 b3 b4 b5 b6 b7 b8 b9 b10 cI cJ cZ 1 nD nR vs mac now o mt mw nv dl ec rt rv mk zs) (cwV 0 hall gL_65 rfl rfl rfl (by decide +kernel) ⟨Nat.le_of_ble_eq_true rfl, Nat.le_of_ble_eq_true rfl⟩) ⟨xr_blind, va_recv hK hPc (ci := 1) (q0 := 0) rfl rfl, fun U hU hW => ⟨rfl, by rw [hU]; exact hPc, va_K.moved hW.alike hK⟩⟩ rfl rfl hl.1 rfl (lv_room (Nat.le_of_ble_eq_true rfl)) dL_law_431 ⟨by show _ ≤ 601024; omega, by show _ ≤ 7293000; omega⟩) (fun v_3 hv_4 => ?_)
    obtain rfl : v_3 = nI 1 := hv_4
    refine lv_iload hx hb dL_law_434 (lv_at hl 1 rfl) ?_
    refine lv_icmp_eq (tgt := 441) hx hb dL_law_436 (by decide) (fun c_5 => ?_) (fun c_5 => ?_)
    · refine lv_iload hx hb dL_law_441 (lv_at hl 1 rfl) ?_
      refine lv_if_ne (tgt := 458) hx hb dL_law_443 (by decide) (fun c_6 => ?_) (fun c_6 => ?_)
      · refine lv_goto (tgt := 920) hx hb dL_law_458 (by decide) ?_
        refine W.widen (k := 20 + 2 * i + 2) (n := 70000 + 6 * i + 6 + G) (by omega) (by omega) ?_
        exact KK a3 a4 dv r cap ti va ev ed ec ad ac now 1 vs mac o mt mw zs nv dl rt rv mk ou G H locs hR hZ hG hP hD hS ls (lv_sub hl [2, 3, 4, 5, 6] rfl)
      · exact absurd c_6 (by decide)
    · exact absurd rfl c_5
  obtain ⟨d, hd, rfl⟩ : ∃ d : Nat, d < nD ∧ d0 = nI d := xw_d (by omega) c1
  refine lv_aload_n hx hb dL_law_361 rfl (lv_at hl 1 rfl) ?_
  refine lv_aload_n hx hb dL_law_362 rfl (lv_at hl 0 rfl) ?_
  refine lv_iload hx hb dL_law_363 (lv_at hl 4 rfl) ?_
  refine lv_iconst (v := 1) hx hb dL_law_365 (by decide) ?_
  refine lv_iadd hx hb dL_law_366 ?_
  refine tp_i (y := nI (i + 1)) (nI_add i 1) ?_
  refine va_sld hx hb hX hbl hbA hS (vp_in_nI (show i + 1 < L by omega) (by omega)) dL_law_367 ?_
  refine tp_i (y := nI d) (by rw [nI_clamp (by omega)]; exact E_d0.symm) ?_
  refine lv_aload_n hx hb dL_law_368 rfl (lv_at hl 0 rfl) ?_
  refine lv_iload hx hb dL_law_369 (lv_at hl 4 rfl) ?_
  refine lv_iconst (v := 2) hx hb dL_law_371 (by decide) ?_
  refine lv_iadd hx hb dL_law_372 ?_
  refine tp_i (y := nI (i + 2)) (nI_add i 2) ?_
  refine va_sld hx hb hX hbl hbA hS (vp_in_nI (show i + 2 < L by omega) (by omega)) dL_law_373 ?_
  refine tp_i (y := xs (i + 2)) (by rw [nI_clamp (by omega)]) ?_
  refine lv_i2l hx hb dL_law_374 rfl ?_
  refine lv_bipush (v := 32) hx hb dL_law_375 (by decide) ?_
  refine lv_lshl hx hb dL_law_377 rfl ?_
  refine lv_aload_n hx hb dL_law_378 rfl (lv_at hl 0 rfl) ?_
  refine lv_iload hx hb dL_law_379 (lv_at hl 4 rfl) ?_
  refine lv_iconst (v := 3) hx hb dL_law_381 (by decide) ?_
  refine lv_iadd hx hb dL_law_382 ?_
  refine tp_i (y := nI (i + 3)) (nI_add i 3) ?_
  refine va_sld hx hb hX hbl hbA hS (vp_in_nI (show i + 3 < L by omega) (by omega)) dL_law_383 ?_
  refine tp_i (y := xs (i + 3)) (by rw [nI_clamp (by omega)]) ?_
  refine lv_i2l hx hb dL_law_384 rfl ?_
  refine lv_ldc2 (v := 4294967295) hx hb hown (hall _ kw_447) dL_law_385 ?_
  refine lv_land hx hb dL_law_388 ?_
  refine lv_lor hx hb dL_law_389 ?_
  refine tp_l (y := t) E_t.symm ?_
  refine lv_aload_n hx hb dL_law_390 rfl (lv_at hl 3 rfl) ?_
  have hPc := hP.sub (ws' := (wr x a1 a2 a3 a4 a5 a6 a7 cI cJ nD nR dv r cap ti va ev ed ec ad ac now) ++ [(q, .inl (cJ, 1, .inr (.inl ou)))]) [0, 1, 2, 3, 4, 5, 6, 7, 19] rfl
  have hDc := hD.sub (ws' := (wr x a1 a2 a3 a4 a5 a6 a7 cI cJ nD nR dv r cap ti va ev ed ec ad ac now) ++ [(q, .inl (cJ, 1, .inr (.inl ou)))]) [0, 1, 2, 3, 4, 5, 6, 7, 19] (by decide) rfl
  have hKc := hK.sub (tys' := [(cI, .int), (cJ, .long)]) [0, 1] rfl
  have hFc := va_free (wc := (wr x a1 a2 a3 a4 a5 a6 a7 cI cJ nD nR dv r cap ti va ev ed ec ad ac now) ++ [(q, .inl (cJ, 1, .inr (.inl ou)))]) hD hS hA [0, 1, 2, 3, 4, 5, 6, 7, 19] rfl
  refine va_calli (xt_runSW (n := 4) (As := [.ref x, .int (nI d), .long t, .ref q]) (rest := []) ⟨hx, hb, hml, hown, hall⟩ (h_start0 l dC dI x a1 a2 a3 a4 a5 a6 a7 cI cJ nD nR dv r cap ti va ev ed ec ad ac now q ou H.size hI d t hd) gL_77 rfl rfl rfl (by decide +kernel) ⟨Nat.le_of_ble_eq_true rfl, Nat.le_of_ble_eq_true rfl⟩ ⟨xu_blind, fun U hU hW => ⟨rfl, by rw [hU], by rw [hU]; exact hPc, va_K.moved hW.alike hKc, hDc.weaken (fun _ _ _ _ => trivial)⟩⟩ rfl rfl hl.1 rfl (lv_room (Nat.le_of_ble_eq_true rfl)) dL_law_391 ⟨by show _ ≤ 601024; omega, by show _ ≤ 7293000; omega⟩) hS (fun q _ h => hFc q h) hFc (fun v_1 u t9 H1 locs ht hvm hw hB hz1 hk1 hS => ?_)
  obtain ⟨hP1, hK1, hD1⟩ := hB
  rw [ht] at hP1
  obtain ⟨hP, hD⟩ := va_join (wr := (wm y b1 b2 b3 b4 b5 b6 b7 b8 b9 b10 cI cJ cZ th nD nR vs mac now o mt mw zs.length nv dl ec rt rv mk)) (w1 := (wr x a1 a2 a3 a4 a5 a6 a7 cI cJ nD nR (vp_updL dv d t) (wf_sh r d (r d) (r (d + 1)) (nD + 1)) cap (va_cpy ti ti (r (d + 1)) (r d) (r nD - r (d + 1))) (va_cpy va va (r (d + 1)) (r d) (r nD - r (d + 1))) ev ed ec ad ac now) ++ [(q, .inl (cJ, 1, .inr (.inl (vp_updL ou 0 ((nI (r (d + 1) - r d)).toInt64)))))]) hP hD [0, 1, 2, 3, 4, 5, 6, 7, 19] [8, 9, 10, 11, 12, 13, 14, 15, 16, 17, 18] rfl rfl (by decide) (by decide) hk1 hFc hP1 hD1
  generalize H1 = H at hP hS ⊢
  have hP := hP.sub (ws' := (wlw x a1 a2 a3 a4 a5 a6 a7 y b1 b2 b3 b4 b5 b6 b7 b8 b9 b10 q cI cJ cZ nD nR (vp_updL dv d t) (wf_sh r d (r d) (r (d + 1)) (nD + 1)) cap (va_cpy ti ti (r (d + 1)) (r d) (r nD - r (d + 1))) (va_cpy va va (r (d + 1)) (r d) (r nD - r (d + 1))) ev ed ec ad ac now th vs mac now o mt mw zs.length nv dl ec rt rv mk (vp_updL ou 0 ((nI (r (d + 1) - r d)).toInt64)))) [11, 12, 13, 14, 15, 16, 17, 18, 0, 1, 2, 3, 4, 5, 6, 7, 8, 9, 10, 19] rfl
  have hD := hD.sub (ws' := (wlw x a1 a2 a3 a4 a5 a6 a7 y b1 b2 b3 b4 b5 b6 b7 b8 b9 b10 q cI cJ cZ nD nR (vp_updL dv d t) (wf_sh r d (r d) (r (d + 1)) (nD + 1)) cap (va_cpy ti ti (r (d + 1)) (r d) (r nD - r (d + 1))) (va_cpy va va (r (d + 1)) (r d) (r nD - r (d + 1))) ev ed ec ad ac now th vs mac now o mt mw zs.length nv dl ec rt rv mk (vp_updL ou 0 ((nI (r (d + 1) - r d)).toInt64)))) [11, 12, 13, 14, 15, 16, 17, 18, 0, 1, 2, 3, 4, 5, 6, 7, 8, 9, 10, 19] (by decide) rfl
  obtain rfl : v_1 = 0 := hw
  refine tp_i (y := nI 0) nI_0.symm ?_
  refine lv_istore (lv' := [(5, .int (nI 0)), (0, .ref b), (1, .ref x), (2, .ref y), (3, .ref q), (4, .int (nI i))]) hx hb dL_law_394 hl (by decide) rfl (fun ls hl => ?_)
  refine lv_aload_n hx hb dL_law_396 rfl (lv_at hl 3 rfl) ?_
  refine lv_aload_n hx hb dL_law_397 rfl (lv_at hl 1 rfl) ?_
  refine lv_iload hx hb dL_law_398 (lv_at hl 5 rfl) ?_
  refine lv_iconst (v := 1) hx hb dL_law_400 (by decide) ?_
  refine lv_iadd hx hb dL_law_401 ?_
  refine tp_i (y := nI (i + 1)) (nI_add i 1) ?_
  refine va_sld hx hb hX hbl hbA hS (vp_in_nI (show i + 1 < L by omega) (by omega)) dL_law_402 ?_
  refine tp_i (y := nI d) (by rw [nI_clamp (by omega)]; exact E_d0.symm) ?_
  refine lv_aload_n hx hb dL_law_403 rfl (lv_at hl 1 rfl) ?_
  refine lv_iload hx hb dL_law_404 (lv_at hl 5 rfl) ?_
  refine lv_iconst (v := 2) hx hb dL_law_406 (by decide) ?_
  refine lv_iadd hx hb dL_law_407 ?_
  refine tp_i (y := nI (i + 2)) (nI_add i 2) ?_
  refine va_sld hx hb hX hbl hbA hS (vp_in_nI (show i + 2 < L by omega) (by omega)) dL_law_408 ?_
  refine tp_i (y := xs (i + 2)) (by rw [nI_clamp (by omega)]) ?_
  refine lv_i2l hx hb dL_law_409 rfl ?_
  refine lv_bipush (v := 32) hx hb dL_law_410 (by decide) ?_
  refine lv_lshl hx hb dL_law_412 rfl ?_
  refine lv_aload_n hx hb dL_law_413 rfl (lv_at hl 1 rfl) ?_
  refine lv_iload hx hb dL_law_414 (lv_at hl 5 rfl) ?_
  refine lv_iconst (v := 3) hx hb dL_law_416 (by decide) ?_
  refine lv_iadd hx hb dL_law_417 ?_
  refine tp_i (y := nI (i + 3)) (nI_add i 3) ?_
  refine va_sld hx hb hX hbl hbA hS (vp_in_nI (show i + 3 < L by omega) (by omega)) dL_law_418 ?_
  refine tp_i (y := xs (i + 3)) (by rw [nI_clamp (by omega)]) ?_
  refine lv_i2l hx hb dL_law_419 rfl ?_
  refine lv_ldc2 (v := 4294967295) hx hb hown (hall _ kw_447) dL_law_420 ?_
  refine lv_land hx hb dL_law_423 ?_
  refine lv_lor hx hb dL_law_424 ?_
  refine tp_l (y := t) E_t.symm ?_
  have hPc := hP.sub (ws' := (wm y b1 b2 b3 b4 b5 b6 b7 b8 b9 b10 cI cJ cZ th nD nR vs mac now o mt mw zs.length nv dl ec rt rv mk)) [8, 9, 10, 11, 12, 13, 14, 15, 16, 17, 18] rfl
  have hDc := hD.sub (ws' := (wm y b1 b2 b3 b4 b5 b6 b7 b8 b9 b10 cI cJ cZ th nD nR vs mac now o mt mw zs.length nv dl ec rt rv mk)) [8, 9, 10, 11, 12, 13, 14, 15, 16, 17, 18] (by decide) rfl
  have hFc := va_free (wc := (wm y b1 b2 b3 b4 b5 b6 b7 b8 b9 b10 cI cJ cZ th nD nR vs mac now o mt mw zs.length nv dl ec rt rv mk)) hD hS hA [8, 9, 10, 11, 12, 13, 14, 15, 16, 17, 18] rfl
  refine va_calli (va_runV (As := [.int (nI d), .long t]) (rest := []) ⟨hx, hb, hml, hown, hall⟩ (m_start0 l dC dI y b1 b2 b3 b4 b5 b6 b7 b8 b9 b10 cI cJ cZ th nD nR vs mac now o mt mw nv dl ec rt rv mk zs H.size hIm hZ d hd t) (cwV 2 hall gL_80 rfl rfl rfl (by decide +kernel) ⟨Nat.le_of_ble_eq_true rfl, Nat.le_of_ble_eq_true rfl⟩) ⟨xu_blind, va_recv hK hPc (ci := 1) (q0 := 0) rfl rfl, fun U hU hW => ⟨rfl, by rw [hU], by rw [hU]; exact hPc, va_K.moved hW.alike hK, hDc.weaken (fun _ _ _ _ => trivial)⟩⟩ rfl rfl hl.1 rfl (lv_room (Nat.le_of_ble_eq_true rfl)) dL_law_425 ⟨by show _ ≤ 601024; omega, by show _ ≤ 7293000; omega⟩) hS (fun q _ h => hFc q h) hFc (fun v_2 u9 t9 H1 locs ht hvm hw hB hz1 hk1 hS => ?_)
  obtain ⟨o9, t8, w9, hZ9, hP1, hK1, hD1⟩ := hB
  rw [ht] at hP1
  obtain ⟨hP, hD⟩ := va_join (wr := (wr x a1 a2 a3 a4 a5 a6 a7 cI cJ nD nR (vp_updL dv d t) (wf_sh r d (r d) (r (d + 1)) (nD + 1)) cap (va_cpy ti ti (r (d + 1)) (r d) (r nD - r (d + 1))) (va_cpy va va (r (d + 1)) (r d) (r nD - r (d + 1))) ev ed ec ad ac now) ++ [(q, .inl (cJ, 1, .inr (.inl (vp_updL ou 0 ((nI (r (d + 1) - r d)).toInt64)))))]) (w1 := (wm y b1 b2 b3 b4 b5 b6 b7 b8 b9 b10 cI cJ cZ 0 nD nR (vp_updL vs d t) mac now o9 t8 w9 ((wot d zs).length) nv dl ec rt rv mk)) hP hD [8, 9, 10, 11, 12, 13, 14, 15, 16, 17, 18] [0, 1, 2, 3, 4, 5, 6, 7, 19] rfl rfl (by decide) (by decide) hk1 hFc hP1 hD1
  generalize H1 = H at hP hS ⊢
  have hP := hP.sub (ws' := (wlw x a1 a2 a3 a4 a5 a6 a7 y b1 b2 b3 b4 b5 b6 b7 b8 b9 b10 q cI cJ cZ nD nR (vp_updL dv d t) (wf_sh r d (r d) (r (d + 1)) (nD + 1)) cap (va_cpy ti ti (r (d + 1)) (r d) (r nD - r (d + 1))) (va_cpy va va (r (d + 1)) (r d) (r nD - r (d + 1))) ev ed ec ad ac now 0 (vp_updL vs d t) mac now o9 t8 w9 ((wot d zs).length) nv dl ec rt rv mk (vp_updL ou 0 ((nI (r (d + 1) - r d)).toInt64)))) [0, 1, 2, 3, 4, 5, 6, 7, 9, 10, 11, 12, 13, 14, 15, 16, 17, 18, 19, 8] rfl
  have hD := hD.sub (ws' := (wlw x a1 a2 a3 a4 a5 a6 a7 y b1 b2 b3 b4 b5 b6 b7 b8 b9 b10 q cI cJ cZ nD nR (vp_updL dv d t) (wf_sh r d (r d) (r (d + 1)) (nD + 1)) cap (va_cpy ti ti (r (d + 1)) (r d) (r nD - r (d + 1))) (va_cpy va va (r (d + 1)) (r d) (r nD - r (d + 1))) ev ed ec ad ac now 0 (vp_updL vs d t) mac now o9 t8 w9 ((wot d zs).length) nv dl ec rt rv mk (vp_updL ou 0 ((nI (r (d + 1) - r d)).toInt64)))) [0, 1, 2, 3, 4, 5, 6, 7, 9, 10, 11, 12, 13, 14, 15, 16, 17, 18, 19, 8] (by decide) rfl
  refine tp_i (y := nI (r (d + 1) - r d)) (hw.trans (by rw [wrel_startn hR hd])) ?_
  refine lv_istore (lv' := [(6, .int (nI (r (d + 1) - r d))), (5, .int (nI 0)), (0, .ref b), (1, .ref x), (2, .ref y), (3, .ref q), (4, .int (nI i))]) hx hb dL_law_428 hl (by decide) rfl (fun ls hl => ?_)
  refine lv_aload_n hx hb dL_law_430 rfl (lv_at hl 4 rfl) ?_
  have hPc := hP.sub (ws' := (wm y b1 b2 b3 b4 b5 b6 b7 b8 b9 b10 cI cJ cZ 0 nD nR (vp_updL vs d t) mac now o9 t8 w9 ((wot d zs).length) nv dl ec rt rv mk)) [8, 9, 10, 11, 12, 13, 14, 15, 16, 17, 18] rfl
  refine vp_callSi (W.runV (As := []) (rest := []) ⟨hx, hb, hml, hown, hall⟩ (m_thrown l dC dI y b1 b2 b3 b4 b5 b6 b7 b8 b9 b10 cI cJ cZ 0 nD nR (vp_updL vs d t) mac now o9 t8 w9 nv dl ec rt rv mk (wot d zs)) (cwV 0 hall gL_65 rfl rfl rfl (by decide +kernel) ⟨Nat.le_of_ble_eq_true rfl, Nat.le_of_ble_eq_true rfl⟩) ⟨xr_blind, va_recv hK hPc (ci := 1) (q0 := 0) rfl rfl, fun U hU hW => ⟨rfl, by rw [hU]; exact hPc, va_K.moved hW.alike hK⟩⟩ rfl rfl hl.1 rfl (lv_room (Nat.le_of_ble_eq_true rfl)) dL_law_431 ⟨by show _ ≤ 601024; omega, by show _ ≤ 7293000; omega⟩) (fun v_3 hv_4 => ?_)
  obtain rfl : v_3 = nI 0 := hv_4
  refine lv_iload hx hb dL_law_434 (lv_at hl 1 rfl) ?_
  refine lv_icmp_eq (tgt := 441) hx hb dL_law_436 (by decide) (fun c_5 => ?_) (fun c_5 => ?_)
  · refine lv_iload hx hb dL_law_441 (lv_at hl 1 rfl) ?_
    refine lv_if_ne (tgt := 458) hx hb dL_law_443 (by decide) (fun c_6 => ?_) (fun c_6 => ?_)
    · exact absurd nI_0 c_6
    · refine lv_aload_n hx hb dL_law_446 rfl (lv_at hl 5 rfl) ?_
      refine lv_iconst (v := 0) hx hb dL_law_447 (by decide) ?_
      refine tp_i (y := nI 0) nI_0.symm ?_
      refine xa_lald hx hb hK hP 19 1 rfl rfl (Nat.lt_succ_self 0) (by omega) dL_law_448 ?_
      refine tp_l (y := (nI (r (d + 1) - r d)).toInt64) pk_uLs ?_
      refine lv_iload hx hb dL_law_449 (lv_at hl 0 rfl) ?_
      refine lv_i2l hx hb dL_law_451 rfl ?_
      refine xl_eq (tgt := 458) hx hb dL_law_452 dL_law_453 (by decide) (fun c_7 => ?_) (fun c_7 => ?_)
      · refine lv_goto (tgt := 920) hx hb dL_law_458 (by decide) ?_
        refine W.widen (k := 20 + 2 * i + 2) (n := 70000 + 6 * i + 6 + G) (by omega) (by omega) ?_
        exact KK a3 a4 (vp_updL dv d t) (wf_sh r d (r d) (r (d + 1)) (nD + 1)) cap (va_cpy ti ti (r (d + 1)) (r d) (r nD - r (d + 1))) (va_cpy va va (r (d + 1)) (r d) (r nD - r (d + 1))) ev ed ec ad ac now 0 (vp_updL vs d t) mac o9 t8 w9 (wot d zs) nv dl rt rv mk (vp_updL ou 0 ((nI (r (d + 1) - r d)).toInt64)) G H locs (wrel_start hR hd t) hZ9 hG hP hD hS ls (lv_sub hl [2, 3, 4, 5, 6] rfl)
      · exact absurd rfl c_7
  · exact absurd rfl c_5
set_option maxHeartbeats 8000000 in
set_option maxRecDepth 100000 in
theorem l_advance {p : Program} {l : Launch} {e : Env} {s : State} {m : MethodId} {below : List Frame} {meth : Method} {c : Code} {dC : Nat → ClassId} {dI : Nat → Nat → Nat} {b L : Nat} {xs : Nat → Int32} (hst : l.stackTraces = false) (hL : L ≤ 2562) (C0 : lw_At p s m meth c b L xs) (hok : xt_ok s) (hnk : xt_nk s) {x a1 a2 a5 a6 a7 y b1 b2 b3 b4 b5 b6 b7 b8 b9 b10 q : Nat} {cI cJ cZ : ClassId} {nD nR : Nat} (hK : va_K (dC, dI) vwCl [(cI, .int), (cJ, .long), (cZ, .boolean)] s) (i : Nat) (hi : i + 5 ≤ L) (KK : lwK p l e s m below meth c dC dI b x a1 a2 a5 a6 a7 y b1 b2 b3 b4 b5 b6 b7 b8 b9 b10 q cI cJ cZ nD nR i) (a3 a4 : Nat) (dv : Nat → Int64) (r : Nat → Nat) (cap : Nat) (ti va ev ed : Nat → Int64) (ec : Nat) (ad : Nat → Int32) (ac : Nat) (now : Int64) (th : Nat) (vs : Nat → Int64) (mac : Nat → Bool) (o : Nat → Nat) (mt mw : Nat → Int64) (zs : List ZT) (nv dl : Nat → Int64) (rt rv : Nat → Int64) (mk : Nat → Bool) (ou : Nat → Int64) (G : Nat) (H : Heap) (locs : List Loc) (hR : wrel nD nR cap ec ac dv r ti va ev ed ad now vs mac zs nv dl) (hZ : wz zs o mt mw) (hG : G ≤ 4 * cap ∨ cap = nR ∧ G ≤ 6 * nR) (hP : va_P (dC, dI) vwCl (wlw x a1 a2 a3 a4 a5 a6 a7 y b1 b2 b3 b4 b5 b6 b7 b8 b9 b10 q cI cJ cZ nD nR dv r cap ti va ev ed ec ad ac now th vs mac now o mt mw zs.length nv dl ec rt rv mk ou) H) (hD : va_D (fun z : Nat => s.heap.size ≤ z) (wlw x a1 a2 a3 a4 a5 a6 a7 y b1 b2 b3 b4 b5 b6 b7 b8 b9 b10 q cI cJ cZ nD nR dv r cap ti va ev ed ec ad ac now th vs mac now o mt mw zs.length nv dl ec rt rv mk ou)) (hS : va_S (fun z : Nat => s.heap.size ≤ z) s.heap H locs) (ls : Array Slot) (hl : lv_has ls 8 [(0, .ref b), (1, .ref x), (2, .ref y), (3, .ref q), (4, .int (nI i))]) : W p l e room_1 s m #[Value.ref b] below meth c H locs (20 + 2 * i) (70000 + 6 * i + G) (lw_Z below #[Value.ref b] s) (F0 m 461 ls []) := by
  obtain ⟨hx, hb, hr, hml, hown, hts, hX, hbl, hlocks, hgv⟩ := C0
  have hA : ∀ z : Nat, s.heap.size ≤ z → (fun z : Nat => s.heap.size ≤ z) z := fun _ h => h
  have hbA : ¬ (fun z : Nat => s.heap.size ≤ z) b := Nat.not_le.mpr hbl
  have hall : ∀ w ∈ allw, w.before #[Value.ref b] s = true := fun w h => hts w (List.mem_filter.mp h).1
  have hown : s.vm.findClass RL = some m.cls := hown
  have hI := hR.1
  have hIm := wrel_I hR
  obtain ⟨hnD1, hnD, hnR1, hnR, hcap, hrc, hrR, hr0, hmo, hec, hac⟩ := id hR.1
  have hG6 : G ≤ 49152 := by omega
  obtain ⟨t, E_t⟩ : ∃ z : Int64, z = (xs (i + 1)).toInt64 <<< ((32 : Int32).toInt64 &&& 63) ||| (xs (i + 2)).toInt64 &&& 4294967295 := ⟨_, rfl⟩
  by_cases c1 : t < now ∨ 1152921504606846976 < t
  · refine lv_aload_n hx hb dL_law_461 rfl (lv_at hl 1 rfl) ?_
    refine lv_aload_n hx hb dL_law_462 rfl (lv_at hl 0 rfl) ?_
    refine lv_iload hx hb dL_law_463 (lv_at hl 4 rfl) ?_
    refine lv_iconst (v := 1) hx hb dL_law_465 (by decide) ?_
    refine lv_iadd hx hb dL_law_466 ?_
    refine tp_i (y := nI (i + 1)) (nI_add i 1) ?_
    refine va_sld hx hb hX hbl hbA hS (vp_in_nI (show i + 1 < L by omega) (by omega)) dL_law_467 ?_
    refine tp_i (y := xs (i + 1)) (by rw [nI_clamp (by omega)]) ?_
    refine lv_i2l hx hb dL_law_468 rfl ?_
    refine lv_bipush (v := 32) hx hb dL_law_469 (by decide) ?_
    refine lv_lshl hx hb dL_law_471 rfl ?_
    refine lv_aload_n hx hb dL_law_472 rfl (lv_at hl 0 rfl) ?_
    refine lv_iload hx hb dL_law_473 (lv_at hl 4 rfl) ?_
    refine lv_iconst (v := 2) hx hb dL_law_475 (by decide) ?_
    refine lv_iadd hx hb dL_law_476 ?_
    refine tp_i (y := nI (i + 2)) (nI_add i 2) ?_
    refine va_sld hx hb hX hbl hbA hS (vp_in_nI (show i + 2 < L by omega) (by omega)) dL_law_477 ?_
    refine tp_i (y := xs (i + 2)) (by rw [nI_clamp (by omega)]) ?_
    refine lv_i2l hx hb dL_law_478 rfl ?_
    refine lv_ldc2 (v := 4294967295) hx hb hown (hall _ kw_447) dL_law_479 ?_
    refine lv_land hx hb dL_law_482 ?_
    refine lv_lor hx hb dL_law_483 ?_
    refine tp_l (y := t) E_t.symm ?_
    refine lv_aload_n hx hb dL_law_484 rfl (lv_at hl 3 rfl) ?_
    have hPc := hP.sub (ws' := (wr x a1 a2 a3 a4 a5 a6 a7 cI cJ nD nR dv r cap ti va ev ed ec ad ac now)) [0, 1, 2, 3, 4, 5, 6, 7] rfl
    have hDc := hD.sub (ws' := (wr x a1 a2 a3 a4 a5 a6 a7 cI cJ nD nR dv r cap ti va ev ed ec ad ac now)) [0, 1, 2, 3, 4, 5, 6, 7] (by decide) rfl
    have hKc := hK.sub (tys' := [(cI, .int), (cJ, .long)]) [0, 1] rfl
    have hFc := va_free (wc := (wr x a1 a2 a3 a4 a5 a6 a7 cI cJ nD nR dv r cap ti va ev ed ec ad ac now)) hD hS hA [0, 1, 2, 3, 4, 5, 6, 7] rfl
    refine va_calli (xt_runSW (n := 3) (As := [.ref x, .long t, .ref q]) (rest := []) ⟨hx, hb, hml, hown, hall⟩ (h_advance1 l dC dI x a1 a2 a3 a4 a5 a6 a7 cI cJ nD nR dv r cap ti va ev ed ec ad ac now hst q H.size t c1) gL_81 rfl rfl rfl (by decide +kernel) ⟨Nat.le_of_ble_eq_true rfl, Nat.le_of_ble_eq_true rfl⟩ ⟨xh_blind, fun U hU hW => ⟨rfl, by rw [hU], by rw [hU]; exact hPc, va_K.moved hW.alike hKc, hDc.weaken (fun _ _ _ _ => trivial), xt_move hW (fun z hz => by rw [hU]; exact hS.2.1 z hz (Nat.not_le.mpr hz)) hok, xt_nk_move hW.alike hnk⟩⟩ rfl rfl hl.1 rfl (lv_room (Nat.le_of_ble_eq_true rfl)) dL_law_485 ⟨by show _ ≤ 601024; omega, by show _ ≤ 7293000; omega⟩) hS (fun q _ h => hFc q h) hFc (fun v_1 u t9 H1 locs ht hvm hw hB hz1 hk1 hS => ?_)
    obtain ⟨hP1, hK1, hD1⟩ := hB
    rw [ht] at hP1
    obtain ⟨hP, hD⟩ := va_join (wr := (wm y b1 b2 b3 b4 b5 b6 b7 b8 b9 b10 cI cJ cZ th nD nR vs mac now o mt mw zs.length nv dl ec rt rv mk) ++ [(q, .inl (cJ, 1, .inr (.inl ou)))]) (w1 := (wr x a1 a2 a3 a4 a5 a6 a7 cI cJ nD nR dv r cap ti va ev ed ec ad ac now)) hP hD [0, 1, 2, 3, 4, 5, 6, 7] [8, 9, 10, 11, 12, 13, 14, 15, 16, 17, 18, 19] rfl rfl (by decide) (by decide) hk1 hFc hP1 hD1
    generalize H1 = H at hP hS ⊢
    have hP := hP.sub (ws' := (wlw x a1 a2 a3 a4 a5 a6 a7 y b1 b2 b3 b4 b5 b6 b7 b8 b9 b10 q cI cJ cZ nD nR dv r cap ti va ev ed ec ad ac now th vs mac now o mt mw zs.length nv dl ec rt rv mk ou)) [12, 13, 14, 15, 16, 17, 18, 19, 0, 1, 2, 3, 4, 5, 6, 7, 8, 9, 10, 11] rfl
    have hD := hD.sub (ws' := (wlw x a1 a2 a3 a4 a5 a6 a7 y b1 b2 b3 b4 b5 b6 b7 b8 b9 b10 q cI cJ cZ nD nR dv r cap ti va ev ed ec ad ac now th vs mac now o mt mw zs.length nv dl ec rt rv mk ou)) [12, 13, 14, 15, 16, 17, 18, 19, 0, 1, 2, 3, 4, 5, 6, 7, 8, 9, 10, 11] (by decide) rfl
    obtain rfl : v_1 = nI 1 := hw
    refine lv_istore (lv' := [(5, .int (nI 1)), (0, .ref b), (1, .ref x), (2, .ref y), (3, .ref q), (4, .int (nI i))]) hx hb dL_law_488 hl (by decide) rfl (fun ls hl => ?_)
    refine lv_aload_n hx hb dL_law_490 rfl (lv_at hl 3 rfl) ?_
    refine lv_aload_n hx hb dL_law_491 rfl (lv_at hl 1 rfl) ?_
    refine lv_iload hx hb dL_law_492 (lv_at hl 5 rfl) ?_
    refine lv_iconst (v := 1) hx hb dL_law_494 (by decide) ?_
    refine lv_iadd hx hb dL_law_495 ?_
    refine tp_i (y := nI (i + 1)) (nI_add i 1) ?_
    refine va_sld hx hb hX hbl hbA hS (vp_in_nI (show i + 1 < L by omega) (by omega)) dL_law_496 ?_
    refine tp_i (y := xs (i + 1)) (by rw [nI_clamp (by omega)]) ?_
    refine lv_i2l hx hb dL_law_497 rfl ?_
    refine lv_bipush (v := 32) hx hb dL_law_498 (by decide) ?_
    refine lv_lshl hx hb dL_law_500 rfl ?_
    refine lv_aload_n hx hb dL_law_501 rfl (lv_at hl 1 rfl) ?_
    refine lv_iload hx hb dL_law_502 (lv_at hl 5 rfl) ?_
    refine lv_iconst (v := 2) hx hb dL_law_504 (by decide) ?_
    refine lv_iadd hx hb dL_law_505 ?_
    refine tp_i (y := nI (i + 2)) (nI_add i 2) ?_
    refine va_sld hx hb hX hbl hbA hS (vp_in_nI (show i + 2 < L by omega) (by omega)) dL_law_506 ?_
    refine tp_i (y := xs (i + 2)) (by rw [nI_clamp (by omega)]) ?_
    refine lv_i2l hx hb dL_law_507 rfl ?_
    refine lv_ldc2 (v := 4294967295) hx hb hown (hall _ kw_447) dL_law_508 ?_
    refine lv_land hx hb dL_law_511 ?_
    refine lv_lor hx hb dL_law_512 ?_
    refine tp_l (y := t) E_t.symm ?_
    have hPc := hP.sub (ws' := (wm y b1 b2 b3 b4 b5 b6 b7 b8 b9 b10 cI cJ cZ th nD nR vs mac now o mt mw zs.length nv dl ec rt rv mk)) [8, 9, 10, 11, 12, 13, 14, 15, 16, 17, 18] rfl
    have hDc := hD.sub (ws' := (wm y b1 b2 b3 b4 b5 b6 b7 b8 b9 b10 cI cJ cZ th nD nR vs mac now o mt mw zs.length nv dl ec rt rv mk)) [8, 9, 10, 11, 12, 13, 14, 15, 16, 17, 18] (by decide) rfl
    have hFc := va_free (wc := (wm y b1 b2 b3 b4 b5 b6 b7 b8 b9 b10 cI cJ cZ th nD nR vs mac now o mt mw zs.length nv dl ec rt rv mk)) hD hS hA [8, 9, 10, 11, 12, 13, 14, 15, 16, 17, 18] rfl
    refine va_calli (va_runV (As := [.long t]) (rest := []) ⟨hx, hb, hml, hown, hall⟩ (m_advance1 l dC dI y b1 b2 b3 b4 b5 b6 b7 b8 b9 b10 cI cJ cZ th nD nR vs mac now o mt mw nv dl ec rt rv mk zs H.size t c1) (cwV 1 hall gL_84 rfl rfl rfl (by decide +kernel) ⟨Nat.le_of_ble_eq_true rfl, Nat.le_of_ble_eq_true rfl⟩) ⟨xu_blind, va_recv hK hPc (ci := 1) (q0 := 0) rfl rfl, fun U hU hW => ⟨rfl, by rw [hU], by rw [hU]; exact hPc, va_K.moved hW.alike hK, hDc.weaken (fun _ _ _ _ => trivial)⟩⟩ rfl rfl hl.1 rfl (lv_room (Nat.le_of_ble_eq_true rfl)) dL_law_513 ⟨by show _ ≤ 601024; omega, by show _ ≤ 7293000; omega⟩) hS (fun q _ h => hFc q h) hFc (fun v_2 u9 t9 H1 locs ht hvm hw hB hz1 hk1 hS => ?_)
    obtain ⟨hP1, hK1, hD1⟩ := hB
    rw [ht] at hP1
    obtain ⟨hP, hD⟩ := va_join (wr := (wr x a1 a2 a3 a4 a5 a6 a7 cI cJ nD nR dv r cap ti va ev ed ec ad ac now) ++ [(q, .inl (cJ, 1, .inr (.inl ou)))]) (w1 := (wm y b1 b2 b3 b4 b5 b6 b7 b8 b9 b10 cI cJ cZ 1 nD nR vs mac now o mt mw zs.length nv dl ec rt rv mk)) hP hD [8, 9, 10, 11, 12, 13, 14, 15, 16, 17, 18] [0, 1, 2, 3, 4, 5, 6, 7, 19] rfl rfl (by decide) (by decide) hk1 hFc hP1 hD1
    generalize H1 = H at hP hS ⊢
    have hP := hP.sub (ws' := (wlw x a1 a2 a3 a4 a5 a6 a7 y b1 b2 b3 b4 b5 b6 b7 b8 b9 b10 q cI cJ cZ nD nR dv r cap ti va ev ed ec ad ac now 1 vs mac now o mt mw zs.length nv dl ec rt rv mk ou)) [0, 1, 2, 3, 4, 5, 6, 7, 9, 10, 11, 12, 13, 14, 15, 16, 17, 18, 19, 8] rfl
    have hD := hD.sub (ws' := (wlw x a1 a2 a3 a4 a5 a6 a7 y b1 b2 b3 b4 b5 b6 b7 b8 b9 b10 q cI cJ cZ nD nR dv r cap ti va ev ed ec ad ac now 1 vs mac now o mt mw zs.length nv dl ec rt rv mk ou)) [0, 1, 2, 3, 4, 5, 6, 7, 9, 10, 11, 12, 13, 14, 15, 16, 17, 18, 19, 8] (by decide) rfl
    refine lv_istore (lv' := [(6, .int v_2), (5, .int (nI 1)), (0, .ref b), (1, .ref x), (2, .ref y), (3, .ref q), (4, .int (nI i))]) hx hb dL_law_516 hl (by decide) rfl (fun ls hl => ?_)
    refine lv_aload_n hx hb dL_law_518 rfl (lv_at hl 4 rfl) ?_
    have hPc := hP.sub (ws' := (wm y b1 b2 b3 b4 b5 b6 b7 b8 b9 b10 cI cJ cZ 1 nD nR vs mac now o mt mw zs.length nv dl ec rt rv mk)) [8, 9, 10, 11, 12, 13, 14, 15, 16, 17, 18] rfl
    refine vp_callSi (W.runV (As := []) (rest := []) ⟨hx, hb, hml, hown, hall⟩ (m_thrown l dC dI y b1 b2 b3 b4 b5 b6 b7 b8 b9 b10 cI cJ cZ 1 nD nR vs mac now o mt mw nv dl ec rt rv mk zs) (cwV 0 hall gL_65 rfl rfl rfl (by decide +kernel) ⟨Nat.le_of_ble_eq_true rfl, Nat.le_of_ble_eq_true rfl⟩) ⟨xr_blind, va_recv hK hPc (ci := 1) (q0 := 0) rfl rfl, fun U hU hW => ⟨rfl, by rw [hU]; exact hPc, va_K.moved hW.alike hK⟩⟩ rfl rfl hl.1 rfl (lv_room (Nat.le_of_ble_eq_true rfl)) dL_law_519 ⟨by show _ ≤ 601024; omega, by show _ ≤ 7293000; omega⟩) (fun v_3 hv_4 => ?_)
    obtain rfl : v_3 = nI 1 := hv_4
    refine lv_iload hx hb dL_law_522 (lv_at hl 1 rfl) ?_
    refine lv_icmp_eq (tgt := 529) hx hb dL_law_524 (by decide) (fun c_5 => ?_) (fun c_5 => ?_)
    · refine lv_iload hx hb dL_law_529 (lv_at hl 1 rfl) ?_
      refine lv_if_ne (tgt := 546) hx hb dL_law_531 (by decide) (fun c_6 => ?_) (fun c_6 => ?_)
      · refine lv_goto (tgt := 920) hx hb dL_law_546 (by decide) ?_
        refine W.widen (k := 20 + 2 * i + 2) (n := 70000 + 6 * i + 6 + G) (by omega) (by omega) ?_
        exact KK a3 a4 dv r cap ti va ev ed ec ad ac now 1 vs mac o mt mw zs nv dl rt rv mk ou G H locs hR hZ hG hP hD hS ls (lv_sub hl [2, 3, 4, 5, 6] rfl)
      · exact absurd c_6 (by decide)
    · exact absurd rfl c_5
  have h1 : ¬ t < now := fun z => c1 (Or.inl z)
  have h2 : ¬ 1152921504606846976 < t := fun z => c1 (Or.inr z)
  refine lv_aload_n hx hb dL_law_461 rfl (lv_at hl 1 rfl) ?_
  refine lv_aload_n hx hb dL_law_462 rfl (lv_at hl 0 rfl) ?_
  refine lv_iload hx hb dL_law_463 (lv_at hl 4 rfl) ?_
  refine lv_iconst (v := 1) hx hb dL_law_465 (by decide) ?_
  refine lv_iadd hx hb dL_law_466 ?_
  refine tp_i (y := nI (i + 1)) (nI_add i 1) ?_
  refine va_sld hx hb hX hbl hbA hS (vp_in_nI (show i + 1 < L by omega) (by omega)) dL_law_467 ?_
  refine tp_i (y := xs (i + 1)) (by rw [nI_clamp (by omega)]) ?_
  refine lv_i2l hx hb dL_law_468 rfl ?_
  refine lv_bipush (v := 32) hx hb dL_law_469 (by decide) ?_
  refine lv_lshl hx hb dL_law_471 rfl ?_
  refine lv_aload_n hx hb dL_law_472 rfl (lv_at hl 0 rfl) ?_
  refine lv_iload hx hb dL_law_473 (lv_at hl 4 rfl) ?_
  refine lv_iconst (v := 2) hx hb dL_law_475 (by decide) ?_
  refine lv_iadd hx hb dL_law_476 ?_
  refine tp_i (y := nI (i + 2)) (nI_add i 2) ?_
  refine va_sld hx hb hX hbl hbA hS (vp_in_nI (show i + 2 < L by omega) (by omega)) dL_law_477 ?_
  refine tp_i (y := xs (i + 2)) (by rw [nI_clamp (by omega)]) ?_
  refine lv_i2l hx hb dL_law_478 rfl ?_
  refine lv_ldc2 (v := 4294967295) hx hb hown (hall _ kw_447) dL_law_479 ?_
  refine lv_land hx hb dL_law_482 ?_
  refine lv_lor hx hb dL_law_483 ?_
  refine tp_l (y := t) E_t.symm ?_
  refine lv_aload_n hx hb dL_law_484 rfl (lv_at hl 3 rfl) ?_
  have hPc := hP.sub (ws' := (wr x a1 a2 a3 a4 a5 a6 a7 cI cJ nD nR dv r cap ti va ev ed ec ad ac now) ++ [(q, .inl (cJ, 1, .inr (.inl ou)))]) [0, 1, 2, 3, 4, 5, 6, 7, 19] rfl
  have hDc := hD.sub (ws' := (wr x a1 a2 a3 a4 a5 a6 a7 cI cJ nD nR dv r cap ti va ev ed ec ad ac now) ++ [(q, .inl (cJ, 1, .inr (.inl ou)))]) [0, 1, 2, 3, 4, 5, 6, 7, 19] (by decide) rfl
  have hKc := hK.sub (tys' := [(cI, .int), (cJ, .long)]) [0, 1] rfl
  have hFc := va_free (wc := (wr x a1 a2 a3 a4 a5 a6 a7 cI cJ nD nR dv r cap ti va ev ed ec ad ac now) ++ [(q, .inl (cJ, 1, .inr (.inl ou)))]) hD hS hA [0, 1, 2, 3, 4, 5, 6, 7, 19] rfl
  refine va_calli (xt_runSW (n := 3) (As := [.ref x, .long t, .ref q]) (rest := []) ⟨hx, hb, hml, hown, hall⟩ (h_advance0 l dC dI x a1 a2 a3 a4 a5 a6 a7 cI cJ nD nR dv r cap ti va ev ed ec ad ac now q ou H.size hI t h1 h2) gL_81 rfl rfl rfl (by decide +kernel) ⟨Nat.le_of_ble_eq_true rfl, Nat.le_of_ble_eq_true rfl⟩ ⟨xu_blind, fun U hU hW => ⟨rfl, by rw [hU], by rw [hU]; exact hPc, va_K.moved hW.alike hKc, hDc.weaken (fun _ _ _ _ => trivial)⟩⟩ rfl rfl hl.1 rfl (lv_room (Nat.le_of_ble_eq_true rfl)) dL_law_485 ⟨by show _ ≤ 601024; omega, by show _ ≤ 7293000; omega⟩) hS (fun q _ h => hFc q h) hFc (fun v_1 u t9 H1 locs ht hvm hw hB hz1 hk1 hS => ?_)
  obtain ⟨hP1, hK1, hD1⟩ := hB
  rw [ht] at hP1
  obtain ⟨hP, hD⟩ := va_join (wr := (wm y b1 b2 b3 b4 b5 b6 b7 b8 b9 b10 cI cJ cZ th nD nR vs mac now o mt mw zs.length nv dl ec rt rv mk)) (w1 := (wr x a1 a2 a3 a4 a5 a6 a7 cI cJ nD nR u.2.2.2.1 (un u.1 nD (wf_K t r ti nD)) cap u.2.1 u.2.2.1 ev ed ec u.2.2.2.2 (wf_N t r ti nD) t) ++ [(q, .inl (cJ, 1, .inr (.inl (vp_updL ou 0 ((nI (wf_N t r ti nD)).toInt64)))))]) hP hD [0, 1, 2, 3, 4, 5, 6, 7, 19] [8, 9, 10, 11, 12, 13, 14, 15, 16, 17, 18] rfl rfl (by decide) (by decide) hk1 hFc hP1 hD1
  generalize H1 = H at hP hS ⊢
  have hP := hP.sub (ws' := (wlw x a1 a2 a3 a4 a5 a6 a7 y b1 b2 b3 b4 b5 b6 b7 b8 b9 b10 q cI cJ cZ nD nR u.2.2.2.1 (un u.1 nD (wf_K t r ti nD)) cap u.2.1 u.2.2.1 ev ed ec u.2.2.2.2 (wf_N t r ti nD) t th vs mac now o mt mw zs.length nv dl ec rt rv mk (vp_updL ou 0 ((nI (wf_N t r ti nD)).toInt64)))) [11, 12, 13, 14, 15, 16, 17, 18, 0, 1, 2, 3, 4, 5, 6, 7, 8, 9, 10, 19] rfl
  have hD := hD.sub (ws' := (wlw x a1 a2 a3 a4 a5 a6 a7 y b1 b2 b3 b4 b5 b6 b7 b8 b9 b10 q cI cJ cZ nD nR u.2.2.2.1 (un u.1 nD (wf_K t r ti nD)) cap u.2.1 u.2.2.1 ev ed ec u.2.2.2.2 (wf_N t r ti nD) t th vs mac now o mt mw zs.length nv dl ec rt rv mk (vp_updL ou 0 ((nI (wf_N t r ti nD)).toInt64)))) [11, 12, 13, 14, 15, 16, 17, 18, 0, 1, 2, 3, 4, 5, 6, 7, 8, 9, 10, 19] (by decide) rfl
  obtain ⟨rfl, hV⟩ : v_1 = 0 ∧ _ := hw
  refine tp_i (y := nI 0) nI_0.symm ?_
  refine lv_istore (lv' := [(5, .int (nI 0)), (0, .ref b), (1, .ref x), (2, .ref y), (3, .ref q), (4, .int (nI i))]) hx hb dL_law_488 hl (by decide) rfl (fun ls hl => ?_)
  refine lv_aload_n hx hb dL_law_490 rfl (lv_at hl 3 rfl) ?_
  refine lv_aload_n hx hb dL_law_491 rfl (lv_at hl 1 rfl) ?_
  refine lv_iload hx hb dL_law_492 (lv_at hl 5 rfl) ?_
  refine lv_iconst (v := 1) hx hb dL_law_494 (by decide) ?_
  refine lv_iadd hx hb dL_law_495 ?_
  refine tp_i (y := nI (i + 1)) (nI_add i 1) ?_
  refine va_sld hx hb hX hbl hbA hS (vp_in_nI (show i + 1 < L by omega) (by omega)) dL_law_496 ?_
  refine tp_i (y := xs (i + 1)) (by rw [nI_clamp (by omega)]) ?_
  refine lv_i2l hx hb dL_law_497 rfl ?_
  refine lv_bipush (v := 32) hx hb dL_law_498 (by decide) ?_
  refine lv_lshl hx hb dL_law_500 rfl ?_
  refine lv_aload_n hx hb dL_law_501 rfl (lv_at hl 1 rfl) ?_
  refine lv_iload hx hb dL_law_502 (lv_at hl 5 rfl) ?_
  refine lv_iconst (v := 2) hx hb dL_law_504 (by decide) ?_
  refine lv_iadd hx hb dL_law_505 ?_
  refine tp_i (y := nI (i + 2)) (nI_add i 2) ?_
  refine va_sld hx hb hX hbl hbA hS (vp_in_nI (show i + 2 < L by omega) (by omega)) dL_law_506 ?_
  refine tp_i (y := xs (i + 2)) (by rw [nI_clamp (by omega)]) ?_
  refine lv_i2l hx hb dL_law_507 rfl ?_
  refine lv_ldc2 (v := 4294967295) hx hb hown (hall _ kw_447) dL_law_508 ?_
  refine lv_land hx hb dL_law_511 ?_
  refine lv_lor hx hb dL_law_512 ?_
  refine tp_l (y := t) E_t.symm ?_
  have hPc := hP.sub (ws' := (wm y b1 b2 b3 b4 b5 b6 b7 b8 b9 b10 cI cJ cZ th nD nR vs mac now o mt mw zs.length nv dl ec rt rv mk)) [8, 9, 10, 11, 12, 13, 14, 15, 16, 17, 18] rfl
  have hDc := hD.sub (ws' := (wm y b1 b2 b3 b4 b5 b6 b7 b8 b9 b10 cI cJ cZ th nD nR vs mac now o mt mw zs.length nv dl ec rt rv mk)) [8, 9, 10, 11, 12, 13, 14, 15, 16, 17, 18] (by decide) rfl
  have hFc := va_free (wc := (wm y b1 b2 b3 b4 b5 b6 b7 b8 b9 b10 cI cJ cZ th nD nR vs mac now o mt mw zs.length nv dl ec rt rv mk)) hD hS hA [8, 9, 10, 11, 12, 13, 14, 15, 16, 17, 18] rfl
  refine va_calli (va_runV (As := [.long t]) (rest := []) ⟨hx, hb, hml, hown, hall⟩ (m_advance0 l dC dI y b1 b2 b3 b4 b5 b6 b7 b8 b9 b10 cI cJ cZ th nD nR vs mac now o mt mw nv dl ec rt rv mk zs H.size hIm hZ t h1 h2) (cwV 1 hall gL_84 rfl rfl rfl (by decide +kernel) ⟨Nat.le_of_ble_eq_true rfl, Nat.le_of_ble_eq_true rfl⟩) ⟨xu_blind, va_recv hK hPc (ci := 1) (q0 := 0) rfl rfl, fun U hU hW => ⟨rfl, by rw [hU], by rw [hU]; exact hPc, va_K.moved hW.alike hK, hDc.weaken (fun _ _ _ _ => trivial)⟩⟩ rfl rfl hl.1 rfl (lv_room (Nat.le_of_ble_eq_true rfl)) dL_law_513 ⟨by show _ ≤ 601024; omega, by show _ ≤ 7293000; omega⟩) hS (fun q _ h => hFc q h) hFc (fun v_2 u9 t9 H1 locs ht hvm hw hB hz1 hk1 hS => ?_)
  obtain ⟨o9, t8, w9, hZ9, hP1, hK1, hD1⟩ := hB
  rw [ht] at hP1
  obtain ⟨hP, hD⟩ := va_join (wr := (wr x a1 a2 a3 a4 a5 a6 a7 cI cJ nD nR u.2.2.2.1 (un u.1 nD (wf_K t r ti nD)) cap u.2.1 u.2.2.1 ev ed ec u.2.2.2.2 (wf_N t r ti nD) t) ++ [(q, .inl (cJ, 1, .inr (.inl (vp_updL ou 0 ((nI (wf_N t r ti nD)).toInt64)))))]) (w1 := (wm y b1 b2 b3 b4 b5 b6 b7 b8 b9 b10 cI cJ cZ 0 nD nR (wvs t zs vs) (was t zs (wfl mac nD)) t o9 t8 w9 ((wla t zs).length) nv dl ec rt rv mk)) hP hD [8, 9, 10, 11, 12, 13, 14, 15, 16, 17, 18] [0, 1, 2, 3, 4, 5, 6, 7, 19] rfl rfl (by decide) (by decide) hk1 hFc hP1 hD1
  generalize H1 = H at hP hS ⊢
  have hP := hP.sub (ws' := (wlw x a1 a2 a3 a4 a5 a6 a7 y b1 b2 b3 b4 b5 b6 b7 b8 b9 b10 q cI cJ cZ nD nR u.2.2.2.1 (un u.1 nD (wf_K t r ti nD)) cap u.2.1 u.2.2.1 ev ed ec u.2.2.2.2 (wf_N t r ti nD) t 0 (wvs t zs vs) (was t zs (wfl mac nD)) t o9 t8 w9 ((wla t zs).length) nv dl ec rt rv mk (vp_updL ou 0 ((nI (wf_N t r ti nD)).toInt64)))) [0, 1, 2, 3, 4, 5, 6, 7, 9, 10, 11, 12, 13, 14, 15, 16, 17, 18, 19, 8] rfl
  have hD := hD.sub (ws' := (wlw x a1 a2 a3 a4 a5 a6 a7 y b1 b2 b3 b4 b5 b6 b7 b8 b9 b10 q cI cJ cZ nD nR u.2.2.2.1 (un u.1 nD (wf_K t r ti nD)) cap u.2.1 u.2.2.1 ev ed ec u.2.2.2.2 (wf_N t r ti nD) t 0 (wvs t zs vs) (was t zs (wfl mac nD)) t o9 t8 w9 ((wla t zs).length) nv dl ec rt rv mk (vp_updL ou 0 ((nI (wf_N t r ti nD)).toInt64)))) [0, 1, 2, 3, 4, 5, 6, 7, 9, 10, 11, 12, 13, 14, 15, 16, 17, 18, 19, 8] (by decide) rfl
  refine tp_i (y := nI (wf_N t r ti nD)) (hw.trans (by rw [wrel_wN hR t nD (Nat.le_refl _)])) ?_
  refine lv_istore (lv' := [(6, .int (nI (wf_N t r ti nD))), (5, .int (nI 0)), (0, .ref b), (1, .ref x), (2, .ref y), (3, .ref q), (4, .int (nI i))]) hx hb dL_law_516 hl (by decide) rfl (fun ls hl => ?_)
  refine lv_aload_n hx hb dL_law_518 rfl (lv_at hl 4 rfl) ?_
  have hPc := hP.sub (ws' := (wm y b1 b2 b3 b4 b5 b6 b7 b8 b9 b10 cI cJ cZ 0 nD nR (wvs t zs vs) (was t zs (wfl mac nD)) t o9 t8 w9 ((wla t zs).length) nv dl ec rt rv mk)) [8, 9, 10, 11, 12, 13, 14, 15, 16, 17, 18] rfl
  refine vp_callSi (W.runV (As := []) (rest := []) ⟨hx, hb, hml, hown, hall⟩ (m_thrown l dC dI y b1 b2 b3 b4 b5 b6 b7 b8 b9 b10 cI cJ cZ 0 nD nR (wvs t zs vs) (was t zs (wfl mac nD)) t o9 t8 w9 nv dl ec rt rv mk (wla t zs)) (cwV 0 hall gL_65 rfl rfl rfl (by decide +kernel) ⟨Nat.le_of_ble_eq_true rfl, Nat.le_of_ble_eq_true rfl⟩) ⟨xr_blind, va_recv hK hPc (ci := 1) (q0 := 0) rfl rfl, fun U hU hW => ⟨rfl, by rw [hU]; exact hPc, va_K.moved hW.alike hK⟩⟩ rfl rfl hl.1 rfl (lv_room (Nat.le_of_ble_eq_true rfl)) dL_law_519 ⟨by show _ ≤ 601024; omega, by show _ ≤ 7293000; omega⟩) (fun v_3 hv_4 => ?_)
  obtain rfl : v_3 = nI 0 := hv_4
  refine lv_iload hx hb dL_law_522 (lv_at hl 1 rfl) ?_
  refine lv_icmp_eq (tgt := 529) hx hb dL_law_524 (by decide) (fun c_5 => ?_) (fun c_5 => ?_)
  · refine lv_iload hx hb dL_law_529 (lv_at hl 1 rfl) ?_
    refine lv_if_ne (tgt := 546) hx hb dL_law_531 (by decide) (fun c_6 => ?_) (fun c_6 => ?_)
    · exact absurd nI_0 c_6
    · refine lv_aload_n hx hb dL_law_534 rfl (lv_at hl 5 rfl) ?_
      refine lv_iconst (v := 0) hx hb dL_law_535 (by decide) ?_
      refine tp_i (y := nI 0) nI_0.symm ?_
      refine xa_lald hx hb hK hP 19 1 rfl rfl (Nat.lt_succ_self 0) (by omega) dL_law_536 ?_
      refine tp_l (y := (nI (wf_N t r ti nD)).toInt64) pk_uLs ?_
      refine lv_iload hx hb dL_law_537 (lv_at hl 0 rfl) ?_
      refine lv_i2l hx hb dL_law_539 rfl ?_
      refine xl_eq (tgt := 546) hx hb dL_law_540 dL_law_541 (by decide) (fun c_7 => ?_) (fun c_7 => ?_)
      · refine lv_goto (tgt := 920) hx hb dL_law_546 (by decide) ?_
        refine W.widen (k := 20 + 2 * i + 2) (n := 70000 + 6 * i + 6 + G) (by omega) (by omega) ?_
        exact KK a3 a4 u.2.2.2.1 (un u.1 nD (wf_K t r ti nD)) cap u.2.1 u.2.2.1 ev ed ec u.2.2.2.2 (wf_N t r ti nD) t 0 (wvs t zs vs) (was t zs (wfl mac nD)) o9 t8 w9 (wla t zs) nv dl rt rv mk (vp_updL ou 0 ((nI (wf_N t r ti nD)).toInt64)) G H locs (wrel_advance hR h1 h2 hV) hZ9 hG hP hD hS ls (lv_sub hl [2, 3, 4, 5, 6] rfl)
      · exact absurd rfl c_7
  · exact absurd rfl c_5
set_option maxHeartbeats 8000000 in
set_option maxRecDepth 100000 in
theorem l_projected {p : Program} {l : Launch} {e : Env} {s : State} {m : MethodId} {below : List Frame} {meth : Method} {c : Code} {dC : Nat → ClassId} {dI : Nat → Nat → Nat} {b L : Nat} {xs : Nat → Int32} (hst : l.stackTraces = false) (hL : L ≤ 2562) (C0 : lw_At p s m meth c b L xs) (hok : xt_ok s) (hnk : xt_nk s) {x a1 a2 a5 a6 a7 y b1 b2 b3 b4 b5 b6 b7 b8 b9 b10 q : Nat} {cI cJ cZ : ClassId} {nD nR : Nat} (hK : va_K (dC, dI) vwCl [(cI, .int), (cJ, .long), (cZ, .boolean)] s) (i : Nat) (hi : i + 5 ≤ L) (KK : lwK p l e s m below meth c dC dI b x a1 a2 a5 a6 a7 y b1 b2 b3 b4 b5 b6 b7 b8 b9 b10 q cI cJ cZ nD nR i) (a3 a4 : Nat) (dv : Nat → Int64) (r : Nat → Nat) (cap : Nat) (ti va ev ed : Nat → Int64) (ec : Nat) (ad : Nat → Int32) (ac : Nat) (now : Int64) (th : Nat) (vs : Nat → Int64) (mac : Nat → Bool) (o : Nat → Nat) (mt mw : Nat → Int64) (zs : List ZT) (nv dl : Nat → Int64) (rt rv : Nat → Int64) (mk : Nat → Bool) (ou : Nat → Int64) (G : Nat) (H : Heap) (locs : List Loc) (hR : wrel nD nR cap ec ac dv r ti va ev ed ad now vs mac zs nv dl) (hZ : wz zs o mt mw) (hG : G ≤ 4 * cap ∨ cap = nR ∧ G ≤ 6 * nR) (hP : va_P (dC, dI) vwCl (wlw x a1 a2 a3 a4 a5 a6 a7 y b1 b2 b3 b4 b5 b6 b7 b8 b9 b10 q cI cJ cZ nD nR dv r cap ti va ev ed ec ad ac now th vs mac now o mt mw zs.length nv dl ec rt rv mk ou) H) (hD : va_D (fun z : Nat => s.heap.size ≤ z) (wlw x a1 a2 a3 a4 a5 a6 a7 y b1 b2 b3 b4 b5 b6 b7 b8 b9 b10 q cI cJ cZ nD nR dv r cap ti va ev ed ec ad ac now th vs mac now o mt mw zs.length nv dl ec rt rv mk ou)) (hS : va_S (fun z : Nat => s.heap.size ≤ z) s.heap H locs) (ls : Array Slot) (hl : lv_has ls 8 [(0, .ref b), (1, .ref x), (2, .ref y), (3, .ref q), (4, .int (nI i))]) : W p l e room_1 s m #[Value.ref b] below meth c H locs (20 + 2 * i) (70000 + 6 * i + G) (lw_Z below #[Value.ref b] s) (F0 m 808 ls []) := by
  obtain ⟨hx, hb, hr, hml, hown, hts, hX, hbl, hlocks, hgv⟩ := C0
  have hA : ∀ z : Nat, s.heap.size ≤ z → (fun z : Nat => s.heap.size ≤ z) z := fun _ h => h
  have hbA : ¬ (fun z : Nat => s.heap.size ≤ z) b := Nat.not_le.mpr hbl
  have hall : ∀ w ∈ allw, w.before #[Value.ref b] s = true := fun w h => hts w (List.mem_filter.mp h).1
  have hown : s.vm.findClass RL = some m.cls := hown
  have hI := hR.1
  have hIm := wrel_I hR
  obtain ⟨hnD1, hnD, hnR1, hnR, hcap, hrc, hrR, hr0, hmo, hec, hac⟩ := id hR.1
  have hG6 : G ≤ 49152 := by omega
  obtain ⟨d0, E_d0⟩ : ∃ z : Int32, z = xs (i + 1) := ⟨_, rfl⟩
  obtain ⟨t, E_t⟩ : ∃ z : Int64, z = (xs (i + 2)).toInt64 <<< ((32 : Int32).toInt64 &&& 63) ||| (xs (i + 3)).toInt64 &&& 4294967295 := ⟨_, rfl⟩
  by_cases c1 : d0 < 0 ∨ nI nD ≤ d0
  · refine lv_aload_n hx hb dL_law_808 rfl (lv_at hl 1 rfl) ?_
    refine lv_aload_n hx hb dL_law_809 rfl (lv_at hl 0 rfl) ?_
    refine lv_iload hx hb dL_law_810 (lv_at hl 4 rfl) ?_
    refine lv_iconst (v := 1) hx hb dL_law_812 (by decide) ?_
    refine lv_iadd hx hb dL_law_813 ?_
    refine tp_i (y := nI (i + 1)) (nI_add i 1) ?_
    refine va_sld hx hb hX hbl hbA hS (vp_in_nI (show i + 1 < L by omega) (by omega)) dL_law_814 ?_
    refine tp_i (y := d0) (by rw [nI_clamp (by omega)]; exact E_d0.symm) ?_
    refine lv_aload_n hx hb dL_law_815 rfl (lv_at hl 0 rfl) ?_
    refine lv_iload hx hb dL_law_816 (lv_at hl 4 rfl) ?_
    refine lv_iconst (v := 2) hx hb dL_law_818 (by decide) ?_
    refine lv_iadd hx hb dL_law_819 ?_
    refine tp_i (y := nI (i + 2)) (nI_add i 2) ?_
    refine va_sld hx hb hX hbl hbA hS (vp_in_nI (show i + 2 < L by omega) (by omega)) dL_law_820 ?_
    refine tp_i (y := xs (i + 2)) (by rw [nI_clamp (by omega)]) ?_
    refine lv_i2l hx hb dL_law_821 rfl ?_
    refine lv_bipush (v := 32) hx hb dL_law_822 (by decide) ?_
    refine lv_lshl hx hb dL_law_824 rfl ?_
    refine lv_aload_n hx hb dL_law_825 rfl (lv_at hl 0 rfl) ?_
    refine lv_iload hx hb dL_law_826 (lv_at hl 4 rfl) ?_
    refine lv_iconst (v := 3) hx hb dL_law_828 (by decide) ?_
    refine lv_iadd hx hb dL_law_829 ?_
    refine tp_i (y := nI (i + 3)) (nI_add i 3) ?_
    refine va_sld hx hb hX hbl hbA hS (vp_in_nI (show i + 3 < L by omega) (by omega)) dL_law_830 ?_
    refine tp_i (y := xs (i + 3)) (by rw [nI_clamp (by omega)]) ?_
    refine lv_i2l hx hb dL_law_831 rfl ?_
    refine lv_ldc2 (v := 4294967295) hx hb hown (hall _ kw_447) dL_law_832 ?_
    refine lv_land hx hb dL_law_835 ?_
    refine lv_lor hx hb dL_law_836 ?_
    refine tp_l (y := t) E_t.symm ?_
    refine lv_aload_n hx hb dL_law_837 rfl (lv_at hl 3 rfl) ?_
    have hPc := hP.sub (ws' := (wr x a1 a2 a3 a4 a5 a6 a7 cI cJ nD nR dv r cap ti va ev ed ec ad ac now)) [0, 1, 2, 3, 4, 5, 6, 7] rfl
    have hDc := hD.sub (ws' := (wr x a1 a2 a3 a4 a5 a6 a7 cI cJ nD nR dv r cap ti va ev ed ec ad ac now)) [0, 1, 2, 3, 4, 5, 6, 7] (by decide) rfl
    have hKc := hK.sub (tys' := [(cI, .int), (cJ, .long)]) [0, 1] rfl
    have hFc := va_free (wc := (wr x a1 a2 a3 a4 a5 a6 a7 cI cJ nD nR dv r cap ti va ev ed ec ad ac now)) hD hS hA [0, 1, 2, 3, 4, 5, 6, 7] rfl
    refine va_calli (xt_runSW (n := 4) (As := [.ref x, .int d0, .long t, .ref q]) (rest := []) ⟨hx, hb, hml, hown, hall⟩ (h_projected1 l dC dI x a1 a2 a3 a4 a5 a6 a7 cI cJ nD nR dv r cap ti va ev ed ec ad ac now hst q H.size d0 c1 t) gL_109 rfl rfl rfl (by decide +kernel) ⟨Nat.le_of_ble_eq_true rfl, Nat.le_of_ble_eq_true rfl⟩ ⟨xh_blind, fun U hU hW => ⟨rfl, by rw [hU], by rw [hU]; exact hPc, va_K.moved hW.alike hKc, hDc.weaken (fun _ _ _ _ => trivial), xt_move hW (fun z hz => by rw [hU]; exact hS.2.1 z hz (Nat.not_le.mpr hz)) hok, xt_nk_move hW.alike hnk⟩⟩ rfl rfl hl.1 rfl (lv_room (Nat.le_of_ble_eq_true rfl)) dL_law_838 ⟨by show _ ≤ 601024; omega, by show _ ≤ 7293000; omega⟩) hS (fun q _ h => hFc q h) hFc (fun v_1 u t9 H1 locs ht hvm hw hB hz1 hk1 hS => ?_)
    obtain ⟨hP1, hK1, hD1⟩ := hB
    rw [ht] at hP1
    obtain ⟨hP, hD⟩ := va_join (wr := (wm y b1 b2 b3 b4 b5 b6 b7 b8 b9 b10 cI cJ cZ th nD nR vs mac now o mt mw zs.length nv dl ec rt rv mk) ++ [(q, .inl (cJ, 1, .inr (.inl ou)))]) (w1 := (wr x a1 a2 a3 a4 a5 a6 a7 cI cJ nD nR dv r cap ti va ev ed ec ad ac now)) hP hD [0, 1, 2, 3, 4, 5, 6, 7] [8, 9, 10, 11, 12, 13, 14, 15, 16, 17, 18, 19] rfl rfl (by decide) (by decide) hk1 hFc hP1 hD1
    generalize H1 = H at hP hS ⊢
    have hP := hP.sub (ws' := (wlw x a1 a2 a3 a4 a5 a6 a7 y b1 b2 b3 b4 b5 b6 b7 b8 b9 b10 q cI cJ cZ nD nR dv r cap ti va ev ed ec ad ac now th vs mac now o mt mw zs.length nv dl ec rt rv mk ou)) [12, 13, 14, 15, 16, 17, 18, 19, 0, 1, 2, 3, 4, 5, 6, 7, 8, 9, 10, 11] rfl
    have hD := hD.sub (ws' := (wlw x a1 a2 a3 a4 a5 a6 a7 y b1 b2 b3 b4 b5 b6 b7 b8 b9 b10 q cI cJ cZ nD nR dv r cap ti va ev ed ec ad ac now th vs mac now o mt mw zs.length nv dl ec rt rv mk ou)) [12, 13, 14, 15, 16, 17, 18, 19, 0, 1, 2, 3, 4, 5, 6, 7, 8, 9, 10, 11] (by decide) rfl
    obtain rfl : v_1 = nI 1 := hw
    refine lv_istore (lv' := [(5, .int (nI 1)), (0, .ref b), (1, .ref x), (2, .ref y), (3, .ref q), (4, .int (nI i))]) hx hb dL_law_841 hl (by decide) rfl (fun ls hl => ?_)
    refine lv_aload_n hx hb dL_law_843 rfl (lv_at hl 3 rfl) ?_
    refine lv_aload_n hx hb dL_law_844 rfl (lv_at hl 1 rfl) ?_
    refine lv_iload hx hb dL_law_845 (lv_at hl 5 rfl) ?_
    refine lv_iconst (v := 1) hx hb dL_law_847 (by decide) ?_
    refine lv_iadd hx hb dL_law_848 ?_
    refine tp_i (y := nI (i + 1)) (nI_add i 1) ?_
    refine va_sld hx hb hX hbl hbA hS (vp_in_nI (show i + 1 < L by omega) (by omega)) dL_law_849 ?_
    refine tp_i (y := d0) (by rw [nI_clamp (by omega)]; exact E_d0.symm) ?_
    refine lv_aload_n hx hb dL_law_850 rfl (lv_at hl 1 rfl) ?_
    refine lv_iload hx hb dL_law_851 (lv_at hl 5 rfl) ?_
    refine lv_iconst (v := 2) hx hb dL_law_853 (by decide) ?_
    refine lv_iadd hx hb dL_law_854 ?_
    refine tp_i (y := nI (i + 2)) (nI_add i 2) ?_
    refine va_sld hx hb hX hbl hbA hS (vp_in_nI (show i + 2 < L by omega) (by omega)) dL_law_855 ?_
    refine tp_i (y := xs (i + 2)) (by rw [nI_clamp (by omega)]) ?_
    refine lv_i2l hx hb dL_law_856 rfl ?_
    refine lv_bipush (v := 32) hx hb dL_law_857 (by decide) ?_
    refine lv_lshl hx hb dL_law_859 rfl ?_
    refine lv_aload_n hx hb dL_law_860 rfl (lv_at hl 1 rfl) ?_
    refine lv_iload hx hb dL_law_861 (lv_at hl 5 rfl) ?_
    refine lv_iconst (v := 3) hx hb dL_law_863 (by decide) ?_
    refine lv_iadd hx hb dL_law_864 ?_
    refine tp_i (y := nI (i + 3)) (nI_add i 3) ?_
    refine va_sld hx hb hX hbl hbA hS (vp_in_nI (show i + 3 < L by omega) (by omega)) dL_law_865 ?_
    refine tp_i (y := xs (i + 3)) (by rw [nI_clamp (by omega)]) ?_
    refine lv_i2l hx hb dL_law_866 rfl ?_
    refine lv_ldc2 (v := 4294967295) hx hb hown (hall _ kw_447) dL_law_867 ?_
    refine lv_land hx hb dL_law_870 ?_
    refine lv_lor hx hb dL_law_871 ?_
    refine tp_l (y := t) E_t.symm ?_
    have hPc := hP.sub (ws' := (wm y b1 b2 b3 b4 b5 b6 b7 b8 b9 b10 cI cJ cZ th nD nR vs mac now o mt mw zs.length nv dl ec rt rv mk)) [8, 9, 10, 11, 12, 13, 14, 15, 16, 17, 18] rfl
    have hDc := hD.sub (ws' := (wm y b1 b2 b3 b4 b5 b6 b7 b8 b9 b10 cI cJ cZ th nD nR vs mac now o mt mw zs.length nv dl ec rt rv mk)) [8, 9, 10, 11, 12, 13, 14, 15, 16, 17, 18] (by decide) rfl
    have hFc := va_free (wc := (wm y b1 b2 b3 b4 b5 b6 b7 b8 b9 b10 cI cJ cZ th nD nR vs mac now o mt mw zs.length nv dl ec rt rv mk)) hD hS hA [8, 9, 10, 11, 12, 13, 14, 15, 16, 17, 18] rfl
    refine va_calll (va_runV (As := [.int d0, .long t]) (rest := []) ⟨hx, hb, hml, hown, hall⟩ (m_projected1 l dC dI y b1 b2 b3 b4 b5 b6 b7 b8 b9 b10 cI cJ cZ th nD nR vs mac now o mt mw nv dl ec rt rv mk zs H.size d0 c1 t) (cwV 2 hall gL_111 rfl rfl rfl (by decide +kernel) ⟨Nat.le_of_ble_eq_true rfl, Nat.le_of_ble_eq_true rfl⟩) ⟨xu_blind, va_recv hK hPc (ci := 1) (q0 := 0) rfl rfl, fun U hU hW => ⟨rfl, by rw [hU], by rw [hU]; exact hPc, va_K.moved hW.alike hK, hDc.weaken (fun _ _ _ _ => trivial)⟩⟩ rfl rfl hl.1 rfl (lv_room (Nat.le_of_ble_eq_true rfl)) dL_law_872 ⟨by show _ ≤ 601024; omega, by show _ ≤ 7293000; omega⟩) hS (fun q _ h => hFc q h) hFc (fun v_2 u9 t9 H1 locs ht hvm hw hB hz1 hk1 hS => ?_)
    obtain ⟨hP1, hK1, hD1⟩ := hB
    rw [ht] at hP1
    obtain ⟨hP, hD⟩ := va_join (wr := (wr x a1 a2 a3 a4 a5 a6 a7 cI cJ nD nR dv r cap ti va ev ed ec ad ac now) ++ [(q, .inl (cJ, 1, .inr (.inl ou)))]) (w1 := (wm y b1 b2 b3 b4 b5 b6 b7 b8 b9 b10 cI cJ cZ 1 nD nR vs mac now o mt mw zs.length nv dl ec rt rv mk)) hP hD [8, 9, 10, 11, 12, 13, 14, 15, 16, 17, 18] [0, 1, 2, 3, 4, 5, 6, 7, 19] rfl rfl (by decide) (by decide) hk1 hFc hP1 hD1
    generalize H1 = H at hP hS ⊢
    have hP := hP.sub (ws' := (wlw x a1 a2 a3 a4 a5 a6 a7 y b1 b2 b3 b4 b5 b6 b7 b8 b9 b10 q cI cJ cZ nD nR dv r cap ti va ev ed ec ad ac now 1 vs mac now o mt mw zs.length nv dl ec rt rv mk ou)) [0, 1, 2, 3, 4, 5, 6, 7, 9, 10, 11, 12, 13, 14, 15, 16, 17, 18, 19, 8] rfl
    have hD := hD.sub (ws' := (wlw x a1 a2 a3 a4 a5 a6 a7 y b1 b2 b3 b4 b5 b6 b7 b8 b9 b10 q cI cJ cZ nD nR dv r cap ti va ev ed ec ad ac now 1 vs mac now o mt mw zs.length nv dl ec rt rv mk ou)) [0, 1, 2, 3, 4, 5, 6, 7, 9, 10, 11, 12, 13, 14, 15, 16, 17, 18, 19, 8] (by decide) rfl
    refine lv_lstore (lv' := [(6, .long v_2), (5, .int (nI 1)), (0, .ref b), (1, .ref x), (2, .ref y), (3, .ref q), (4, .int (nI i))]) hx hb dL_law_875 hl (by decide) rfl (fun ls hl => ?_)
    refine lv_aload_n hx hb dL_law_877 rfl (lv_at hl 4 rfl) ?_
    have hPc := hP.sub (ws' := (wm y b1 b2 b3 b4 b5 b6 b7 b8 b9 b10 cI cJ cZ 1 nD nR vs mac now o mt mw zs.length nv dl ec rt rv mk)) [8, 9, 10, 11, 12, 13, 14, 15, 16, 17, 18] rfl
    refine vp_callSi (W.runV (As := []) (rest := []) ⟨hx, hb, hml, hown, hall⟩ (m_thrown l dC dI y b1 b2 b3 b4 b5 b6 b7 b8 b9 b10 cI cJ cZ 1 nD nR vs mac now o mt mw nv dl ec rt rv mk zs) (cwV 0 hall gL_65 rfl rfl rfl (by decide +kernel) ⟨Nat.le_of_ble_eq_true rfl, Nat.le_of_ble_eq_true rfl⟩) ⟨xr_blind, va_recv hK hPc (ci := 1) (q0 := 0) rfl rfl, fun U hU hW => ⟨rfl, by rw [hU]; exact hPc, va_K.moved hW.alike hK⟩⟩ rfl rfl hl.1 rfl (lv_room (Nat.le_of_ble_eq_true rfl)) dL_law_878 ⟨by show _ ≤ 601024; omega, by show _ ≤ 7293000; omega⟩) (fun v_3 hv_4 => ?_)
    obtain rfl : v_3 = nI 1 := hv_4
    refine lv_iload hx hb dL_law_881 (lv_at hl 1 rfl) ?_
    refine lv_icmp_eq (tgt := 888) hx hb dL_law_883 (by decide) (fun c_5 => ?_) (fun c_5 => ?_)
    · refine lv_iload hx hb dL_law_888 (lv_at hl 1 rfl) ?_
      refine lv_if_ne (tgt := 904) hx hb dL_law_890 (by decide) (fun c_6 => ?_) (fun c_6 => ?_)
      · refine lv_goto (tgt := 920) hx hb dL_law_904 (by decide) ?_
        refine W.widen (k := 20 + 2 * i + 2) (n := 70000 + 6 * i + 6 + G) (by omega) (by omega) ?_
        exact KK a3 a4 dv r cap ti va ev ed ec ad ac now 1 vs mac o mt mw zs nv dl rt rv mk ou G H locs hR hZ hG hP hD hS ls (lv_sub hl [2, 3, 4, 5, 6] rfl)
      · exact absurd c_6 (by decide)
    · exact absurd rfl c_5
  obtain ⟨d, hd, rfl⟩ : ∃ d : Nat, d < nD ∧ d0 = nI d := xw_d (by omega) c1
  by_cases c2 : t < now
  · refine lv_aload_n hx hb dL_law_808 rfl (lv_at hl 1 rfl) ?_
    refine lv_aload_n hx hb dL_law_809 rfl (lv_at hl 0 rfl) ?_
    refine lv_iload hx hb dL_law_810 (lv_at hl 4 rfl) ?_
    refine lv_iconst (v := 1) hx hb dL_law_812 (by decide) ?_
    refine lv_iadd hx hb dL_law_813 ?_
    refine tp_i (y := nI (i + 1)) (nI_add i 1) ?_
    refine va_sld hx hb hX hbl hbA hS (vp_in_nI (show i + 1 < L by omega) (by omega)) dL_law_814 ?_
    refine tp_i (y := nI d) (by rw [nI_clamp (by omega)]; exact E_d0.symm) ?_
    refine lv_aload_n hx hb dL_law_815 rfl (lv_at hl 0 rfl) ?_
    refine lv_iload hx hb dL_law_816 (lv_at hl 4 rfl) ?_
    refine lv_iconst (v := 2) hx hb dL_law_818 (by decide) ?_
    refine lv_iadd hx hb dL_law_819 ?_
    refine tp_i (y := nI (i + 2)) (nI_add i 2) ?_
    refine va_sld hx hb hX hbl hbA hS (vp_in_nI (show i + 2 < L by omega) (by omega)) dL_law_820 ?_
    refine tp_i (y := xs (i + 2)) (by rw [nI_clamp (by omega)]) ?_
    refine lv_i2l hx hb dL_law_821 rfl ?_
    refine lv_bipush (v := 32) hx hb dL_law_822 (by decide) ?_
    refine lv_lshl hx hb dL_law_824 rfl ?_
    refine lv_aload_n hx hb dL_law_825 rfl (lv_at hl 0 rfl) ?_
    refine lv_iload hx hb dL_law_826 (lv_at hl 4 rfl) ?_
    refine lv_iconst (v := 3) hx hb dL_law_828 (by decide) ?_
    refine lv_iadd hx hb dL_law_829 ?_
    refine tp_i (y := nI (i + 3)) (nI_add i 3) ?_
    refine va_sld hx hb hX hbl hbA hS (vp_in_nI (show i + 3 < L by omega) (by omega)) dL_law_830 ?_
    refine tp_i (y := xs (i + 3)) (by rw [nI_clamp (by omega)]) ?_
    refine lv_i2l hx hb dL_law_831 rfl ?_
    refine lv_ldc2 (v := 4294967295) hx hb hown (hall _ kw_447) dL_law_832 ?_
    refine lv_land hx hb dL_law_835 ?_
    refine lv_lor hx hb dL_law_836 ?_
    refine tp_l (y := t) E_t.symm ?_
    refine lv_aload_n hx hb dL_law_837 rfl (lv_at hl 3 rfl) ?_
    have hPc := hP.sub (ws' := (wr x a1 a2 a3 a4 a5 a6 a7 cI cJ nD nR dv r cap ti va ev ed ec ad ac now)) [0, 1, 2, 3, 4, 5, 6, 7] rfl
    have hDc := hD.sub (ws' := (wr x a1 a2 a3 a4 a5 a6 a7 cI cJ nD nR dv r cap ti va ev ed ec ad ac now)) [0, 1, 2, 3, 4, 5, 6, 7] (by decide) rfl
    have hKc := hK.sub (tys' := [(cI, .int), (cJ, .long)]) [0, 1] rfl
    have hFc := va_free (wc := (wr x a1 a2 a3 a4 a5 a6 a7 cI cJ nD nR dv r cap ti va ev ed ec ad ac now)) hD hS hA [0, 1, 2, 3, 4, 5, 6, 7] rfl
    refine va_calli (xt_runSW (n := 4) (As := [.ref x, .int (nI d), .long t, .ref q]) (rest := []) ⟨hx, hb, hml, hown, hall⟩ (h_projected2 l dC dI x a1 a2 a3 a4 a5 a6 a7 cI cJ nD nR dv r cap ti va ev ed ec ad ac now hst q H.size hI d t hd c2) gL_109 rfl rfl rfl (by decide +kernel) ⟨Nat.le_of_ble_eq_true rfl, Nat.le_of_ble_eq_true rfl⟩ ⟨xh_blind, fun U hU hW => ⟨rfl, by rw [hU], by rw [hU]; exact hPc, va_K.moved hW.alike hKc, hDc.weaken (fun _ _ _ _ => trivial), xt_move hW (fun z hz => by rw [hU]; exact hS.2.1 z hz (Nat.not_le.mpr hz)) hok, xt_nk_move hW.alike hnk⟩⟩ rfl rfl hl.1 rfl (lv_room (Nat.le_of_ble_eq_true rfl)) dL_law_838 ⟨by show _ ≤ 601024; omega, by show _ ≤ 7293000; omega⟩) hS (fun q _ h => hFc q h) hFc (fun v_1 u t9 H1 locs ht hvm hw hB hz1 hk1 hS => ?_)
    obtain ⟨hP1, hK1, hD1⟩ := hB
    rw [ht] at hP1
    obtain ⟨hP, hD⟩ := va_join (wr := (wm y b1 b2 b3 b4 b5 b6 b7 b8 b9 b10 cI cJ cZ th nD nR vs mac now o mt mw zs.length nv dl ec rt rv mk) ++ [(q, .inl (cJ, 1, .inr (.inl ou)))]) (w1 := (wr x a1 a2 a3 a4 a5 a6 a7 cI cJ nD nR dv r cap ti va ev ed ec ad ac now)) hP hD [0, 1, 2, 3, 4, 5, 6, 7] [8, 9, 10, 11, 12, 13, 14, 15, 16, 17, 18, 19] rfl rfl (by decide) (by decide) hk1 hFc hP1 hD1
    generalize H1 = H at hP hS ⊢
    have hP := hP.sub (ws' := (wlw x a1 a2 a3 a4 a5 a6 a7 y b1 b2 b3 b4 b5 b6 b7 b8 b9 b10 q cI cJ cZ nD nR dv r cap ti va ev ed ec ad ac now th vs mac now o mt mw zs.length nv dl ec rt rv mk ou)) [12, 13, 14, 15, 16, 17, 18, 19, 0, 1, 2, 3, 4, 5, 6, 7, 8, 9, 10, 11] rfl
    have hD := hD.sub (ws' := (wlw x a1 a2 a3 a4 a5 a6 a7 y b1 b2 b3 b4 b5 b6 b7 b8 b9 b10 q cI cJ cZ nD nR dv r cap ti va ev ed ec ad ac now th vs mac now o mt mw zs.length nv dl ec rt rv mk ou)) [12, 13, 14, 15, 16, 17, 18, 19, 0, 1, 2, 3, 4, 5, 6, 7, 8, 9, 10, 11] (by decide) rfl
    obtain rfl : v_1 = nI 2 := hw
    refine lv_istore (lv' := [(5, .int (nI 2)), (0, .ref b), (1, .ref x), (2, .ref y), (3, .ref q), (4, .int (nI i))]) hx hb dL_law_841 hl (by decide) rfl (fun ls hl => ?_)
    refine lv_aload_n hx hb dL_law_843 rfl (lv_at hl 3 rfl) ?_
    refine lv_aload_n hx hb dL_law_844 rfl (lv_at hl 1 rfl) ?_
    refine lv_iload hx hb dL_law_845 (lv_at hl 5 rfl) ?_
    refine lv_iconst (v := 1) hx hb dL_law_847 (by decide) ?_
    refine lv_iadd hx hb dL_law_848 ?_
    refine tp_i (y := nI (i + 1)) (nI_add i 1) ?_
    refine va_sld hx hb hX hbl hbA hS (vp_in_nI (show i + 1 < L by omega) (by omega)) dL_law_849 ?_
    refine tp_i (y := nI d) (by rw [nI_clamp (by omega)]; exact E_d0.symm) ?_
    refine lv_aload_n hx hb dL_law_850 rfl (lv_at hl 1 rfl) ?_
    refine lv_iload hx hb dL_law_851 (lv_at hl 5 rfl) ?_
    refine lv_iconst (v := 2) hx hb dL_law_853 (by decide) ?_
    refine lv_iadd hx hb dL_law_854 ?_
    refine tp_i (y := nI (i + 2)) (nI_add i 2) ?_
    refine va_sld hx hb hX hbl hbA hS (vp_in_nI (show i + 2 < L by omega) (by omega)) dL_law_855 ?_
    refine tp_i (y := xs (i + 2)) (by rw [nI_clamp (by omega)]) ?_
    refine lv_i2l hx hb dL_law_856 rfl ?_
    refine lv_bipush (v := 32) hx hb dL_law_857 (by decide) ?_
    refine lv_lshl hx hb dL_law_859 rfl ?_
    refine lv_aload_n hx hb dL_law_860 rfl (lv_at hl 1 rfl) ?_
    refine lv_iload hx hb dL_law_861 (lv_at hl 5 rfl) ?_
    refine lv_iconst (v := 3) hx hb dL_law_863 (by decide) ?_
    refine lv_iadd hx hb dL_law_864 ?_
    refine tp_i (y := nI (i + 3)) (nI_add i 3) ?_
    refine va_sld hx hb hX hbl hbA hS (vp_in_nI (show i + 3 < L by omega) (by omega)) dL_law_865 ?_
    refine tp_i (y := xs (i + 3)) (by rw [nI_clamp (by omega)]) ?_
    refine lv_i2l hx hb dL_law_866 rfl ?_
    refine lv_ldc2 (v := 4294967295) hx hb hown (hall _ kw_447) dL_law_867 ?_
    refine lv_land hx hb dL_law_870 ?_
    refine lv_lor hx hb dL_law_871 ?_
    refine tp_l (y := t) E_t.symm ?_
    have hPc := hP.sub (ws' := (wm y b1 b2 b3 b4 b5 b6 b7 b8 b9 b10 cI cJ cZ th nD nR vs mac now o mt mw zs.length nv dl ec rt rv mk)) [8, 9, 10, 11, 12, 13, 14, 15, 16, 17, 18] rfl
    have hDc := hD.sub (ws' := (wm y b1 b2 b3 b4 b5 b6 b7 b8 b9 b10 cI cJ cZ th nD nR vs mac now o mt mw zs.length nv dl ec rt rv mk)) [8, 9, 10, 11, 12, 13, 14, 15, 16, 17, 18] (by decide) rfl
    have hFc := va_free (wc := (wm y b1 b2 b3 b4 b5 b6 b7 b8 b9 b10 cI cJ cZ th nD nR vs mac now o mt mw zs.length nv dl ec rt rv mk)) hD hS hA [8, 9, 10, 11, 12, 13, 14, 15, 16, 17, 18] rfl
    refine va_calll (va_runV (As := [.int (nI d), .long t]) (rest := []) ⟨hx, hb, hml, hown, hall⟩ (m_projected2 l dC dI y b1 b2 b3 b4 b5 b6 b7 b8 b9 b10 cI cJ cZ th nD nR vs mac now o mt mw nv dl ec rt rv mk zs H.size hIm hZ d hd t c2) (cwV 2 hall gL_111 rfl rfl rfl (by decide +kernel) ⟨Nat.le_of_ble_eq_true rfl, Nat.le_of_ble_eq_true rfl⟩) ⟨xu_blind, va_recv hK hPc (ci := 1) (q0 := 0) rfl rfl, fun U hU hW => ⟨rfl, by rw [hU], by rw [hU]; exact hPc, va_K.moved hW.alike hK, hDc.weaken (fun _ _ _ _ => trivial)⟩⟩ rfl rfl hl.1 rfl (lv_room (Nat.le_of_ble_eq_true rfl)) dL_law_872 ⟨by show _ ≤ 601024; omega, by show _ ≤ 7293000; omega⟩) hS (fun q _ h => hFc q h) hFc (fun v_2 u9 t9 H1 locs ht hvm hw hB hz1 hk1 hS => ?_)
    obtain ⟨hP1, hK1, hD1⟩ := hB
    rw [ht] at hP1
    obtain ⟨hP, hD⟩ := va_join (wr := (wr x a1 a2 a3 a4 a5 a6 a7 cI cJ nD nR dv r cap ti va ev ed ec ad ac now) ++ [(q, .inl (cJ, 1, .inr (.inl ou)))]) (w1 := (wm y b1 b2 b3 b4 b5 b6 b7 b8 b9 b10 cI cJ cZ 2 nD nR vs mac now o mt mw zs.length nv dl ec rt rv mk)) hP hD [8, 9, 10, 11, 12, 13, 14, 15, 16, 17, 18] [0, 1, 2, 3, 4, 5, 6, 7, 19] rfl rfl (by decide) (by decide) hk1 hFc hP1 hD1
    generalize H1 = H at hP hS ⊢
    have hP := hP.sub (ws' := (wlw x a1 a2 a3 a4 a5 a6 a7 y b1 b2 b3 b4 b5 b6 b7 b8 b9 b10 q cI cJ cZ nD nR dv r cap ti va ev ed ec ad ac now 2 vs mac now o mt mw zs.length nv dl ec rt rv mk ou)) [0, 1, 2, 3, 4, 5, 6, 7, 9, 10, 11, 12, 13, 14, 15, 16, 17, 18, 19, 8] rfl
    have hD := hD.sub (ws' := (wlw x a1 a2 a3 a4 a5 a6 a7 y b1 b2 b3 b4 b5 b6 b7 b8 b9 b10 q cI cJ cZ nD nR dv r cap ti va ev ed ec ad ac now 2 vs mac now o mt mw zs.length nv dl ec rt rv mk ou)) [0, 1, 2, 3, 4, 5, 6, 7, 9, 10, 11, 12, 13, 14, 15, 16, 17, 18, 19, 8] (by decide) rfl
    refine lv_lstore (lv' := [(6, .long v_2), (5, .int (nI 2)), (0, .ref b), (1, .ref x), (2, .ref y), (3, .ref q), (4, .int (nI i))]) hx hb dL_law_875 hl (by decide) rfl (fun ls hl => ?_)
    refine lv_aload_n hx hb dL_law_877 rfl (lv_at hl 4 rfl) ?_
    have hPc := hP.sub (ws' := (wm y b1 b2 b3 b4 b5 b6 b7 b8 b9 b10 cI cJ cZ 2 nD nR vs mac now o mt mw zs.length nv dl ec rt rv mk)) [8, 9, 10, 11, 12, 13, 14, 15, 16, 17, 18] rfl
    refine vp_callSi (W.runV (As := []) (rest := []) ⟨hx, hb, hml, hown, hall⟩ (m_thrown l dC dI y b1 b2 b3 b4 b5 b6 b7 b8 b9 b10 cI cJ cZ 2 nD nR vs mac now o mt mw nv dl ec rt rv mk zs) (cwV 0 hall gL_65 rfl rfl rfl (by decide +kernel) ⟨Nat.le_of_ble_eq_true rfl, Nat.le_of_ble_eq_true rfl⟩) ⟨xr_blind, va_recv hK hPc (ci := 1) (q0 := 0) rfl rfl, fun U hU hW => ⟨rfl, by rw [hU]; exact hPc, va_K.moved hW.alike hK⟩⟩ rfl rfl hl.1 rfl (lv_room (Nat.le_of_ble_eq_true rfl)) dL_law_878 ⟨by show _ ≤ 601024; omega, by show _ ≤ 7293000; omega⟩) (fun v_3 hv_4 => ?_)
    obtain rfl : v_3 = nI 2 := hv_4
    refine lv_iload hx hb dL_law_881 (lv_at hl 1 rfl) ?_
    refine lv_icmp_eq (tgt := 888) hx hb dL_law_883 (by decide) (fun c_5 => ?_) (fun c_5 => ?_)
    · refine lv_iload hx hb dL_law_888 (lv_at hl 1 rfl) ?_
      refine lv_if_ne (tgt := 904) hx hb dL_law_890 (by decide) (fun c_6 => ?_) (fun c_6 => ?_)
      · refine lv_goto (tgt := 920) hx hb dL_law_904 (by decide) ?_
        refine W.widen (k := 20 + 2 * i + 2) (n := 70000 + 6 * i + 6 + G) (by omega) (by omega) ?_
        exact KK a3 a4 dv r cap ti va ev ed ec ad ac now 2 vs mac o mt mw zs nv dl rt rv mk ou G H locs hR hZ hG hP hD hS ls (lv_sub hl [2, 3, 4, 5, 6] rfl)
      · exact absurd c_6 (by decide)
    · exact absurd rfl c_5
  · refine lv_aload_n hx hb dL_law_808 rfl (lv_at hl 1 rfl) ?_
    refine lv_aload_n hx hb dL_law_809 rfl (lv_at hl 0 rfl) ?_
    refine lv_iload hx hb dL_law_810 (lv_at hl 4 rfl) ?_
    refine lv_iconst (v := 1) hx hb dL_law_812 (by decide) ?_
    refine lv_iadd hx hb dL_law_813 ?_
    refine tp_i (y := nI (i + 1)) (nI_add i 1) ?_
    refine va_sld hx hb hX hbl hbA hS (vp_in_nI (show i + 1 < L by omega) (by omega)) dL_law_814 ?_
    refine tp_i (y := nI d) (by rw [nI_clamp (by omega)]; exact E_d0.symm) ?_
    refine lv_aload_n hx hb dL_law_815 rfl (lv_at hl 0 rfl) ?_
    refine lv_iload hx hb dL_law_816 (lv_at hl 4 rfl) ?_
    refine lv_iconst (v := 2) hx hb dL_law_818 (by decide) ?_
    refine lv_iadd hx hb dL_law_819 ?_
    refine tp_i (y := nI (i + 2)) (nI_add i 2) ?_
    refine va_sld hx hb hX hbl hbA hS (vp_in_nI (show i + 2 < L by omega) (by omega)) dL_law_820 ?_
    refine tp_i (y := xs (i + 2)) (by rw [nI_clamp (by omega)]) ?_
    refine lv_i2l hx hb dL_law_821 rfl ?_
    refine lv_bipush (v := 32) hx hb dL_law_822 (by decide) ?_
    refine lv_lshl hx hb dL_law_824 rfl ?_
    refine lv_aload_n hx hb dL_law_825 rfl (lv_at hl 0 rfl) ?_
    refine lv_iload hx hb dL_law_826 (lv_at hl 4 rfl) ?_
    refine lv_iconst (v := 3) hx hb dL_law_828 (by decide) ?_
    refine lv_iadd hx hb dL_law_829 ?_
    refine tp_i (y := nI (i + 3)) (nI_add i 3) ?_
    refine va_sld hx hb hX hbl hbA hS (vp_in_nI (show i + 3 < L by omega) (by omega)) dL_law_830 ?_
    refine tp_i (y := xs (i + 3)) (by rw [nI_clamp (by omega)]) ?_
    refine lv_i2l hx hb dL_law_831 rfl ?_
    refine lv_ldc2 (v := 4294967295) hx hb hown (hall _ kw_447) dL_law_832 ?_
    refine lv_land hx hb dL_law_835 ?_
    refine lv_lor hx hb dL_law_836 ?_
    refine tp_l (y := t) E_t.symm ?_
    refine lv_aload_n hx hb dL_law_837 rfl (lv_at hl 3 rfl) ?_
    have hPc := hP.sub (ws' := (wr x a1 a2 a3 a4 a5 a6 a7 cI cJ nD nR dv r cap ti va ev ed ec ad ac now) ++ [(q, .inl (cJ, 1, .inr (.inl ou)))]) [0, 1, 2, 3, 4, 5, 6, 7, 19] rfl
    have hDc := hD.sub (ws' := (wr x a1 a2 a3 a4 a5 a6 a7 cI cJ nD nR dv r cap ti va ev ed ec ad ac now) ++ [(q, .inl (cJ, 1, .inr (.inl ou)))]) [0, 1, 2, 3, 4, 5, 6, 7, 19] (by decide) rfl
    have hKc := hK.sub (tys' := [(cI, .int), (cJ, .long)]) [0, 1] rfl
    have hFc := va_free (wc := (wr x a1 a2 a3 a4 a5 a6 a7 cI cJ nD nR dv r cap ti va ev ed ec ad ac now) ++ [(q, .inl (cJ, 1, .inr (.inl ou)))]) hD hS hA [0, 1, 2, 3, 4, 5, 6, 7, 19] rfl
    refine va_calli (xt_runSW (n := 4) (As := [.ref x, .int (nI d), .long t, .ref q]) (rest := []) ⟨hx, hb, hml, hown, hall⟩ (h_projected0 l dC dI x a1 a2 a3 a4 a5 a6 a7 cI cJ nD nR dv r cap ti va ev ed ec ad ac now q ou H.size hI d t hd c2) gL_109 rfl rfl rfl (by decide +kernel) ⟨Nat.le_of_ble_eq_true rfl, Nat.le_of_ble_eq_true rfl⟩ ⟨xu_blind, fun U hU hW => ⟨rfl, by rw [hU], by rw [hU]; exact hPc, va_K.moved hW.alike hKc, hDc.weaken (fun _ _ _ _ => trivial)⟩⟩ rfl rfl hl.1 rfl (lv_room (Nat.le_of_ble_eq_true rfl)) dL_law_838 ⟨by show _ ≤ 601024; omega, by show _ ≤ 7293000; omega⟩) hS (fun q _ h => hFc q h) hFc (fun v_1 u t9 H1 locs ht hvm hw hB hz1 hk1 hS => ?_)
    obtain ⟨hP1, hK1, hD1⟩ := hB
    rw [ht] at hP1
    obtain ⟨hP, hD⟩ := va_join (wr := (wm y b1 b2 b3 b4 b5 b6 b7 b8 b9 b10 cI cJ cZ th nD nR vs mac now o mt mw zs.length nv dl ec rt rv mk)) (w1 := (wr x a1 a2 a3 a4 a5 a6 a7 cI cJ nD nR dv r cap ti va ev ed ec ad ac now) ++ [(q, .inl (cJ, 1, .inr (.inl (vp_updL ou 0 (if wf_fb ti t (r (d + 1) - r d) (r d) ≤ r d then dv d else va (wf_fb ti t (r (d + 1) - r d) (r d) - 1))))))]) hP hD [0, 1, 2, 3, 4, 5, 6, 7, 19] [8, 9, 10, 11, 12, 13, 14, 15, 16, 17, 18] rfl rfl (by decide) (by decide) hk1 hFc hP1 hD1
    generalize H1 = H at hP hS ⊢
    have hP := hP.sub (ws' := (wlw x a1 a2 a3 a4 a5 a6 a7 y b1 b2 b3 b4 b5 b6 b7 b8 b9 b10 q cI cJ cZ nD nR dv r cap ti va ev ed ec ad ac now th vs mac now o mt mw zs.length nv dl ec rt rv mk (vp_updL ou 0 (if wf_fb ti t (r (d + 1) - r d) (r d) ≤ r d then dv d else va (wf_fb ti t (r (d + 1) - r d) (r d) - 1))))) [11, 12, 13, 14, 15, 16, 17, 18, 0, 1, 2, 3, 4, 5, 6, 7, 8, 9, 10, 19] rfl
    have hD := hD.sub (ws' := (wlw x a1 a2 a3 a4 a5 a6 a7 y b1 b2 b3 b4 b5 b6 b7 b8 b9 b10 q cI cJ cZ nD nR dv r cap ti va ev ed ec ad ac now th vs mac now o mt mw zs.length nv dl ec rt rv mk (vp_updL ou 0 (if wf_fb ti t (r (d + 1) - r d) (r d) ≤ r d then dv d else va (wf_fb ti t (r (d + 1) - r d) (r d) - 1))))) [11, 12, 13, 14, 15, 16, 17, 18, 0, 1, 2, 3, 4, 5, 6, 7, 8, 9, 10, 19] (by decide) rfl
    obtain rfl : v_1 = 0 := hw
    refine tp_i (y := nI 0) nI_0.symm ?_
    refine lv_istore (lv' := [(5, .int (nI 0)), (0, .ref b), (1, .ref x), (2, .ref y), (3, .ref q), (4, .int (nI i))]) hx hb dL_law_841 hl (by decide) rfl (fun ls hl => ?_)
    refine lv_aload_n hx hb dL_law_843 rfl (lv_at hl 3 rfl) ?_
    refine lv_aload_n hx hb dL_law_844 rfl (lv_at hl 1 rfl) ?_
    refine lv_iload hx hb dL_law_845 (lv_at hl 5 rfl) ?_
    refine lv_iconst (v := 1) hx hb dL_law_847 (by decide) ?_
    refine lv_iadd hx hb dL_law_848 ?_
    refine tp_i (y := nI (i + 1)) (nI_add i 1) ?_
    refine va_sld hx hb hX hbl hbA hS (vp_in_nI (show i + 1 < L by omega) (by omega)) dL_law_849 ?_
    refine tp_i (y := nI d) (by rw [nI_clamp (by omega)]; exact E_d0.symm) ?_
    refine lv_aload_n hx hb dL_law_850 rfl (lv_at hl 1 rfl) ?_
    refine lv_iload hx hb dL_law_851 (lv_at hl 5 rfl) ?_
    refine lv_iconst (v := 2) hx hb dL_law_853 (by decide) ?_
    refine lv_iadd hx hb dL_law_854 ?_
    refine tp_i (y := nI (i + 2)) (nI_add i 2) ?_
    refine va_sld hx hb hX hbl hbA hS (vp_in_nI (show i + 2 < L by omega) (by omega)) dL_law_855 ?_
    refine tp_i (y := xs (i + 2)) (by rw [nI_clamp (by omega)]) ?_
    refine lv_i2l hx hb dL_law_856 rfl ?_
    refine lv_bipush (v := 32) hx hb dL_law_857 (by decide) ?_
    refine lv_lshl hx hb dL_law_859 rfl ?_
    refine lv_aload_n hx hb dL_law_860 rfl (lv_at hl 1 rfl) ?_
    refine lv_iload hx hb dL_law_861 (lv_at hl 5 rfl) ?_
    refine lv_iconst (v := 3) hx hb dL_law_863 (by decide) ?_
    refine lv_iadd hx hb dL_law_864 ?_
    refine tp_i (y := nI (i + 3)) (nI_add i 3) ?_
    refine va_sld hx hb hX hbl hbA hS (vp_in_nI (show i + 3 < L by omega) (by omega)) dL_law_865 ?_
    refine tp_i (y := xs (i + 3)) (by rw [nI_clamp (by omega)]) ?_
    refine lv_i2l hx hb dL_law_866 rfl ?_
    refine lv_ldc2 (v := 4294967295) hx hb hown (hall _ kw_447) dL_law_867 ?_
    refine lv_land hx hb dL_law_870 ?_
    refine lv_lor hx hb dL_law_871 ?_
    refine tp_l (y := t) E_t.symm ?_
    have hPc := hP.sub (ws' := (wm y b1 b2 b3 b4 b5 b6 b7 b8 b9 b10 cI cJ cZ th nD nR vs mac now o mt mw zs.length nv dl ec rt rv mk)) [8, 9, 10, 11, 12, 13, 14, 15, 16, 17, 18] rfl
    have hDc := hD.sub (ws' := (wm y b1 b2 b3 b4 b5 b6 b7 b8 b9 b10 cI cJ cZ th nD nR vs mac now o mt mw zs.length nv dl ec rt rv mk)) [8, 9, 10, 11, 12, 13, 14, 15, 16, 17, 18] (by decide) rfl
    have hFc := va_free (wc := (wm y b1 b2 b3 b4 b5 b6 b7 b8 b9 b10 cI cJ cZ th nD nR vs mac now o mt mw zs.length nv dl ec rt rv mk)) hD hS hA [8, 9, 10, 11, 12, 13, 14, 15, 16, 17, 18] rfl
    refine va_calll (va_runV (As := [.int (nI d), .long t]) (rest := []) ⟨hx, hb, hml, hown, hall⟩ (m_projected0 l dC dI y b1 b2 b3 b4 b5 b6 b7 b8 b9 b10 cI cJ cZ th nD nR vs mac now o mt mw nv dl ec rt rv mk zs H.size hIm hZ d hd t c2) (cwV 2 hall gL_111 rfl rfl rfl (by decide +kernel) ⟨Nat.le_of_ble_eq_true rfl, Nat.le_of_ble_eq_true rfl⟩) ⟨xu_blind, va_recv hK hPc (ci := 1) (q0 := 0) rfl rfl, fun U hU hW => ⟨rfl, by rw [hU], by rw [hU]; exact hPc, va_K.moved hW.alike hK, hDc.weaken (fun _ _ _ _ => trivial)⟩⟩ rfl rfl hl.1 rfl (lv_room (Nat.le_of_ble_eq_true rfl)) dL_law_872 ⟨by show _ ≤ 601024; omega, by show _ ≤ 7293000; omega⟩) hS (fun q _ h => hFc q h) hFc (fun v_2 u9 t9 H1 locs ht hvm hw hB hz1 hk1 hS => ?_)
    obtain ⟨hP1, hK1, hD1⟩ := hB
    rw [ht] at hP1
    obtain ⟨hP, hD⟩ := va_join (wr := (wr x a1 a2 a3 a4 a5 a6 a7 cI cJ nD nR dv r cap ti va ev ed ec ad ac now) ++ [(q, .inl (cJ, 1, .inr (.inl (vp_updL ou 0 (if wf_fb ti t (r (d + 1) - r d) (r d) ≤ r d then dv d else va (wf_fb ti t (r (d + 1) - r d) (r d) - 1))))))]) (w1 := (wm y b1 b2 b3 b4 b5 b6 b7 b8 b9 b10 cI cJ cZ 0 nD nR vs mac now o mt mw zs.length nv dl ec rt rv mk)) hP hD [8, 9, 10, 11, 12, 13, 14, 15, 16, 17, 18] [0, 1, 2, 3, 4, 5, 6, 7, 19] rfl rfl (by decide) (by decide) hk1 hFc hP1 hD1
    generalize H1 = H at hP hS ⊢
    have hP := hP.sub (ws' := (wlw x a1 a2 a3 a4 a5 a6 a7 y b1 b2 b3 b4 b5 b6 b7 b8 b9 b10 q cI cJ cZ nD nR dv r cap ti va ev ed ec ad ac now 0 vs mac now o mt mw zs.length nv dl ec rt rv mk (vp_updL ou 0 (if wf_fb ti t (r (d + 1) - r d) (r d) ≤ r d then dv d else va (wf_fb ti t (r (d + 1) - r d) (r d) - 1))))) [0, 1, 2, 3, 4, 5, 6, 7, 9, 10, 11, 12, 13, 14, 15, 16, 17, 18, 19, 8] rfl
    have hD := hD.sub (ws' := (wlw x a1 a2 a3 a4 a5 a6 a7 y b1 b2 b3 b4 b5 b6 b7 b8 b9 b10 q cI cJ cZ nD nR dv r cap ti va ev ed ec ad ac now 0 vs mac now o mt mw zs.length nv dl ec rt rv mk (vp_updL ou 0 (if wf_fb ti t (r (d + 1) - r d) (r d) ≤ r d then dv d else va (wf_fb ti t (r (d + 1) - r d) (r d) - 1))))) [0, 1, 2, 3, 4, 5, 6, 7, 9, 10, 11, 12, 13, 14, 15, 16, 17, 18, 19, 8] (by decide) rfl
    refine tp_l (y := if wf_fb ti t (r (d + 1) - r d) (r d) ≤ r d then dv d else va (wf_fb ti t (r (d + 1) - r d) (r d) - 1)) (hw.trans (wrel_proj hR hd t)) ?_
    refine lv_lstore (lv' := [(6, .long (if wf_fb ti t (r (d + 1) - r d) (r d) ≤ r d then dv d else va (wf_fb ti t (r (d + 1) - r d) (r d) - 1))), (5, .int (nI 0)), (0, .ref b), (1, .ref x), (2, .ref y), (3, .ref q), (4, .int (nI i))]) hx hb dL_law_875 hl (by decide) rfl (fun ls hl => ?_)
    refine lv_aload_n hx hb dL_law_877 rfl (lv_at hl 4 rfl) ?_
    have hPc := hP.sub (ws' := (wm y b1 b2 b3 b4 b5 b6 b7 b8 b9 b10 cI cJ cZ 0 nD nR vs mac now o mt mw zs.length nv dl ec rt rv mk)) [8, 9, 10, 11, 12, 13, 14, 15, 16, 17, 18] rfl
    refine vp_callSi (W.runV (As := []) (rest := []) ⟨hx, hb, hml, hown, hall⟩ (m_thrown l dC dI y b1 b2 b3 b4 b5 b6 b7 b8 b9 b10 cI cJ cZ 0 nD nR vs mac now o mt mw nv dl ec rt rv mk zs) (cwV 0 hall gL_65 rfl rfl rfl (by decide +kernel) ⟨Nat.le_of_ble_eq_true rfl, Nat.le_of_ble_eq_true rfl⟩) ⟨xr_blind, va_recv hK hPc (ci := 1) (q0 := 0) rfl rfl, fun U hU hW => ⟨rfl, by rw [hU]; exact hPc, va_K.moved hW.alike hK⟩⟩ rfl rfl hl.1 rfl (lv_room (Nat.le_of_ble_eq_true rfl)) dL_law_878 ⟨by show _ ≤ 601024; omega, by show _ ≤ 7293000; omega⟩) (fun v_3 hv_4 => ?_)
    obtain rfl : v_3 = nI 0 := hv_4
    refine lv_iload hx hb dL_law_881 (lv_at hl 1 rfl) ?_
    refine lv_icmp_eq (tgt := 888) hx hb dL_law_883 (by decide) (fun c_5 => ?_) (fun c_5 => ?_)
    · refine lv_iload hx hb dL_law_888 (lv_at hl 1 rfl) ?_
      refine lv_if_ne (tgt := 904) hx hb dL_law_890 (by decide) (fun c_6 => ?_) (fun c_6 => ?_)
      · exact absurd nI_0 c_6
      · refine lv_aload_n hx hb dL_law_893 rfl (lv_at hl 5 rfl) ?_
        refine lv_iconst (v := 0) hx hb dL_law_894 (by decide) ?_
        refine tp_i (y := nI 0) nI_0.symm ?_
        refine xa_lald hx hb hK hP 19 1 rfl rfl (Nat.lt_succ_self 0) (by omega) dL_law_895 ?_
        refine tp_l (y := if wf_fb ti t (r (d + 1) - r d) (r d) ≤ r d then dv d else va (wf_fb ti t (r (d + 1) - r d) (r d) - 1)) pk_uLs ?_
        refine lv_lload hx hb dL_law_896 (lv_at hl 0 rfl) ?_
        refine xl_eq (tgt := 904) hx hb dL_law_898 dL_law_899 (by decide) (fun c_7 => ?_) (fun c_7 => ?_)
        · refine lv_goto (tgt := 920) hx hb dL_law_904 (by decide) ?_
          refine W.widen (k := 20 + 2 * i + 2) (n := 70000 + 6 * i + 6 + G) (by omega) (by omega) ?_
          exact KK a3 a4 dv r cap ti va ev ed ec ad ac now 0 vs mac o mt mw zs nv dl rt rv mk (vp_updL ou 0 (if wf_fb ti t (r (d + 1) - r d) (r d) ≤ r d then dv d else va (wf_fb ti t (r (d + 1) - r d) (r d) - 1))) G H locs hR hZ hG hP hD hS ls (lv_sub hl [2, 3, 4, 5, 6] rfl)
        · exact absurd rfl c_7
    · exact absurd rfl c_5
