set_option maxHeartbeats 8000000 in
set_option maxRecDepth 100000 in
theorem l_assign {p : Program} {l : Launch} {e : Env} {s : State} {m : MethodId} {below : List Frame} {meth : Method} {c : Code} {dC : Nat → ClassId} {dI : Nat → Nat → Nat} {b L : Nat} {xs : Nat → Int32} (hst : l.stackTraces = false) (hL : L ≤ 2562) (C0 : lw_At p s m meth c b L xs) (hok : xt_ok s) (hnk : xt_nk s) {x a1 a2 a5 a6 a7 y b1 b2 b3 b4 b5 b6 b7 b8 b9 b10 q : Nat} {cI cJ cZ : ClassId} {nD nR : Nat} (hK : va_K (dC, dI) vwCl [(cI, .int), (cJ, .long), (cZ, .boolean)] s) (i : Nat) (hi : i + 5 ≤ L) (KK : lwK p l e s m below meth c dC dI b x a1 a2 a5 a6 a7 y b1 b2 b3 b4 b5 b6 b7 b8 b9 b10 q cI cJ cZ nD nR i) (a3 a4 : Nat) (dv : Nat → Int64) (r : Nat → Nat) (cap : Nat) (ti va ev ed : Nat → Int64) (ec : Nat) (ad : Nat → Int32) (ac : Nat) (now : Int64) (th : Nat) (vs : Nat → Int64) (mac : Nat → Bool) (o : Nat → Nat) (mt mw : Nat → Int64) (zs : List ZT) (nv dl : Nat → Int64) (rt rv : Nat → Int64) (mk : Nat → Bool) (ou : Nat → Int64) (G : Nat) (H : Heap) (locs : List Loc) (hR : wrel nD nR cap ec ac dv r ti va ev ed ad now vs mac zs nv dl) (hZ : wz zs o mt mw) (hG : G ≤ 4 * cap ∨ cap = nR ∧ G ≤ 6 * nR) (hP : va_P (dC, dI) vwCl (wlw x a1 a2 a3 a4 a5 a6 a7 y b1 b2 b3 b4 b5 b6 b7 b8 b9 b10 q cI cJ cZ nD nR dv r cap ti va ev ed ec ad ac now th vs mac now o mt mw zs.length nv dl ec rt rv mk ou) H) (hD : va_D (fun z : Nat => s.heap.size ≤ z) (wlw x a1 a2 a3 a4 a5 a6 a7 y b1 b2 b3 b4 b5 b6 b7 b8 b9 b10 q cI cJ cZ nD nR dv r cap ti va ev ed ec ad ac now th vs mac now o mt mw zs.length nv dl ec rt rv mk ou)) (hS : va_S (fun z : Nat => s.heap.size ≤ z) s.heap H locs) (ls : Array Slot) (hl : lv_has ls 8 [(0, .ref b), (1, .ref x), (2, .ref y), (3, .ref q), (4, .int (nI i))]) : W p l e room_1 s m #[Value.ref b] below meth c H locs (20 + 2 * i) (70000 + 6 * i + G) (lw_Z below #[Value.ref b] s) (F0 m 249 ls []) := by
  obtain ⟨hx, hb, hr, hml, hown, hts, hX, hbl, hlocks, hgv⟩ := C0
  have hA : ∀ z : Nat, s.heap.size ≤ z → (fun z : Nat => s.heap.size ≤ z) z := fun _ h => h
  have hbA : ¬ (fun z : Nat => s.heap.size ≤ z) b := Nat.not_le.mpr hbl
  have hall : ∀ w ∈ allw, w.before #[Value.ref b] s = true := fun w h => hts w (List.mem_filter.mp h).1
  have hown : s.vm.findClass RL = some m.cls := hown
  have hI := hR.1
  have hIm := wrel_I hR
  obtain ⟨hnD1, hnD, hnR1, hnR, hcap, hrc, hrR, hr0, hmo, hec, hac⟩ := id hR.1
  have hG6 : G ≤ 49152 := by omega
  obtain ⟨d0, E_d0⟩ : ∃ z : Int32, z = xs (i + 1) := ⟨_, rfl⟩
  obtain ⟨mo, E_mo⟩ : ∃ z : Int32, z = xs (i + 2) := ⟨_, rfl⟩
  obtain ⟨t, E_t⟩ : ∃ z : Int64, z = (xs (i + 3)).toInt64 <<< ((32 : Int32).toInt64 &&& 63) ||| (xs (i + 4)).toInt64 &&& 4294967295 := ⟨_, rfl⟩
  by_cases c1 : d0 < 0 ∨ nI nD ≤ d0
  · refine lv_aload_n hx hb dL_law_249 rfl (lv_at hl 1 rfl) ?_
    refine lv_aload_n hx hb dL_law_250 rfl (lv_at hl 0 rfl) ?_
    refine lv_iload hx hb dL_law_251 (lv_at hl 4 rfl) ?_
    refine lv_iconst (v := 1) hx hb dL_law_253 (by decide) ?_
    refine lv_iadd hx hb dL_law_254 ?_
    refine tp_i (y := nI (i + 1)) (nI_add i 1) ?_
    refine va_sld hx hb hX hbl hbA hS (vp_in_nI (show i + 1 < L by omega) (by omega)) dL_law_255 ?_
    refine tp_i (y := d0) (by rw [nI_clamp (by omega)]; exact E_d0.symm) ?_
    refine lv_aload_n hx hb dL_law_256 rfl (lv_at hl 0 rfl) ?_
    refine lv_iload hx hb dL_law_257 (lv_at hl 4 rfl) ?_
    refine lv_iconst (v := 2) hx hb dL_law_259 (by decide) ?_
    refine lv_iadd hx hb dL_law_260 ?_
    refine tp_i (y := nI (i + 2)) (nI_add i 2) ?_
    refine va_sld hx hb hX hbl hbA hS (vp_in_nI (show i + 2 < L by omega) (by omega)) dL_law_261 ?_
    refine tp_i (y := mo) (by rw [nI_clamp (by omega)]; exact E_mo.symm) ?_
    refine lv_aload_n hx hb dL_law_262 rfl (lv_at hl 0 rfl) ?_
    refine lv_iload hx hb dL_law_263 (lv_at hl 4 rfl) ?_
    refine lv_iconst (v := 3) hx hb dL_law_265 (by decide) ?_
    refine lv_iadd hx hb dL_law_266 ?_
    refine tp_i (y := nI (i + 3)) (nI_add i 3) ?_
    refine va_sld hx hb hX hbl hbA hS (vp_in_nI (show i + 3 < L by omega) (by omega)) dL_law_267 ?_
    refine tp_i (y := xs (i + 3)) (by rw [nI_clamp (by omega)]) ?_
    refine lv_i2l hx hb dL_law_268 rfl ?_
    refine lv_bipush (v := 32) hx hb dL_law_269 (by decide) ?_
    refine lv_lshl hx hb dL_law_271 rfl ?_
    refine lv_aload_n hx hb dL_law_272 rfl (lv_at hl 0 rfl) ?_
    refine lv_iload hx hb dL_law_273 (lv_at hl 4 rfl) ?_
    refine lv_iconst (v := 4) hx hb dL_law_275 (by decide) ?_
    refine lv_iadd hx hb dL_law_276 ?_
    refine tp_i (y := nI (i + 4)) (nI_add i 4) ?_
    refine va_sld hx hb hX hbl hbA hS (vp_in_nI (show i + 4 < L by omega) (by omega)) dL_law_277 ?_
    refine tp_i (y := xs (i + 4)) (by rw [nI_clamp (by omega)]) ?_
    refine lv_i2l hx hb dL_law_278 rfl ?_
    refine lv_ldc2 (v := 4294967295) hx hb hown (hall _ kw_447) dL_law_279 ?_
    refine lv_land hx hb dL_law_282 ?_
    refine lv_lor hx hb dL_law_283 ?_
    refine tp_l (y := t) E_t.symm ?_
    refine lv_aload_n hx hb dL_law_284 rfl (lv_at hl 3 rfl) ?_
    have hPc := hP.sub (ws' := (wr x a1 a2 a3 a4 a5 a6 a7 cI cJ nD nR dv r cap ti va ev ed ec ad ac now)) [0, 1, 2, 3, 4, 5, 6, 7] rfl
    have hDc := hD.sub (ws' := (wr x a1 a2 a3 a4 a5 a6 a7 cI cJ nD nR dv r cap ti va ev ed ec ad ac now)) [0, 1, 2, 3, 4, 5, 6, 7] (by decide) rfl
    have hKc := hK.sub (tys' := [(cI, .int), (cJ, .long)]) [0, 1] rfl
    have hFc := va_free (wc := (wr x a1 a2 a3 a4 a5 a6 a7 cI cJ nD nR dv r cap ti va ev ed ec ad ac now)) hD hS hA [0, 1, 2, 3, 4, 5, 6, 7] rfl
    refine va_calli (xt_runSW (n := 5) (As := [.ref x, .int d0, .int mo, .long t, .ref q]) (rest := []) ⟨hx, hb, hml, hown, hall⟩ (h_assign1 l dC dI x a1 a2 a3 a4 a5 a6 a7 cI cJ nD nR dv r cap ti va ev ed ec ad ac now hst q H.size d0 c1 mo t) gL_73 rfl rfl rfl (by decide +kernel) ⟨Nat.le_of_ble_eq_true rfl, Nat.le_of_ble_eq_true rfl⟩ ⟨xh_blind, fun U hU hW => ⟨rfl, by rw [hU], by rw [hU]; exact hPc, va_K.moved hW.alike hKc, hDc.weaken (fun _ _ _ _ => trivial), xt_move hW (fun z hz => by rw [hU]; exact hS.2.1 z hz (Nat.not_le.mpr hz)) hok, xt_nk_move hW.alike hnk⟩⟩ rfl rfl hl.1 rfl (lv_room (Nat.le_of_ble_eq_true rfl)) dL_law_285 ⟨by show _ ≤ 601024; omega, by show _ ≤ 7293000; omega⟩) hS (fun q _ h => hFc q h) hFc (fun v_1 u t9 H1 locs ht hvm hw hB hz1 hk1 hS => ?_)
    obtain ⟨hP1, hK1, hD1⟩ := hB
    rw [ht] at hP1
    obtain ⟨hP, hD⟩ := va_join (wr := (wm y b1 b2 b3 b4 b5 b6 b7 b8 b9 b10 cI cJ cZ th nD nR vs mac now o mt mw zs.length nv dl ec rt rv mk) ++ [(q, .inl (cJ, 1, .inr (.inl ou)))]) (w1 := (wr x a1 a2 a3 a4 a5 a6 a7 cI cJ nD nR dv r cap ti va ev ed ec ad ac now)) hP hD [0, 1, 2, 3, 4, 5, 6, 7] [8, 9, 10, 11, 12, 13, 14, 15, 16, 17, 18, 19] rfl rfl (by decide) (by decide) hk1 hFc hP1 hD1
    generalize H1 = H at hP hS ⊢
    have hP := hP.sub (ws' := (wlw x a1 a2 a3 a4 a5 a6 a7 y b1 b2 b3 b4 b5 b6 b7 b8 b9 b10 q cI cJ cZ nD nR dv r cap ti va ev ed ec ad ac now th vs mac now o mt mw zs.length nv dl ec rt rv mk ou)) [12, 13, 14, 15, 16, 17, 18, 19, 0, 1, 2, 3, 4, 5, 6, 7, 8, 9, 10, 11] rfl
    have hD := hD.sub (ws' := (wlw x a1 a2 a3 a4 a5 a6 a7 y b1 b2 b3 b4 b5 b6 b7 b8 b9 b10 q cI cJ cZ nD nR dv r cap ti va ev ed ec ad ac now th vs mac now o mt mw zs.length nv dl ec rt rv mk ou)) [12, 13, 14, 15, 16, 17, 18, 19, 0, 1, 2, 3, 4, 5, 6, 7, 8, 9, 10, 11] (by decide) rfl
    obtain rfl : v_1 = nI 1 := hw
    refine lv_istore (lv' := [(5, .int (nI 1)), (0, .ref b), (1, .ref x), (2, .ref y), (3, .ref q), (4, .int (nI i))]) hx hb dL_law_288 hl (by decide) rfl (fun ls hl => ?_)
    refine lv_aload_n hx hb dL_law_290 rfl (lv_at hl 3 rfl) ?_
    refine lv_aload_n hx hb dL_law_291 rfl (lv_at hl 1 rfl) ?_
    refine lv_iload hx hb dL_law_292 (lv_at hl 5 rfl) ?_
    refine lv_iconst (v := 1) hx hb dL_law_294 (by decide) ?_
    refine lv_iadd hx hb dL_law_295 ?_
    refine tp_i (y := nI (i + 1)) (nI_add i 1) ?_
    refine va_sld hx hb hX hbl hbA hS (vp_in_nI (show i + 1 < L by omega) (by omega)) dL_law_296 ?_
    refine tp_i (y := d0) (by rw [nI_clamp (by omega)]; exact E_d0.symm) ?_
    refine lv_aload_n hx hb dL_law_297 rfl (lv_at hl 1 rfl) ?_
    refine lv_iload hx hb dL_law_298 (lv_at hl 5 rfl) ?_
    refine lv_iconst (v := 2) hx hb dL_law_300 (by decide) ?_
    refine lv_iadd hx hb dL_law_301 ?_
    refine tp_i (y := nI (i + 2)) (nI_add i 2) ?_
    refine va_sld hx hb hX hbl hbA hS (vp_in_nI (show i + 2 < L by omega) (by omega)) dL_law_302 ?_
    refine tp_i (y := mo) (by rw [nI_clamp (by omega)]; exact E_mo.symm) ?_
    refine lv_aload_n hx hb dL_law_303 rfl (lv_at hl 1 rfl) ?_
    refine lv_iload hx hb dL_law_304 (lv_at hl 5 rfl) ?_
    refine lv_iconst (v := 3) hx hb dL_law_306 (by decide) ?_
    refine lv_iadd hx hb dL_law_307 ?_
    refine tp_i (y := nI (i + 3)) (nI_add i 3) ?_
    refine va_sld hx hb hX hbl hbA hS (vp_in_nI (show i + 3 < L by omega) (by omega)) dL_law_308 ?_
    refine tp_i (y := xs (i + 3)) (by rw [nI_clamp (by omega)]) ?_
    refine lv_i2l hx hb dL_law_309 rfl ?_
    refine lv_bipush (v := 32) hx hb dL_law_310 (by decide) ?_
    refine lv_lshl hx hb dL_law_312 rfl ?_
    refine lv_aload_n hx hb dL_law_313 rfl (lv_at hl 1 rfl) ?_
    refine lv_iload hx hb dL_law_314 (lv_at hl 5 rfl) ?_
    refine lv_iconst (v := 4) hx hb dL_law_316 (by decide) ?_
    refine lv_iadd hx hb dL_law_317 ?_
    refine tp_i (y := nI (i + 4)) (nI_add i 4) ?_
    refine va_sld hx hb hX hbl hbA hS (vp_in_nI (show i + 4 < L by omega) (by omega)) dL_law_318 ?_
    refine tp_i (y := xs (i + 4)) (by rw [nI_clamp (by omega)]) ?_
    refine lv_i2l hx hb dL_law_319 rfl ?_
    refine lv_ldc2 (v := 4294967295) hx hb hown (hall _ kw_447) dL_law_320 ?_
    refine lv_land hx hb dL_law_323 ?_
    refine lv_lor hx hb dL_law_324 ?_
    refine tp_l (y := t) E_t.symm ?_
    have hPc := hP.sub (ws' := (wm y b1 b2 b3 b4 b5 b6 b7 b8 b9 b10 cI cJ cZ th nD nR vs mac now o mt mw zs.length nv dl ec rt rv mk)) [8, 9, 10, 11, 12, 13, 14, 15, 16, 17, 18] rfl
    have hDc := hD.sub (ws' := (wm y b1 b2 b3 b4 b5 b6 b7 b8 b9 b10 cI cJ cZ th nD nR vs mac now o mt mw zs.length nv dl ec rt rv mk)) [8, 9, 10, 11, 12, 13, 14, 15, 16, 17, 18] (by decide) rfl
    have hFc := va_free (wc := (wm y b1 b2 b3 b4 b5 b6 b7 b8 b9 b10 cI cJ cZ th nD nR vs mac now o mt mw zs.length nv dl ec rt rv mk)) hD hS hA [8, 9, 10, 11, 12, 13, 14, 15, 16, 17, 18] rfl
    refine va_calli (va_runV (As := [.int d0, .int mo, .long t]) (rest := []) ⟨hx, hb, hml, hown, hall⟩ (m_assign1 l dC dI y b1 b2 b3 b4 b5 b6 b7 b8 b9 b10 cI cJ cZ th nD nR vs mac now o mt mw nv dl ec rt rv mk zs H.size d0 c1 mo t) (cwV 3 hall gL_76 rfl rfl rfl (by decide +kernel) ⟨Nat.le_of_ble_eq_true rfl, Nat.le_of_ble_eq_true rfl⟩) ⟨xu_blind, va_recv hK hPc (ci := 1) (q0 := 0) rfl rfl, fun U hU hW => ⟨rfl, by rw [hU], by rw [hU]; exact hPc, va_K.moved hW.alike hK, hDc.weaken (fun _ _ _ _ => trivial)⟩⟩ rfl rfl hl.1 rfl (lv_room (Nat.le_of_ble_eq_true rfl)) dL_law_325 ⟨by show _ ≤ 601024; omega, by show _ ≤ 7293000; omega⟩) hS (fun q _ h => hFc q h) hFc (fun v_2 u9 t9 H1 locs ht hvm hw hB hz1 hk1 hS => ?_)
    obtain ⟨hP1, hK1, hD1⟩ := hB
    rw [ht] at hP1
    obtain ⟨hP, hD⟩ := va_join (wr := (wr x a1 a2 a3 a4 a5 a6 a7 cI cJ nD nR dv r cap ti va ev ed ec ad ac now) ++ [(q, .inl (cJ, 1, .inr (.inl ou)))]) (w1 := (wm y b1 b2 b3 b4 b5 b6 b7 b8 b9 b10 cI cJ cZ 1 nD nR vs mac now o mt mw zs.length nv dl ec rt rv mk)) hP hD [8, 9, 10, 11, 12, 13, 14, 15, 16, 17, 18] [0, 1, 2, 3, 4, 5, 6, 7, 19] rfl rfl (by decide) (by decide) hk1 hFc hP1 hD1
    generalize H1 = H at hP hS ⊢
    have hP := hP.sub (ws' := (wlw x a1 a2 a3 a4 a5 a6 a7 y b1 b2 b3 b4 b5 b6 b7 b8 b9 b10 q cI cJ cZ nD nR dv r cap ti va ev ed ec ad ac now 1 vs mac now o mt mw zs.length nv dl ec rt rv mk ou)) [0, 1, 2, 3, 4, 5, 6, 7, 9, 10, 11, 12, 13, 14, 15, 16, 17, 18, 19, 8] rfl
    have hD := hD.sub (ws' := (wlw x a1 a2 a3 a4 a5 a6 a7 y b1 b2 b3 b4 b5 b6 b7 b8 b9 b10 q cI cJ cZ nD nR dv r cap ti va ev ed ec ad ac now 1 vs mac now o mt mw zs.length nv dl ec rt rv mk ou)) [0, 1, 2, 3, 4, 5, 6, 7, 9, 10, 11, 12, 13, 14, 15, 16, 17, 18, 19, 8] (by decide) rfl
    refine lv_istore (lv' := [(6, .int v_2), (5, .int (nI 1)), (0, .ref b), (1, .ref x), (2, .ref y), (3, .ref q), (4, .int (nI i))]) hx hb dL_law_328 hl (by decide) rfl (fun ls hl => ?_)
    refine lv_aload_n hx hb dL_law_330 rfl (lv_at hl 4 rfl) ?_
    have hPc := hP.sub (ws' := (wm y b1 b2 b3 b4 b5 b6 b7 b8 b9 b10 cI cJ cZ 1 nD nR vs mac now o mt mw zs.length nv dl ec rt rv mk)) [8, 9, 10, 11, 12, 13, 14, 15, 16, 17, 18] rfl
    refine vp_callSi (W.runV (As := []) (rest := []) ⟨hx, hb, hml, hown, hall⟩ (m_thrown l dC dI y b1 b2 b3 b4 b5 b6 b7 b8 b9 b10 cI cJ cZ 1 nD nR vs mac now o mt mw nv dl ec rt rv mk zs) (cwV 0 hall gL_65 rfl rfl rfl (by decide +kernel) ⟨Nat.le_of_ble_eq_true rfl, Nat.le_of_ble_eq_true rfl⟩) ⟨xr_blind, va_recv hK hPc (ci := 1) (q0 := 0) rfl rfl, fun U hU hW => ⟨rfl, by rw [hU]; exact hPc, va_K.moved hW.alike hK⟩⟩ rfl rfl hl.1 rfl (lv_room (Nat.le_of_ble_eq_true rfl)) dL_law_331 ⟨by show _ ≤ 601024; omega, by show _ ≤ 7293000; omega⟩) (fun v_3 hv_4 => ?_)
    obtain rfl : v_3 = nI 1 := hv_4
    refine lv_iload hx hb dL_law_334 (lv_at hl 1 rfl) ?_
    refine lv_icmp_eq (tgt := 341) hx hb dL_law_336 (by decide) (fun c_5 => ?_) (fun c_5 => ?_)
    · refine lv_iload hx hb dL_law_341 (lv_at hl 1 rfl) ?_
      refine lv_if_ne (tgt := 358) hx hb dL_law_343 (by decide) (fun c_6 => ?_) (fun c_6 => ?_)
      · refine lv_goto (tgt := 920) hx hb dL_law_358 (by decide) ?_
        refine W.widen (k := 20 + 2 * i + 2) (n := 70000 + 6 * i + 6 + G) (by omega) (by omega) ?_
        exact KK a3 a4 dv r cap ti va ev ed ec ad ac now 1 vs mac o mt mw zs nv dl rt rv mk ou G H locs hR hZ hG hP hD hS ls (lv_sub hl [2, 3, 4, 5, 6] rfl)
      · exact absurd c_6 (by decide)
    · exact absurd rfl c_5
  obtain ⟨d, hd, rfl⟩ : ∃ d : Nat, d < nD ∧ d0 = nI d := xw_d (by omega) c1
  rcases Nat.eq_zero_or_pos ec with hz | hz
  · refine lv_aload_n hx hb dL_law_249 rfl (lv_at hl 1 rfl) ?_
    refine lv_aload_n hx hb dL_law_250 rfl (lv_at hl 0 rfl) ?_
    refine lv_iload hx hb dL_law_251 (lv_at hl 4 rfl) ?_
    refine lv_iconst (v := 1) hx hb dL_law_253 (by decide) ?_
    refine lv_iadd hx hb dL_law_254 ?_
    refine tp_i (y := nI (i + 1)) (nI_add i 1) ?_
    refine va_sld hx hb hX hbl hbA hS (vp_in_nI (show i + 1 < L by omega) (by omega)) dL_law_255 ?_
    refine tp_i (y := nI d) (by rw [nI_clamp (by omega)]; exact E_d0.symm) ?_
    refine lv_aload_n hx hb dL_law_256 rfl (lv_at hl 0 rfl) ?_
    refine lv_iload hx hb dL_law_257 (lv_at hl 4 rfl) ?_
    refine lv_iconst (v := 2) hx hb dL_law_259 (by decide) ?_
    refine lv_iadd hx hb dL_law_260 ?_
    refine tp_i (y := nI (i + 2)) (nI_add i 2) ?_
    refine va_sld hx hb hX hbl hbA hS (vp_in_nI (show i + 2 < L by omega) (by omega)) dL_law_261 ?_
    refine tp_i (y := mo) (by rw [nI_clamp (by omega)]; exact E_mo.symm) ?_
    refine lv_aload_n hx hb dL_law_262 rfl (lv_at hl 0 rfl) ?_
    refine lv_iload hx hb dL_law_263 (lv_at hl 4 rfl) ?_
    refine lv_iconst (v := 3) hx hb dL_law_265 (by decide) ?_
    refine lv_iadd hx hb dL_law_266 ?_
    refine tp_i (y := nI (i + 3)) (nI_add i 3) ?_
    refine va_sld hx hb hX hbl hbA hS (vp_in_nI (show i + 3 < L by omega) (by omega)) dL_law_267 ?_
    refine tp_i (y := xs (i + 3)) (by rw [nI_clamp (by omega)]) ?_
    refine lv_i2l hx hb dL_law_268 rfl ?_
    refine lv_bipush (v := 32) hx hb dL_law_269 (by decide) ?_
    refine lv_lshl hx hb dL_law_271 rfl ?_
    refine lv_aload_n hx hb dL_law_272 rfl (lv_at hl 0 rfl) ?_
    refine lv_iload hx hb dL_law_273 (lv_at hl 4 rfl) ?_
    refine lv_iconst (v := 4) hx hb dL_law_275 (by decide) ?_
    refine lv_iadd hx hb dL_law_276 ?_
    refine tp_i (y := nI (i + 4)) (nI_add i 4) ?_
    refine va_sld hx hb hX hbl hbA hS (vp_in_nI (show i + 4 < L by omega) (by omega)) dL_law_277 ?_
    refine tp_i (y := xs (i + 4)) (by rw [nI_clamp (by omega)]) ?_
    refine lv_i2l hx hb dL_law_278 rfl ?_
    refine lv_ldc2 (v := 4294967295) hx hb hown (hall _ kw_447) dL_law_279 ?_
    refine lv_land hx hb dL_law_282 ?_
    refine lv_lor hx hb dL_law_283 ?_
    refine tp_l (y := t) E_t.symm ?_
    refine lv_aload_n hx hb dL_law_284 rfl (lv_at hl 3 rfl) ?_
    have hPc := hP.sub (ws' := (wr x a1 a2 a3 a4 a5 a6 a7 cI cJ nD nR dv r cap ti va ev ed ec ad ac now)) [0, 1, 2, 3, 4, 5, 6, 7] rfl
    have hDc := hD.sub (ws' := (wr x a1 a2 a3 a4 a5 a6 a7 cI cJ nD nR dv r cap ti va ev ed ec ad ac now)) [0, 1, 2, 3, 4, 5, 6, 7] (by decide) rfl
    have hKc := hK.sub (tys' := [(cI, .int), (cJ, .long)]) [0, 1] rfl
    have hFc := va_free (wc := (wr x a1 a2 a3 a4 a5 a6 a7 cI cJ nD nR dv r cap ti va ev ed ec ad ac now)) hD hS hA [0, 1, 2, 3, 4, 5, 6, 7] rfl
    refine va_calli (xt_runSW (n := 5) (As := [.ref x, .int (nI d), .int mo, .long t, .ref q]) (rest := []) ⟨hx, hb, hml, hown, hall⟩ (h_assign2 l dC dI x a1 a2 a3 a4 a5 a6 a7 cI cJ nD nR dv r cap ti va ev ed ec ad ac now hst q H.size hI d mo t hd hz) gL_73 rfl rfl rfl (by decide +kernel) ⟨Nat.le_of_ble_eq_true rfl, Nat.le_of_ble_eq_true rfl⟩ ⟨xh_blind, fun U hU hW => ⟨rfl, by rw [hU], by rw [hU]; exact hPc, va_K.moved hW.alike hKc, hDc.weaken (fun _ _ _ _ => trivial), xt_move hW (fun z hz => by rw [hU]; exact hS.2.1 z hz (Nat.not_le.mpr hz)) hok, xt_nk_move hW.alike hnk⟩⟩ rfl rfl hl.1 rfl (lv_room (Nat.le_of_ble_eq_true rfl)) dL_law_285 ⟨by show _ ≤ 601024; omega, by show _ ≤ 7293000; omega⟩) hS (fun q _ h => hFc q h) hFc (fun v_1 u t9 H1 locs ht hvm hw hB hz1 hk1 hS => ?_)
    obtain ⟨hP1, hK1, hD1⟩ := hB
    rw [ht] at hP1
    obtain ⟨hP, hD⟩ := va_join (wr := (wm y b1 b2 b3 b4 b5 b6 b7 b8 b9 b10 cI cJ cZ th nD nR vs mac now o mt mw zs.length nv dl ec rt rv mk) ++ [(q, .inl (cJ, 1, .inr (.inl ou)))]) (w1 := (wr x a1 a2 a3 a4 a5 a6 a7 cI cJ nD nR dv r cap ti va ev ed ec ad ac now)) hP hD [0, 1, 2, 3, 4, 5, 6, 7] [8, 9, 10, 11, 12, 13, 14, 15, 16, 17, 18, 19] rfl rfl (by decide) (by decide) hk1 hFc hP1 hD1
    generalize H1 = H at hP hS ⊢
    have hP := hP.sub (ws' := (wlw x a1 a2 a3 a4 a5 a6 a7 y b1 b2 b3 b4 b5 b6 b7 b8 b9 b10 q cI cJ cZ nD nR dv r cap ti va ev ed ec ad ac now th vs mac now o mt mw zs.length nv dl ec rt rv mk ou)) [12, 13, 14, 15, 16, 17, 18, 19, 0, 1, 2, 3, 4, 5, 6, 7, 8, 9, 10, 11] rfl
    have hD := hD.sub (ws' := (wlw x a1 a2 a3 a4 a5 a6 a7 y b1 b2 b3 b4 b5 b6 b7 b8 b9 b10 q cI cJ cZ nD nR dv r cap ti va ev ed ec ad ac now th vs mac now o mt mw zs.length nv dl ec rt rv mk ou)) [12, 13, 14, 15, 16, 17, 18, 19, 0, 1, 2, 3, 4, 5, 6, 7, 8, 9, 10, 11] (by decide) rfl
    obtain rfl : v_1 = nI 2 := hw
    refine lv_istore (lv' := [(5, .int (nI 2)), (0, .ref b), (1, .ref x), (2, .ref y), (3, .ref q), (4, .int (nI i))]) hx hb dL_law_288 hl (by decide) rfl (fun ls hl => ?_)
    refine lv_aload_n hx hb dL_law_290 rfl (lv_at hl 3 rfl) ?_
    refine lv_aload_n hx hb dL_law_291 rfl (lv_at hl 1 rfl) ?_
    refine lv_iload hx hb dL_law_292 (lv_at hl 5 rfl) ?_
    refine lv_iconst (v := 1) hx hb dL_law_294 (by decide) ?_
    refine lv_iadd hx hb dL_law_295 ?_
    refine tp_i (y := nI (i + 1)) (nI_add i 1) ?_
    refine va_sld hx hb hX hbl hbA hS (vp_in_nI (show i + 1 < L by omega) (by omega)) dL_law_296 ?_
    refine tp_i (y := nI d) (by rw [nI_clamp (by omega)]; exact E_d0.symm) ?_
    refine lv_aload_n hx hb dL_law_297 rfl (lv_at hl 1 rfl) ?_
    refine lv_iload hx hb dL_law_298 (lv_at hl 5 rfl) ?_
    refine lv_iconst (v := 2) hx hb dL_law_300 (by decide) ?_
    refine lv_iadd hx hb dL_law_301 ?_
    refine tp_i (y := nI (i + 2)) (nI_add i 2) ?_
    refine va_sld hx hb hX hbl hbA hS (vp_in_nI (show i + 2 < L by omega) (by omega)) dL_law_302 ?_
    refine tp_i (y := mo) (by rw [nI_clamp (by omega)]; exact E_mo.symm) ?_
    refine lv_aload_n hx hb dL_law_303 rfl (lv_at hl 1 rfl) ?_
    refine lv_iload hx hb dL_law_304 (lv_at hl 5 rfl) ?_
    refine lv_iconst (v := 3) hx hb dL_law_306 (by decide) ?_
    refine lv_iadd hx hb dL_law_307 ?_
    refine tp_i (y := nI (i + 3)) (nI_add i 3) ?_
    refine va_sld hx hb hX hbl hbA hS (vp_in_nI (show i + 3 < L by omega) (by omega)) dL_law_308 ?_
    refine tp_i (y := xs (i + 3)) (by rw [nI_clamp (by omega)]) ?_
    refine lv_i2l hx hb dL_law_309 rfl ?_
    refine lv_bipush (v := 32) hx hb dL_law_310 (by decide) ?_
    refine lv_lshl hx hb dL_law_312 rfl ?_
    refine lv_aload_n hx hb dL_law_313 rfl (lv_at hl 1 rfl) ?_
    refine lv_iload hx hb dL_law_314 (lv_at hl 5 rfl) ?_
    refine lv_iconst (v := 4) hx hb dL_law_316 (by decide) ?_
    refine lv_iadd hx hb dL_law_317 ?_
    refine tp_i (y := nI (i + 4)) (nI_add i 4) ?_
    refine va_sld hx hb hX hbl hbA hS (vp_in_nI (show i + 4 < L by omega) (by omega)) dL_law_318 ?_
    refine tp_i (y := xs (i + 4)) (by rw [nI_clamp (by omega)]) ?_
    refine lv_i2l hx hb dL_law_319 rfl ?_
    refine lv_ldc2 (v := 4294967295) hx hb hown (hall _ kw_447) dL_law_320 ?_
    refine lv_land hx hb dL_law_323 ?_
    refine lv_lor hx hb dL_law_324 ?_
    refine tp_l (y := t) E_t.symm ?_
    have hPc := hP.sub (ws' := (wm y b1 b2 b3 b4 b5 b6 b7 b8 b9 b10 cI cJ cZ th nD nR vs mac now o mt mw zs.length nv dl ec rt rv mk)) [8, 9, 10, 11, 12, 13, 14, 15, 16, 17, 18] rfl
    have hDc := hD.sub (ws' := (wm y b1 b2 b3 b4 b5 b6 b7 b8 b9 b10 cI cJ cZ th nD nR vs mac now o mt mw zs.length nv dl ec rt rv mk)) [8, 9, 10, 11, 12, 13, 14, 15, 16, 17, 18] (by decide) rfl
    have hFc := va_free (wc := (wm y b1 b2 b3 b4 b5 b6 b7 b8 b9 b10 cI cJ cZ th nD nR vs mac now o mt mw zs.length nv dl ec rt rv mk)) hD hS hA [8, 9, 10, 11, 12, 13, 14, 15, 16, 17, 18] rfl
    refine va_calli (va_runV (As := [.int (nI d), .int mo, .long t]) (rest := []) ⟨hx, hb, hml, hown, hall⟩ (m_assign2 l dC dI y b1 b2 b3 b4 b5 b6 b7 b8 b9 b10 cI cJ cZ th nD nR vs mac now o mt mw nv dl ec rt rv mk zs H.size hIm hZ d hd mo t hz) (cwV 3 hall gL_76 rfl rfl rfl (by decide +kernel) ⟨Nat.le_of_ble_eq_true rfl, Nat.le_of_ble_eq_true rfl⟩) ⟨xu_blind, va_recv hK hPc (ci := 1) (q0 := 0) rfl rfl, fun U hU hW => ⟨rfl, by rw [hU], by rw [hU]; exact hPc, va_K.moved hW.alike hK, hDc.weaken (fun _ _ _ _ => trivial)⟩⟩ rfl rfl hl.1 rfl (lv_room (Nat.le_of_ble_eq_true rfl)) dL_law_325 ⟨by show _ ≤ 601024; omega, by show _ ≤ 7293000; omega⟩) hS (fun q _ h => hFc q h) hFc (fun v_2 u9 t9 H1 locs ht hvm hw hB hz1 hk1 hS => ?_)
    obtain ⟨hP1, hK1, hD1⟩ := hB
    rw [ht] at hP1
    obtain ⟨hP, hD⟩ := va_join (wr := (wr x a1 a2 a3 a4 a5 a6 a7 cI cJ nD nR dv r cap ti va ev ed ec ad ac now) ++ [(q, .inl (cJ, 1, .inr (.inl ou)))]) (w1 := (wm y b1 b2 b3 b4 b5 b6 b7 b8 b9 b10 cI cJ cZ 2 nD nR vs mac now o mt mw zs.length nv dl ec rt rv mk)) hP hD [8, 9, 10, 11, 12, 13, 14, 15, 16, 17, 18] [0, 1, 2, 3, 4, 5, 6, 7, 19] rfl rfl (by decide) (by decide) hk1 hFc hP1 hD1
    generalize H1 = H at hP hS ⊢
    have hP := hP.sub (ws' := (wlw x a1 a2 a3 a4 a5 a6 a7 y b1 b2 b3 b4 b5 b6 b7 b8 b9 b10 q cI cJ cZ nD nR dv r cap ti va ev ed ec ad ac now 2 vs mac now o mt mw zs.length nv dl ec rt rv mk ou)) [0, 1, 2, 3, 4, 5, 6, 7, 9, 10, 11, 12, 13, 14, 15, 16, 17, 18, 19, 8] rfl
    have hD := hD.sub (ws' := (wlw x a1 a2 a3 a4 a5 a6 a7 y b1 b2 b3 b4 b5 b6 b7 b8 b9 b10 q cI cJ cZ nD nR dv r cap ti va ev ed ec ad ac now 2 vs mac now o mt mw zs.length nv dl ec rt rv mk ou)) [0, 1, 2, 3, 4, 5, 6, 7, 9, 10, 11, 12, 13, 14, 15, 16, 17, 18, 19, 8] (by decide) rfl
    refine lv_istore (lv' := [(6, .int v_2), (5, .int (nI 2)), (0, .ref b), (1, .ref x), (2, .ref y), (3, .ref q), (4, .int (nI i))]) hx hb dL_law_328 hl (by decide) rfl (fun ls hl => ?_)
    refine lv_aload_n hx hb dL_law_330 rfl (lv_at hl 4 rfl) ?_
    have hPc := hP.sub (ws' := (wm y b1 b2 b3 b4 b5 b6 b7 b8 b9 b10 cI cJ cZ 2 nD nR vs mac now o mt mw zs.length nv dl ec rt rv mk)) [8, 9, 10, 11, 12, 13, 14, 15, 16, 17, 18] rfl
    refine vp_callSi (W.runV (As := []) (rest := []) ⟨hx, hb, hml, hown, hall⟩ (m_thrown l dC dI y b1 b2 b3 b4 b5 b6 b7 b8 b9 b10 cI cJ cZ 2 nD nR vs mac now o mt mw nv dl ec rt rv mk zs) (cwV 0 hall gL_65 rfl rfl rfl (by decide +kernel) ⟨Nat.le_of_ble_eq_true rfl, Nat.le_of_ble_eq_true rfl⟩) ⟨xr_blind, va_recv hK hPc (ci := 1) (q0 := 0) rfl rfl, fun U hU hW => ⟨rfl, by rw [hU]; exact hPc, va_K.moved hW.alike hK⟩⟩ rfl rfl hl.1 rfl (lv_room (Nat.le_of_ble_eq_true rfl)) dL_law_331 ⟨by show _ ≤ 601024; omega, by show _ ≤ 7293000; omega⟩) (fun v_3 hv_4 => ?_)
    obtain rfl : v_3 = nI 2 := hv_4
    refine lv_iload hx hb dL_law_334 (lv_at hl 1 rfl) ?_
    refine lv_icmp_eq (tgt := 341) hx hb dL_law_336 (by decide) (fun c_5 => ?_) (fun c_5 => ?_)
    · refine lv_iload hx hb dL_law_341 (lv_at hl 1 rfl) ?_
      refine lv_if_ne (tgt := 358) hx hb dL_law_343 (by decide) (fun c_6 => ?_) (fun c_6 => ?_)
      · refine lv_goto (tgt := 920) hx hb dL_law_358 (by decide) ?_
        refine W.widen (k := 20 + 2 * i + 2) (n := 70000 + 6 * i + 6 + G) (by omega) (by omega) ?_
        exact KK a3 a4 dv r cap ti va ev ed ec ad ac now 2 vs mac o mt mw zs nv dl rt rv mk ou G H locs hR hZ hG hP hD hS ls (lv_sub hl [2, 3, 4, 5, 6] rfl)
      · exact absurd c_6 (by decide)
    · exact absurd rfl c_5
  by_cases hg : wf_lg mo (ed 0) t ∧ wf_dg ed now ec 0 (-1)
  rotate_left
  · refine lv_aload_n hx hb dL_law_249 rfl (lv_at hl 1 rfl) ?_
    refine lv_aload_n hx hb dL_law_250 rfl (lv_at hl 0 rfl) ?_
    refine lv_iload hx hb dL_law_251 (lv_at hl 4 rfl) ?_
    refine lv_iconst (v := 1) hx hb dL_law_253 (by decide) ?_
    refine lv_iadd hx hb dL_law_254 ?_
    refine tp_i (y := nI (i + 1)) (nI_add i 1) ?_
    refine va_sld hx hb hX hbl hbA hS (vp_in_nI (show i + 1 < L by omega) (by omega)) dL_law_255 ?_
    refine tp_i (y := nI d) (by rw [nI_clamp (by omega)]; exact E_d0.symm) ?_
    refine lv_aload_n hx hb dL_law_256 rfl (lv_at hl 0 rfl) ?_
    refine lv_iload hx hb dL_law_257 (lv_at hl 4 rfl) ?_
    refine lv_iconst (v := 2) hx hb dL_law_259 (by decide) ?_
    refine lv_iadd hx hb dL_law_260 ?_
    refine tp_i (y := nI (i + 2)) (nI_add i 2) ?_
    refine va_sld hx hb hX hbl hbA hS (vp_in_nI (show i + 2 < L by omega) (by omega)) dL_law_261 ?_
    refine tp_i (y := mo) (by rw [nI_clamp (by omega)]; exact E_mo.symm) ?_
    refine lv_aload_n hx hb dL_law_262 rfl (lv_at hl 0 rfl) ?_
    refine lv_iload hx hb dL_law_263 (lv_at hl 4 rfl) ?_
    refine lv_iconst (v := 3) hx hb dL_law_265 (by decide) ?_
    refine lv_iadd hx hb dL_law_266 ?_
    refine tp_i (y := nI (i + 3)) (nI_add i 3) ?_
    refine va_sld hx hb hX hbl hbA hS (vp_in_nI (show i + 3 < L by omega) (by omega)) dL_law_267 ?_
    refine tp_i (y := xs (i + 3)) (by rw [nI_clamp (by omega)]) ?_
    refine lv_i2l hx hb dL_law_268 rfl ?_
    refine lv_bipush (v := 32) hx hb dL_law_269 (by decide) ?_
    refine lv_lshl hx hb dL_law_271 rfl ?_
    refine lv_aload_n hx hb dL_law_272 rfl (lv_at hl 0 rfl) ?_
    refine lv_iload hx hb dL_law_273 (lv_at hl 4 rfl) ?_
    refine lv_iconst (v := 4) hx hb dL_law_275 (by decide) ?_
    refine lv_iadd hx hb dL_law_276 ?_
    refine tp_i (y := nI (i + 4)) (nI_add i 4) ?_
    refine va_sld hx hb hX hbl hbA hS (vp_in_nI (show i + 4 < L by omega) (by omega)) dL_law_277 ?_
    refine tp_i (y := xs (i + 4)) (by rw [nI_clamp (by omega)]) ?_
    refine lv_i2l hx hb dL_law_278 rfl ?_
    refine lv_ldc2 (v := 4294967295) hx hb hown (hall _ kw_447) dL_law_279 ?_
    refine lv_land hx hb dL_law_282 ?_
    refine lv_lor hx hb dL_law_283 ?_
    refine tp_l (y := t) E_t.symm ?_
    refine lv_aload_n hx hb dL_law_284 rfl (lv_at hl 3 rfl) ?_
    have hPc := hP.sub (ws' := (wr x a1 a2 a3 a4 a5 a6 a7 cI cJ nD nR dv r cap ti va ev ed ec ad ac now)) [0, 1, 2, 3, 4, 5, 6, 7] rfl
    have hDc := hD.sub (ws' := (wr x a1 a2 a3 a4 a5 a6 a7 cI cJ nD nR dv r cap ti va ev ed ec ad ac now)) [0, 1, 2, 3, 4, 5, 6, 7] (by decide) rfl
    have hKc := hK.sub (tys' := [(cI, .int), (cJ, .long)]) [0, 1] rfl
    have hFc := va_free (wc := (wr x a1 a2 a3 a4 a5 a6 a7 cI cJ nD nR dv r cap ti va ev ed ec ad ac now)) hD hS hA [0, 1, 2, 3, 4, 5, 6, 7] rfl
    refine va_calli (xt_runSW (n := 5) (As := [.ref x, .int (nI d), .int mo, .long t, .ref q]) (rest := []) ⟨hx, hb, hml, hown, hall⟩ (h_assign3 l dC dI x a1 a2 a3 a4 a5 a6 a7 cI cJ nD nR dv r cap ti va ev ed ec ad ac now hst q H.size hI d mo t hd hz hg) gL_73 rfl rfl rfl (by decide +kernel) ⟨Nat.le_of_ble_eq_true rfl, Nat.le_of_ble_eq_true rfl⟩ ⟨xh_blind, fun U hU hW => ⟨rfl, by rw [hU], by rw [hU]; exact hPc, va_K.moved hW.alike hKc, hDc.weaken (fun _ _ _ _ => trivial), xt_move hW (fun z hz => by rw [hU]; exact hS.2.1 z hz (Nat.not_le.mpr hz)) hok, xt_nk_move hW.alike hnk⟩⟩ rfl rfl hl.1 rfl (lv_room (Nat.le_of_ble_eq_true rfl)) dL_law_285 ⟨by show _ ≤ 601024; omega, by show _ ≤ 7293000; omega⟩) hS (fun q _ h => hFc q h) hFc (fun v_1 u t9 H1 locs ht hvm hw hB hz1 hk1 hS => ?_)
    obtain ⟨hP1, hK1, hD1⟩ := hB
    rw [ht] at hP1
    obtain ⟨hP, hD⟩ := va_join (wr := (wm y b1 b2 b3 b4 b5 b6 b7 b8 b9 b10 cI cJ cZ th nD nR vs mac now o mt mw zs.length nv dl ec rt rv mk) ++ [(q, .inl (cJ, 1, .inr (.inl ou)))]) (w1 := (wr x a1 a2 a3 a4 a5 a6 a7 cI cJ nD nR dv r cap ti va ev ed ec ad ac now)) hP hD [0, 1, 2, 3, 4, 5, 6, 7] [8, 9, 10, 11, 12, 13, 14, 15, 16, 17, 18, 19] rfl rfl (by decide) (by decide) hk1 hFc hP1 hD1
    generalize H1 = H at hP hS ⊢
    have hP := hP.sub (ws' := (wlw x a1 a2 a3 a4 a5 a6 a7 y b1 b2 b3 b4 b5 b6 b7 b8 b9 b10 q cI cJ cZ nD nR dv r cap ti va ev ed ec ad ac now th vs mac now o mt mw zs.length nv dl ec rt rv mk ou)) [12, 13, 14, 15, 16, 17, 18, 19, 0, 1, 2, 3, 4, 5, 6, 7, 8, 9, 10, 11] rfl
    have hD := hD.sub (ws' := (wlw x a1 a2 a3 a4 a5 a6 a7 y b1 b2 b3 b4 b5 b6 b7 b8 b9 b10 q cI cJ cZ nD nR dv r cap ti va ev ed ec ad ac now th vs mac now o mt mw zs.length nv dl ec rt rv mk ou)) [12, 13, 14, 15, 16, 17, 18, 19, 0, 1, 2, 3, 4, 5, 6, 7, 8, 9, 10, 11] (by decide) rfl
    obtain rfl : v_1 = nI 3 := hw
    refine lv_istore (lv' := [(5, .int (nI 3)), (0, .ref b), (1, .ref x), (2, .ref y), (3, .ref q), (4, .int (nI i))]) hx hb dL_law_288 hl (by decide) rfl (fun ls hl => ?_)
    refine lv_aload_n hx hb dL_law_290 rfl (lv_at hl 3 rfl) ?_
    refine lv_aload_n hx hb dL_law_291 rfl (lv_at hl 1 rfl) ?_
    refine lv_iload hx hb dL_law_292 (lv_at hl 5 rfl) ?_
    refine lv_iconst (v := 1) hx hb dL_law_294 (by decide) ?_
    refine lv_iadd hx hb dL_law_295 ?_
    refine tp_i (y := nI (i + 1)) (nI_add i 1) ?_
    refine va_sld hx hb hX hbl hbA hS (vp_in_nI (show i + 1 < L by omega) (by omega)) dL_law_296 ?_
    refine tp_i (y := nI d) (by rw [nI_clamp (by omega)]; exact E_d0.symm) ?_
    refine lv_aload_n hx hb dL_law_297 rfl (lv_at hl 1 rfl) ?_
    refine lv_iload hx hb dL_law_298 (lv_at hl 5 rfl) ?_
    refine lv_iconst (v := 2) hx hb dL_law_300 (by decide) ?_
    refine lv_iadd hx hb dL_law_301 ?_
    refine tp_i (y := nI (i + 2)) (nI_add i 2) ?_
    refine va_sld hx hb hX hbl hbA hS (vp_in_nI (show i + 2 < L by omega) (by omega)) dL_law_302 ?_
    refine tp_i (y := mo) (by rw [nI_clamp (by omega)]; exact E_mo.symm) ?_
    refine lv_aload_n hx hb dL_law_303 rfl (lv_at hl 1 rfl) ?_
    refine lv_iload hx hb dL_law_304 (lv_at hl 5 rfl) ?_
    refine lv_iconst (v := 3) hx hb dL_law_306 (by decide) ?_
    refine lv_iadd hx hb dL_law_307 ?_
    refine tp_i (y := nI (i + 3)) (nI_add i 3) ?_
    refine va_sld hx hb hX hbl hbA hS (vp_in_nI (show i + 3 < L by omega) (by omega)) dL_law_308 ?_
    refine tp_i (y := xs (i + 3)) (by rw [nI_clamp (by omega)]) ?_
    refine lv_i2l hx hb dL_law_309 rfl ?_
    refine lv_bipush (v := 32) hx hb dL_law_310 (by decide) ?_
    refine lv_lshl hx hb dL_law_312 rfl ?_
    refine lv_aload_n hx hb dL_law_313 rfl (lv_at hl 1 rfl) ?_
    refine lv_iload hx hb dL_law_314 (lv_at hl 5 rfl) ?_
    refine lv_iconst (v := 4) hx hb dL_law_316 (by decide) ?_
    refine lv_iadd hx hb dL_law_317 ?_
    refine tp_i (y := nI (i + 4)) (nI_add i 4) ?_
    refine va_sld hx hb hX hbl hbA hS (vp_in_nI (show i + 4 < L by omega) (by omega)) dL_law_318 ?_
    refine tp_i (y := xs (i + 4)) (by rw [nI_clamp (by omega)]) ?_
    refine lv_i2l hx hb dL_law_319 rfl ?_
    refine lv_ldc2 (v := 4294967295) hx hb hown (hall _ kw_447) dL_law_320 ?_
    refine lv_land hx hb dL_law_323 ?_
    refine lv_lor hx hb dL_law_324 ?_
    refine tp_l (y := t) E_t.symm ?_
    have hPc := hP.sub (ws' := (wm y b1 b2 b3 b4 b5 b6 b7 b8 b9 b10 cI cJ cZ th nD nR vs mac now o mt mw zs.length nv dl ec rt rv mk)) [8, 9, 10, 11, 12, 13, 14, 15, 16, 17, 18] rfl
    have hDc := hD.sub (ws' := (wm y b1 b2 b3 b4 b5 b6 b7 b8 b9 b10 cI cJ cZ th nD nR vs mac now o mt mw zs.length nv dl ec rt rv mk)) [8, 9, 10, 11, 12, 13, 14, 15, 16, 17, 18] (by decide) rfl
    have hFc := va_free (wc := (wm y b1 b2 b3 b4 b5 b6 b7 b8 b9 b10 cI cJ cZ th nD nR vs mac now o mt mw zs.length nv dl ec rt rv mk)) hD hS hA [8, 9, 10, 11, 12, 13, 14, 15, 16, 17, 18] rfl
    refine va_calli (va_runV (As := [.int (nI d), .int mo, .long t]) (rest := []) ⟨hx, hb, hml, hown, hall⟩ (m_assign3 l dC dI y b1 b2 b3 b4 b5 b6 b7 b8 b9 b10 cI cJ cZ th nD nR vs mac now o mt mw nv dl ec rt rv mk zs H.size hIm hZ d hd mo t hz (fun z => hg ((wrel_good hR hz mo t).mpr z))) (cwV 3 hall gL_76 rfl rfl rfl (by decide +kernel) ⟨Nat.le_of_ble_eq_true rfl, Nat.le_of_ble_eq_true rfl⟩) ⟨xu_blind, va_recv hK hPc (ci := 1) (q0 := 0) rfl rfl, fun U hU hW => ⟨rfl, by rw [hU], by rw [hU]; exact hPc, va_K.moved hW.alike hK, hDc.weaken (fun _ _ _ _ => trivial)⟩⟩ rfl rfl hl.1 rfl (lv_room (Nat.le_of_ble_eq_true rfl)) dL_law_325 ⟨by show _ ≤ 601024; omega, by show _ ≤ 7293000; omega⟩) hS (fun q _ h => hFc q h) hFc (fun v_2 u9 t9 H1 locs ht hvm hw hB hz1 hk1 hS => ?_)
    obtain ⟨hP1, hK1, hD1⟩ := hB
    rw [ht] at hP1
    obtain ⟨hP, hD⟩ := va_join (wr := (wr x a1 a2 a3 a4 a5 a6 a7 cI cJ nD nR dv r cap ti va ev ed ec ad ac now) ++ [(q, .inl (cJ, 1, .inr (.inl ou)))]) (w1 := (wm y b1 b2 b3 b4 b5 b6 b7 b8 b9 b10 cI cJ cZ 3 nD nR vs mac now o mt mw zs.length nv dl ec rt rv mk)) hP hD [8, 9, 10, 11, 12, 13, 14, 15, 16, 17, 18] [0, 1, 2, 3, 4, 5, 6, 7, 19] rfl rfl (by decide) (by decide) hk1 hFc hP1 hD1
    generalize H1 = H at hP hS ⊢
    have hP := hP.sub (ws' := (wlw x a1 a2 a3 a4 a5 a6 a7 y b1 b2 b3 b4 b5 b6 b7 b8 b9 b10 q cI cJ cZ nD nR dv r cap ti va ev ed ec ad ac now 3 vs mac now o mt mw zs.length nv dl ec rt rv mk ou)) [0, 1, 2, 3, 4, 5, 6, 7, 9, 10, 11, 12, 13, 14, 15, 16, 17, 18, 19, 8] rfl
    have hD := hD.sub (ws' := (wlw x a1 a2 a3 a4 a5 a6 a7 y b1 b2 b3 b4 b5 b6 b7 b8 b9 b10 q cI cJ cZ nD nR dv r cap ti va ev ed ec ad ac now 3 vs mac now o mt mw zs.length nv dl ec rt rv mk ou)) [0, 1, 2, 3, 4, 5, 6, 7, 9, 10, 11, 12, 13, 14, 15, 16, 17, 18, 19, 8] (by decide) rfl
    refine lv_istore (lv' := [(6, .int v_2), (5, .int (nI 3)), (0, .ref b), (1, .ref x), (2, .ref y), (3, .ref q), (4, .int (nI i))]) hx hb dL_law_328 hl (by decide) rfl (fun ls hl => ?_)
    refine lv_aload_n hx hb dL_law_330 rfl (lv_at hl 4 rfl) ?_
    have hPc := hP.sub (ws' := (wm y b1 b2 b3 b4 b5 b6 b7 b8 b9 b10 cI cJ cZ 3 nD nR vs mac now o mt mw zs.length nv dl ec rt rv mk)) [8, 9, 10, 11, 12, 13, 14, 15, 16, 17, 18] rfl
    refine vp_callSi (W.runV (As := []) (rest := []) ⟨hx, hb, hml, hown, hall⟩ (m_thrown l dC dI y b1 b2 b3 b4 b5 b6 b7 b8 b9 b10 cI cJ cZ 3 nD nR vs mac now o mt mw nv dl ec rt rv mk zs) (cwV 0 hall gL_65 rfl rfl rfl (by decide +kernel) ⟨Nat.le_of_ble_eq_true rfl, Nat.le_of_ble_eq_true rfl⟩) ⟨xr_blind, va_recv hK hPc (ci := 1) (q0 := 0) rfl rfl, fun U hU hW => ⟨rfl, by rw [hU]; exact hPc, va_K.moved hW.alike hK⟩⟩ rfl rfl hl.1 rfl (lv_room (Nat.le_of_ble_eq_true rfl)) dL_law_331 ⟨by show _ ≤ 601024; omega, by show _ ≤ 7293000; omega⟩) (fun v_3 hv_4 => ?_)
    obtain rfl : v_3 = nI 3 := hv_4
    refine lv_iload hx hb dL_law_334 (lv_at hl 1 rfl) ?_
    refine lv_icmp_eq (tgt := 341) hx hb dL_law_336 (by decide) (fun c_5 => ?_) (fun c_5 => ?_)
    · refine lv_iload hx hb dL_law_341 (lv_at hl 1 rfl) ?_
      refine lv_if_ne (tgt := 358) hx hb dL_law_343 (by decide) (fun c_6 => ?_) (fun c_6 => ?_)
      · refine lv_goto (tgt := 920) hx hb dL_law_358 (by decide) ?_
        refine W.widen (k := 20 + 2 * i + 2) (n := 70000 + 6 * i + 6 + G) (by omega) (by omega) ?_
        exact KK a3 a4 dv r cap ti va ev ed ec ad ac now 3 vs mac o mt mw zs nv dl rt rv mk ou G H locs hR hZ hG hP hD hS ls (lv_sub hl [2, 3, 4, 5, 6] rfl)
      · exact absurd c_6 (by decide)
    · exact absurd rfl c_5
  have hg2 := (wrel_good hR hz mo t).mp hg
  obtain ⟨cut, hcut⟩ : ∃ z : Nat, z = wf_fb ti (now + ed 0 - 1) (r (d + 1) - r d) (r d) := ⟨_, rfl⟩
  obtain ⟨pl, hpl⟩ : ∃ z : Nat, z = wf_fb ti (now + ed 0 - wf_lim mo (ed 0) t - 1) (cut - r d) (r d) := ⟨_, rfl⟩
  obtain ⟨sm, hsm⟩ : ∃ z : Nat, z = wf_ss va (ev 0) pl (cut - pl) := ⟨_, rfl⟩
  obtain ⟨lm, hlm⟩ : ∃ z : Int64, z = if mo = 0 then dl 0 else t := ⟨_, rfl⟩
  have hs9 := wrel_st hR hd hz hg hcut hpl hsm hlm
  have hc9 := (wrel_cut hR hd hz hg hcut hpl hsm hlm).1
  have hln := wrel_len hR
  have hwc := wrel_c hR hd
  have hdn := wf_le hmo (show d + 1 ≤ nD by omega) (Nat.le_refl _)
  have hdd := hmo d hd
  by_cases hroom : nR < r nD - (sm - pl + (r (d + 1) - cut)) + ec
  · refine lv_aload_n hx hb dL_law_249 rfl (lv_at hl 1 rfl) ?_
    refine lv_aload_n hx hb dL_law_250 rfl (lv_at hl 0 rfl) ?_
    refine lv_iload hx hb dL_law_251 (lv_at hl 4 rfl) ?_
    refine lv_iconst (v := 1) hx hb dL_law_253 (by decide) ?_
    refine lv_iadd hx hb dL_law_254 ?_
    refine tp_i (y := nI (i + 1)) (nI_add i 1) ?_
    refine va_sld hx hb hX hbl hbA hS (vp_in_nI (show i + 1 < L by omega) (by omega)) dL_law_255 ?_
    refine tp_i (y := nI d) (by rw [nI_clamp (by omega)]; exact E_d0.symm) ?_
    refine lv_aload_n hx hb dL_law_256 rfl (lv_at hl 0 rfl) ?_
    refine lv_iload hx hb dL_law_257 (lv_at hl 4 rfl) ?_
    refine lv_iconst (v := 2) hx hb dL_law_259 (by decide) ?_
    refine lv_iadd hx hb dL_law_260 ?_
    refine tp_i (y := nI (i + 2)) (nI_add i 2) ?_
    refine va_sld hx hb hX hbl hbA hS (vp_in_nI (show i + 2 < L by omega) (by omega)) dL_law_261 ?_
    refine tp_i (y := mo) (by rw [nI_clamp (by omega)]; exact E_mo.symm) ?_
    refine lv_aload_n hx hb dL_law_262 rfl (lv_at hl 0 rfl) ?_
    refine lv_iload hx hb dL_law_263 (lv_at hl 4 rfl) ?_
    refine lv_iconst (v := 3) hx hb dL_law_265 (by decide) ?_
    refine lv_iadd hx hb dL_law_266 ?_
    refine tp_i (y := nI (i + 3)) (nI_add i 3) ?_
    refine va_sld hx hb hX hbl hbA hS (vp_in_nI (show i + 3 < L by omega) (by omega)) dL_law_267 ?_
    refine tp_i (y := xs (i + 3)) (by rw [nI_clamp (by omega)]) ?_
    refine lv_i2l hx hb dL_law_268 rfl ?_
    refine lv_bipush (v := 32) hx hb dL_law_269 (by decide) ?_
    refine lv_lshl hx hb dL_law_271 rfl ?_
    refine lv_aload_n hx hb dL_law_272 rfl (lv_at hl 0 rfl) ?_
    refine lv_iload hx hb dL_law_273 (lv_at hl 4 rfl) ?_
    refine lv_iconst (v := 4) hx hb dL_law_275 (by decide) ?_
    refine lv_iadd hx hb dL_law_276 ?_
    refine tp_i (y := nI (i + 4)) (nI_add i 4) ?_
    refine va_sld hx hb hX hbl hbA hS (vp_in_nI (show i + 4 < L by omega) (by omega)) dL_law_277 ?_
    refine tp_i (y := xs (i + 4)) (by rw [nI_clamp (by omega)]) ?_
    refine lv_i2l hx hb dL_law_278 rfl ?_
    refine lv_ldc2 (v := 4294967295) hx hb hown (hall _ kw_447) dL_law_279 ?_
    refine lv_land hx hb dL_law_282 ?_
    refine lv_lor hx hb dL_law_283 ?_
    refine tp_l (y := t) E_t.symm ?_
    refine lv_aload_n hx hb dL_law_284 rfl (lv_at hl 3 rfl) ?_
    have hPc := hP.sub (ws' := (wr x a1 a2 a3 a4 a5 a6 a7 cI cJ nD nR dv r cap ti va ev ed ec ad ac now)) [0, 1, 2, 3, 4, 5, 6, 7] rfl
    have hDc := hD.sub (ws' := (wr x a1 a2 a3 a4 a5 a6 a7 cI cJ nD nR dv r cap ti va ev ed ec ad ac now)) [0, 1, 2, 3, 4, 5, 6, 7] (by decide) rfl
    have hKc := hK.sub (tys' := [(cI, .int), (cJ, .long)]) [0, 1] rfl
    have hFc := va_free (wc := (wr x a1 a2 a3 a4 a5 a6 a7 cI cJ nD nR dv r cap ti va ev ed ec ad ac now)) hD hS hA [0, 1, 2, 3, 4, 5, 6, 7] rfl
    refine va_calli (xt_runSW (n := 5) (As := [.ref x, .int (nI d), .int mo, .long t, .ref q]) (rest := []) ⟨hx, hb, hml, hown, hall⟩ (h_assign4 l dC dI x a1 a2 a3 a4 a5 a6 a7 cI cJ nD nR dv r cap ti va ev ed ec ad ac now hst q H.size hI d mo t hd hz hg cut pl sm hcut hpl hsm hroom) gL_73 rfl rfl rfl (by decide +kernel) ⟨Nat.le_of_ble_eq_true rfl, Nat.le_of_ble_eq_true rfl⟩ ⟨xh_blind, fun U hU hW => ⟨rfl, by rw [hU], by rw [hU]; exact hPc, va_K.moved hW.alike hKc, hDc.weaken (fun _ _ _ _ => trivial), xt_move hW (fun z hz => by rw [hU]; exact hS.2.1 z hz (Nat.not_le.mpr hz)) hok, xt_nk_move hW.alike hnk⟩⟩ rfl rfl hl.1 rfl (lv_room (Nat.le_of_ble_eq_true rfl)) dL_law_285 ⟨by show _ ≤ 601024; omega, by show _ ≤ 7293000; omega⟩) hS (fun q _ h => hFc q h) hFc (fun v_1 u t9 H1 locs ht hvm hw hB hz1 hk1 hS => ?_)
    obtain ⟨hP1, hK1, hD1⟩ := hB
    rw [ht] at hP1
    obtain ⟨hP, hD⟩ := va_join (wr := (wm y b1 b2 b3 b4 b5 b6 b7 b8 b9 b10 cI cJ cZ th nD nR vs mac now o mt mw zs.length nv dl ec rt rv mk) ++ [(q, .inl (cJ, 1, .inr (.inl ou)))]) (w1 := (wr x a1 a2 a3 a4 a5 a6 a7 cI cJ nD nR dv r cap ti va ev ed ec ad ac now)) hP hD [0, 1, 2, 3, 4, 5, 6, 7] [8, 9, 10, 11, 12, 13, 14, 15, 16, 17, 18, 19] rfl rfl (by decide) (by decide) hk1 hFc hP1 hD1
    generalize H1 = H at hP hS ⊢
    have hP := hP.sub (ws' := (wlw x a1 a2 a3 a4 a5 a6 a7 y b1 b2 b3 b4 b5 b6 b7 b8 b9 b10 q cI cJ cZ nD nR dv r cap ti va ev ed ec ad ac now th vs mac now o mt mw zs.length nv dl ec rt rv mk ou)) [12, 13, 14, 15, 16, 17, 18, 19, 0, 1, 2, 3, 4, 5, 6, 7, 8, 9, 10, 11] rfl
    have hD := hD.sub (ws' := (wlw x a1 a2 a3 a4 a5 a6 a7 y b1 b2 b3 b4 b5 b6 b7 b8 b9 b10 q cI cJ cZ nD nR dv r cap ti va ev ed ec ad ac now th vs mac now o mt mw zs.length nv dl ec rt rv mk ou)) [12, 13, 14, 15, 16, 17, 18, 19, 0, 1, 2, 3, 4, 5, 6, 7, 8, 9, 10, 11] (by decide) rfl
    obtain rfl : v_1 = nI 2 := hw
    refine lv_istore (lv' := [(5, .int (nI 2)), (0, .ref b), (1, .ref x), (2, .ref y), (3, .ref q), (4, .int (nI i))]) hx hb dL_law_288 hl (by decide) rfl (fun ls hl => ?_)
    refine lv_aload_n hx hb dL_law_290 rfl (lv_at hl 3 rfl) ?_
    refine lv_aload_n hx hb dL_law_291 rfl (lv_at hl 1 rfl) ?_
    refine lv_iload hx hb dL_law_292 (lv_at hl 5 rfl) ?_
    refine lv_iconst (v := 1) hx hb dL_law_294 (by decide) ?_
    refine lv_iadd hx hb dL_law_295 ?_
    refine tp_i (y := nI (i + 1)) (nI_add i 1) ?_
    refine va_sld hx hb hX hbl hbA hS (vp_in_nI (show i + 1 < L by omega) (by omega)) dL_law_296 ?_
    refine tp_i (y := nI d) (by rw [nI_clamp (by omega)]; exact E_d0.symm) ?_
    refine lv_aload_n hx hb dL_law_297 rfl (lv_at hl 1 rfl) ?_
    refine lv_iload hx hb dL_law_298 (lv_at hl 5 rfl) ?_
    refine lv_iconst (v := 2) hx hb dL_law_300 (by decide) ?_
    refine lv_iadd hx hb dL_law_301 ?_
    refine tp_i (y := nI (i + 2)) (nI_add i 2) ?_
    refine va_sld hx hb hX hbl hbA hS (vp_in_nI (show i + 2 < L by omega) (by omega)) dL_law_302 ?_
    refine tp_i (y := mo) (by rw [nI_clamp (by omega)]; exact E_mo.symm) ?_
    refine lv_aload_n hx hb dL_law_303 rfl (lv_at hl 1 rfl) ?_
    refine lv_iload hx hb dL_law_304 (lv_at hl 5 rfl) ?_
    refine lv_iconst (v := 3) hx hb dL_law_306 (by decide) ?_
    refine lv_iadd hx hb dL_law_307 ?_
    refine tp_i (y := nI (i + 3)) (nI_add i 3) ?_
    refine va_sld hx hb hX hbl hbA hS (vp_in_nI (show i + 3 < L by omega) (by omega)) dL_law_308 ?_
    refine tp_i (y := xs (i + 3)) (by rw [nI_clamp (by omega)]) ?_
    refine lv_i2l hx hb dL_law_309 rfl ?_
    refine lv_bipush (v := 32) hx hb dL_law_310 (by decide) ?_
    refine lv_lshl hx hb dL_law_312 rfl ?_
    refine lv_aload_n hx hb dL_law_313 rfl (lv_at hl 1 rfl) ?_
    refine lv_iload hx hb dL_law_314 (lv_at hl 5 rfl) ?_
    refine lv_iconst (v := 4) hx hb dL_law_316 (by decide) ?_
    refine lv_iadd hx hb dL_law_317 ?_
    refine tp_i (y := nI (i + 4)) (nI_add i 4) ?_
    refine va_sld hx hb hX hbl hbA hS (vp_in_nI (show i + 4 < L by omega) (by omega)) dL_law_318 ?_
    refine tp_i (y := xs (i + 4)) (by rw [nI_clamp (by omega)]) ?_
    refine lv_i2l hx hb dL_law_319 rfl ?_
    refine lv_ldc2 (v := 4294967295) hx hb hown (hall _ kw_447) dL_law_320 ?_
    refine lv_land hx hb dL_law_323 ?_
    refine lv_lor hx hb dL_law_324 ?_
    refine tp_l (y := t) E_t.symm ?_
    have hPc := hP.sub (ws' := (wm y b1 b2 b3 b4 b5 b6 b7 b8 b9 b10 cI cJ cZ th nD nR vs mac now o mt mw zs.length nv dl ec rt rv mk)) [8, 9, 10, 11, 12, 13, 14, 15, 16, 17, 18] rfl
    have hDc := hD.sub (ws' := (wm y b1 b2 b3 b4 b5 b6 b7 b8 b9 b10 cI cJ cZ th nD nR vs mac now o mt mw zs.length nv dl ec rt rv mk)) [8, 9, 10, 11, 12, 13, 14, 15, 16, 17, 18] (by decide) rfl
    have hFc := va_free (wc := (wm y b1 b2 b3 b4 b5 b6 b7 b8 b9 b10 cI cJ cZ th nD nR vs mac now o mt mw zs.length nv dl ec rt rv mk)) hD hS hA [8, 9, 10, 11, 12, 13, 14, 15, 16, 17, 18] rfl
    refine va_calli (va_runV (As := [.int (nI d), .int mo, .long t]) (rest := []) ⟨hx, hb, hml, hown, hall⟩ (m_assign4 l dC dI y b1 b2 b3 b4 b5 b6 b7 b8 b9 b10 cI cJ cZ th nD nR vs mac now o mt mw nv dl ec rt rv mk zs H.size hIm hZ d hd mo t hz hg2 lm hlm (by rw [hs9, hln, hwc]; omega)) (cwV 3 hall gL_76 rfl rfl rfl (by decide +kernel) ⟨Nat.le_of_ble_eq_true rfl, Nat.le_of_ble_eq_true rfl⟩) ⟨xu_blind, va_recv hK hPc (ci := 1) (q0 := 0) rfl rfl, fun U hU hW => ⟨rfl, by rw [hU], by rw [hU]; exact hPc, va_K.moved hW.alike hK, hDc.weaken (fun _ _ _ _ => trivial)⟩⟩ rfl rfl hl.1 rfl (lv_room (Nat.le_of_ble_eq_true rfl)) dL_law_325 ⟨by show _ ≤ 601024; omega, by show _ ≤ 7293000; omega⟩) hS (fun q _ h => hFc q h) hFc (fun v_2 u9 t9 H1 locs ht hvm hw hB hz1 hk1 hS => ?_)
    obtain ⟨r9, v9, m9, hP1, hK1, hD1⟩ := hB
    rw [ht] at hP1
    obtain ⟨hP, hD⟩ := va_join (wr := (wr x a1 a2 a3 a4 a5 a6 a7 cI cJ nD nR dv r cap ti va ev ed ec ad ac now) ++ [(q, .inl (cJ, 1, .inr (.inl ou)))]) (w1 := (wm y b1 b2 b3 b4 b5 b6 b7 b8 b9 b10 cI cJ cZ 2 nD nR vs mac now o mt mw zs.length nv dl ec r9 v9 m9)) hP hD [8, 9, 10, 11, 12, 13, 14, 15, 16, 17, 18] [0, 1, 2, 3, 4, 5, 6, 7, 19] rfl rfl (by decide) (by decide) hk1 hFc hP1 hD1
    generalize H1 = H at hP hS ⊢
    have hP := hP.sub (ws' := (wlw x a1 a2 a3 a4 a5 a6 a7 y b1 b2 b3 b4 b5 b6 b7 b8 b9 b10 q cI cJ cZ nD nR dv r cap ti va ev ed ec ad ac now 2 vs mac now o mt mw zs.length nv dl ec r9 v9 m9 ou)) [0, 1, 2, 3, 4, 5, 6, 7, 9, 10, 11, 12, 13, 14, 15, 16, 17, 18, 19, 8] rfl
    have hD := hD.sub (ws' := (wlw x a1 a2 a3 a4 a5 a6 a7 y b1 b2 b3 b4 b5 b6 b7 b8 b9 b10 q cI cJ cZ nD nR dv r cap ti va ev ed ec ad ac now 2 vs mac now o mt mw zs.length nv dl ec r9 v9 m9 ou)) [0, 1, 2, 3, 4, 5, 6, 7, 9, 10, 11, 12, 13, 14, 15, 16, 17, 18, 19, 8] (by decide) rfl
    refine lv_istore (lv' := [(6, .int v_2), (5, .int (nI 2)), (0, .ref b), (1, .ref x), (2, .ref y), (3, .ref q), (4, .int (nI i))]) hx hb dL_law_328 hl (by decide) rfl (fun ls hl => ?_)
    refine lv_aload_n hx hb dL_law_330 rfl (lv_at hl 4 rfl) ?_
    have hPc := hP.sub (ws' := (wm y b1 b2 b3 b4 b5 b6 b7 b8 b9 b10 cI cJ cZ 2 nD nR vs mac now o mt mw zs.length nv dl ec r9 v9 m9)) [8, 9, 10, 11, 12, 13, 14, 15, 16, 17, 18] rfl
    refine vp_callSi (W.runV (As := []) (rest := []) ⟨hx, hb, hml, hown, hall⟩ (m_thrown l dC dI y b1 b2 b3 b4 b5 b6 b7 b8 b9 b10 cI cJ cZ 2 nD nR vs mac now o mt mw nv dl ec r9 v9 m9 zs) (cwV 0 hall gL_65 rfl rfl rfl (by decide +kernel) ⟨Nat.le_of_ble_eq_true rfl, Nat.le_of_ble_eq_true rfl⟩) ⟨xr_blind, va_recv hK hPc (ci := 1) (q0 := 0) rfl rfl, fun U hU hW => ⟨rfl, by rw [hU]; exact hPc, va_K.moved hW.alike hK⟩⟩ rfl rfl hl.1 rfl (lv_room (Nat.le_of_ble_eq_true rfl)) dL_law_331 ⟨by show _ ≤ 601024; omega, by show _ ≤ 7293000; omega⟩) (fun v_3 hv_4 => ?_)
    obtain rfl : v_3 = nI 2 := hv_4
    refine lv_iload hx hb dL_law_334 (lv_at hl 1 rfl) ?_
    refine lv_icmp_eq (tgt := 341) hx hb dL_law_336 (by decide) (fun c_5 => ?_) (fun c_5 => ?_)
    · refine lv_iload hx hb dL_law_341 (lv_at hl 1 rfl) ?_
      refine lv_if_ne (tgt := 358) hx hb dL_law_343 (by decide) (fun c_6 => ?_) (fun c_6 => ?_)
      · refine lv_goto (tgt := 920) hx hb dL_law_358 (by decide) ?_
        refine W.widen (k := 20 + 2 * i + 2) (n := 70000 + 6 * i + 6 + G) (by omega) (by omega) ?_
        exact KK a3 a4 dv r cap ti va ev ed ec ad ac now 2 vs mac o mt mw zs nv dl r9 v9 m9 ou G H locs hR hZ hG hP hD hS ls (lv_sub hl [2, 3, 4, 5, 6] rfl)
      · exact absurd c_6 (by decide)
    · exact absurd rfl c_5
  have hroom : r nD - (sm - pl + (r (d + 1) - cut)) + ec ≤ nR := by omega
  by_cases hq : r nD + (pl + cut - sm + ec) - r (d + 1) ≤ cap
  · refine lv_aload_n hx hb dL_law_249 rfl (lv_at hl 1 rfl) ?_
    refine lv_aload_n hx hb dL_law_250 rfl (lv_at hl 0 rfl) ?_
    refine lv_iload hx hb dL_law_251 (lv_at hl 4 rfl) ?_
    refine lv_iconst (v := 1) hx hb dL_law_253 (by decide) ?_
    refine lv_iadd hx hb dL_law_254 ?_
    refine tp_i (y := nI (i + 1)) (nI_add i 1) ?_
    refine va_sld hx hb hX hbl hbA hS (vp_in_nI (show i + 1 < L by omega) (by omega)) dL_law_255 ?_
    refine tp_i (y := nI d) (by rw [nI_clamp (by omega)]; exact E_d0.symm) ?_
    refine lv_aload_n hx hb dL_law_256 rfl (lv_at hl 0 rfl) ?_
    refine lv_iload hx hb dL_law_257 (lv_at hl 4 rfl) ?_
    refine lv_iconst (v := 2) hx hb dL_law_259 (by decide) ?_
    refine lv_iadd hx hb dL_law_260 ?_
    refine tp_i (y := nI (i + 2)) (nI_add i 2) ?_
    refine va_sld hx hb hX hbl hbA hS (vp_in_nI (show i + 2 < L by omega) (by omega)) dL_law_261 ?_
    refine tp_i (y := mo) (by rw [nI_clamp (by omega)]; exact E_mo.symm) ?_
    refine lv_aload_n hx hb dL_law_262 rfl (lv_at hl 0 rfl) ?_
    refine lv_iload hx hb dL_law_263 (lv_at hl 4 rfl) ?_
    refine lv_iconst (v := 3) hx hb dL_law_265 (by decide) ?_
    refine lv_iadd hx hb dL_law_266 ?_
    refine tp_i (y := nI (i + 3)) (nI_add i 3) ?_
    refine va_sld hx hb hX hbl hbA hS (vp_in_nI (show i + 3 < L by omega) (by omega)) dL_law_267 ?_
    refine tp_i (y := xs (i + 3)) (by rw [nI_clamp (by omega)]) ?_
    refine lv_i2l hx hb dL_law_268 rfl ?_
    refine lv_bipush (v := 32) hx hb dL_law_269 (by decide) ?_
    refine lv_lshl hx hb dL_law_271 rfl ?_
    refine lv_aload_n hx hb dL_law_272 rfl (lv_at hl 0 rfl) ?_
    refine lv_iload hx hb dL_law_273 (lv_at hl 4 rfl) ?_
    refine lv_iconst (v := 4) hx hb dL_law_275 (by decide) ?_
    refine lv_iadd hx hb dL_law_276 ?_
    refine tp_i (y := nI (i + 4)) (nI_add i 4) ?_
    refine va_sld hx hb hX hbl hbA hS (vp_in_nI (show i + 4 < L by omega) (by omega)) dL_law_277 ?_
    refine tp_i (y := xs (i + 4)) (by rw [nI_clamp (by omega)]) ?_
    refine lv_i2l hx hb dL_law_278 rfl ?_
    refine lv_ldc2 (v := 4294967295) hx hb hown (hall _ kw_447) dL_law_279 ?_
    refine lv_land hx hb dL_law_282 ?_
    refine lv_lor hx hb dL_law_283 ?_
    refine tp_l (y := t) E_t.symm ?_
    refine lv_aload_n hx hb dL_law_284 rfl (lv_at hl 3 rfl) ?_
    have hPc := hP.sub (ws' := (wr x a1 a2 a3 a4 a5 a6 a7 cI cJ nD nR dv r cap ti va ev ed ec ad ac now) ++ [(q, .inl (cJ, 1, .inr (.inl ou)))]) [0, 1, 2, 3, 4, 5, 6, 7, 19] rfl
    have hDc := hD.sub (ws' := (wr x a1 a2 a3 a4 a5 a6 a7 cI cJ nD nR dv r cap ti va ev ed ec ad ac now) ++ [(q, .inl (cJ, 1, .inr (.inl ou)))]) [0, 1, 2, 3, 4, 5, 6, 7, 19] (by decide) rfl
    have hKc := hK.sub (tys' := [(cI, .int), (cJ, .long)]) [0, 1] rfl
    have hFc := va_free (wc := (wr x a1 a2 a3 a4 a5 a6 a7 cI cJ nD nR dv r cap ti va ev ed ec ad ac now) ++ [(q, .inl (cJ, 1, .inr (.inl ou)))]) hD hS hA [0, 1, 2, 3, 4, 5, 6, 7, 19] rfl
    refine va_calli (xt_runSW (n := 5) (As := [.ref x, .int (nI d), .int mo, .long t, .ref q]) (rest := []) ⟨hx, hb, hml, hown, hall⟩ (h_assign0 l dC dI x a1 a2 a3 a4 a5 a6 a7 cI cJ nD nR dv r cap ti va ev ed ec ad ac now q ou H.size hI d mo t hd hz hg cut pl sm hcut hpl hsm hroom hq) gL_73 rfl rfl rfl (by decide +kernel) ⟨Nat.le_of_ble_eq_true rfl, Nat.le_of_ble_eq_true rfl⟩ ⟨xu_blind, fun U hU hW => ⟨rfl, by rw [hU], by rw [hU]; exact hPc, va_K.moved hW.alike hKc, hDc.weaken (fun _ _ _ _ => trivial)⟩⟩ rfl rfl hl.1 rfl (lv_room (Nat.le_of_ble_eq_true rfl)) dL_law_285 ⟨by show _ ≤ 601024; omega, by show _ ≤ 7293000; omega⟩) hS (fun q _ h => hFc q h) hFc (fun v_1 u t9 H1 locs ht hvm hw hB hz1 hk1 hS => ?_)
    obtain ⟨hP1, hK1, hD1⟩ := hB
    rw [ht] at hP1
    obtain ⟨hP, hD⟩ := va_join (wr := (wm y b1 b2 b3 b4 b5 b6 b7 b8 b9 b10 cI cJ cZ th nD nR vs mac now o mt mw zs.length nv dl ec rt rv mk)) (w1 := (wr x a1 a2 a3 a4 a5 a6 a7 cI cJ nD nR dv (wf_sh r d (pl + cut - sm + ec) (r (d + 1)) (nD + 1)) cap (wf_pt (va_cpy (va_cpy ti ti sm pl (cut - sm)) (va_cpy ti ti sm pl (cut - sm)) (r (d + 1)) (pl + cut - sm + ec) (r nD - r (d + 1))) (pl + cut - sm) (fun i => now + ed i) ec) (wf_pt (va_cpy (va_cpy va va sm pl (cut - sm)) (va_cpy va va sm pl (cut - sm)) (r (d + 1)) (pl + cut - sm + ec) (r nD - r (d + 1))) (pl + cut - sm) ev ec) ev ed 0 ad ac now) ++ [(q, .inl (cJ, 1, .inr (.inl (vp_updL ou 0 ((nI (sm - pl + (r (d + 1) - cut))).toInt64)))))]) hP hD [0, 1, 2, 3, 4, 5, 6, 7, 19] [8, 9, 10, 11, 12, 13, 14, 15, 16, 17, 18] rfl rfl (by decide) (by decide) hk1 hFc hP1 hD1
    generalize H1 = H at hP hS ⊢
    have hP := hP.sub (ws' := (wlw x a1 a2 a3 a4 a5 a6 a7 y b1 b2 b3 b4 b5 b6 b7 b8 b9 b10 q cI cJ cZ nD nR dv (wf_sh r d (pl + cut - sm + ec) (r (d + 1)) (nD + 1)) cap (wf_pt (va_cpy (va_cpy ti ti sm pl (cut - sm)) (va_cpy ti ti sm pl (cut - sm)) (r (d + 1)) (pl + cut - sm + ec) (r nD - r (d + 1))) (pl + cut - sm) (fun i => now + ed i) ec) (wf_pt (va_cpy (va_cpy va va sm pl (cut - sm)) (va_cpy va va sm pl (cut - sm)) (r (d + 1)) (pl + cut - sm + ec) (r nD - r (d + 1))) (pl + cut - sm) ev ec) ev ed 0 ad ac now th vs mac now o mt mw zs.length nv dl ec rt rv mk (vp_updL ou 0 ((nI (sm - pl + (r (d + 1) - cut))).toInt64)))) [11, 12, 13, 14, 15, 16, 17, 18, 0, 1, 2, 3, 4, 5, 6, 7, 8, 9, 10, 19] rfl
    have hD := hD.sub (ws' := (wlw x a1 a2 a3 a4 a5 a6 a7 y b1 b2 b3 b4 b5 b6 b7 b8 b9 b10 q cI cJ cZ nD nR dv (wf_sh r d (pl + cut - sm + ec) (r (d + 1)) (nD + 1)) cap (wf_pt (va_cpy (va_cpy ti ti sm pl (cut - sm)) (va_cpy ti ti sm pl (cut - sm)) (r (d + 1)) (pl + cut - sm + ec) (r nD - r (d + 1))) (pl + cut - sm) (fun i => now + ed i) ec) (wf_pt (va_cpy (va_cpy va va sm pl (cut - sm)) (va_cpy va va sm pl (cut - sm)) (r (d + 1)) (pl + cut - sm + ec) (r nD - r (d + 1))) (pl + cut - sm) ev ec) ev ed 0 ad ac now th vs mac now o mt mw zs.length nv dl ec rt rv mk (vp_updL ou 0 ((nI (sm - pl + (r (d + 1) - cut))).toInt64)))) [11, 12, 13, 14, 15, 16, 17, 18, 0, 1, 2, 3, 4, 5, 6, 7, 8, 9, 10, 19] (by decide) rfl
    obtain rfl : v_1 = 0 := hw
    refine tp_i (y := nI 0) nI_0.symm ?_
    refine lv_istore (lv' := [(5, .int (nI 0)), (0, .ref b), (1, .ref x), (2, .ref y), (3, .ref q), (4, .int (nI i))]) hx hb dL_law_288 hl (by decide) rfl (fun ls hl => ?_)
    refine lv_aload_n hx hb dL_law_290 rfl (lv_at hl 3 rfl) ?_
    refine lv_aload_n hx hb dL_law_291 rfl (lv_at hl 1 rfl) ?_
    refine lv_iload hx hb dL_law_292 (lv_at hl 5 rfl) ?_
    refine lv_iconst (v := 1) hx hb dL_law_294 (by decide) ?_
    refine lv_iadd hx hb dL_law_295 ?_
    refine tp_i (y := nI (i + 1)) (nI_add i 1) ?_
    refine va_sld hx hb hX hbl hbA hS (vp_in_nI (show i + 1 < L by omega) (by omega)) dL_law_296 ?_
    refine tp_i (y := nI d) (by rw [nI_clamp (by omega)]; exact E_d0.symm) ?_
    refine lv_aload_n hx hb dL_law_297 rfl (lv_at hl 1 rfl) ?_
    refine lv_iload hx hb dL_law_298 (lv_at hl 5 rfl) ?_
    refine lv_iconst (v := 2) hx hb dL_law_300 (by decide) ?_
    refine lv_iadd hx hb dL_law_301 ?_
    refine tp_i (y := nI (i + 2)) (nI_add i 2) ?_
    refine va_sld hx hb hX hbl hbA hS (vp_in_nI (show i + 2 < L by omega) (by omega)) dL_law_302 ?_
    refine tp_i (y := mo) (by rw [nI_clamp (by omega)]; exact E_mo.symm) ?_
    refine lv_aload_n hx hb dL_law_303 rfl (lv_at hl 1 rfl) ?_
    refine lv_iload hx hb dL_law_304 (lv_at hl 5 rfl) ?_
    refine lv_iconst (v := 3) hx hb dL_law_306 (by decide) ?_
    refine lv_iadd hx hb dL_law_307 ?_
    refine tp_i (y := nI (i + 3)) (nI_add i 3) ?_
    refine va_sld hx hb hX hbl hbA hS (vp_in_nI (show i + 3 < L by omega) (by omega)) dL_law_308 ?_
    refine tp_i (y := xs (i + 3)) (by rw [nI_clamp (by omega)]) ?_
    refine lv_i2l hx hb dL_law_309 rfl ?_
    refine lv_bipush (v := 32) hx hb dL_law_310 (by decide) ?_
    refine lv_lshl hx hb dL_law_312 rfl ?_
    refine lv_aload_n hx hb dL_law_313 rfl (lv_at hl 1 rfl) ?_
    refine lv_iload hx hb dL_law_314 (lv_at hl 5 rfl) ?_
    refine lv_iconst (v := 4) hx hb dL_law_316 (by decide) ?_
    refine lv_iadd hx hb dL_law_317 ?_
    refine tp_i (y := nI (i + 4)) (nI_add i 4) ?_
    refine va_sld hx hb hX hbl hbA hS (vp_in_nI (show i + 4 < L by omega) (by omega)) dL_law_318 ?_
    refine tp_i (y := xs (i + 4)) (by rw [nI_clamp (by omega)]) ?_
    refine lv_i2l hx hb dL_law_319 rfl ?_
    refine lv_ldc2 (v := 4294967295) hx hb hown (hall _ kw_447) dL_law_320 ?_
    refine lv_land hx hb dL_law_323 ?_
    refine lv_lor hx hb dL_law_324 ?_
    refine tp_l (y := t) E_t.symm ?_
    have hPc := hP.sub (ws' := (wm y b1 b2 b3 b4 b5 b6 b7 b8 b9 b10 cI cJ cZ th nD nR vs mac now o mt mw zs.length nv dl ec rt rv mk)) [8, 9, 10, 11, 12, 13, 14, 15, 16, 17, 18] rfl
    have hDc := hD.sub (ws' := (wm y b1 b2 b3 b4 b5 b6 b7 b8 b9 b10 cI cJ cZ th nD nR vs mac now o mt mw zs.length nv dl ec rt rv mk)) [8, 9, 10, 11, 12, 13, 14, 15, 16, 17, 18] (by decide) rfl
    have hFc := va_free (wc := (wm y b1 b2 b3 b4 b5 b6 b7 b8 b9 b10 cI cJ cZ th nD nR vs mac now o mt mw zs.length nv dl ec rt rv mk)) hD hS hA [8, 9, 10, 11, 12, 13, 14, 15, 16, 17, 18] rfl
    refine va_calli (va_runV (As := [.int (nI d), .int mo, .long t]) (rest := []) ⟨hx, hb, hml, hown, hall⟩ (m_assign0 l dC dI y b1 b2 b3 b4 b5 b6 b7 b8 b9 b10 cI cJ cZ th nD nR vs mac now o mt mw nv dl ec rt rv mk zs H.size hIm hZ d hd mo t hz hg2 lm hlm (by rw [hs9, hln, hwc]; omega)) (cwV 3 hall gL_76 rfl rfl rfl (by decide +kernel) ⟨Nat.le_of_ble_eq_true rfl, Nat.le_of_ble_eq_true rfl⟩) ⟨xu_blind, va_recv hK hPc (ci := 1) (q0 := 0) rfl rfl, fun U hU hW => ⟨rfl, by rw [hU], by rw [hU]; exact hPc, va_K.moved hW.alike hK, hDc.weaken (fun _ _ _ _ => trivial)⟩⟩ rfl rfl hl.1 rfl (lv_room (Nat.le_of_ble_eq_true rfl)) dL_law_325 ⟨by show _ ≤ 601024; omega, by show _ ≤ 7293000; omega⟩) hS (fun q _ h => hFc q h) hFc (fun v_2 u9 t9 H1 locs ht hvm hw hB hz1 hk1 hS => ?_)
    obtain ⟨o9, t8, w9, r9, v9, m9, hZ9, hP1, hK1, hD1⟩ := hB
    rw [ht] at hP1
    obtain ⟨hP, hD⟩ := va_join (wr := (wr x a1 a2 a3 a4 a5 a6 a7 cI cJ nD nR dv (wf_sh r d (pl + cut - sm + ec) (r (d + 1)) (nD + 1)) cap (wf_pt (va_cpy (va_cpy ti ti sm pl (cut - sm)) (va_cpy ti ti sm pl (cut - sm)) (r (d + 1)) (pl + cut - sm + ec) (r nD - r (d + 1))) (pl + cut - sm) (fun i => now + ed i) ec) (wf_pt (va_cpy (va_cpy va va sm pl (cut - sm)) (va_cpy va va sm pl (cut - sm)) (r (d + 1)) (pl + cut - sm + ec) (r nD - r (d + 1))) (pl + cut - sm) ev ec) ev ed 0 ad ac now) ++ [(q, .inl (cJ, 1, .inr (.inl (vp_updL ou 0 ((nI (sm - pl + (r (d + 1) - cut))).toInt64)))))]) (w1 := (wm y b1 b2 b3 b4 b5 b6 b7 b8 b9 b10 cI cJ cZ 0 nD nR vs mac now o9 t8 w9 ((wot d zs ++ wml d (wmr (wro d (now + dl 0) lm mo zs ++ wel now dl nv ec 0))).length) nv dl 0 r9 v9 m9)) hP hD [8, 9, 10, 11, 12, 13, 14, 15, 16, 17, 18] [0, 1, 2, 3, 4, 5, 6, 7, 19] rfl rfl (by decide) (by decide) hk1 hFc hP1 hD1
    generalize H1 = H at hP hS ⊢
    have hP := hP.sub (ws' := (wlw x a1 a2 a3 a4 a5 a6 a7 y b1 b2 b3 b4 b5 b6 b7 b8 b9 b10 q cI cJ cZ nD nR dv (wf_sh r d (pl + cut - sm + ec) (r (d + 1)) (nD + 1)) cap (wf_pt (va_cpy (va_cpy ti ti sm pl (cut - sm)) (va_cpy ti ti sm pl (cut - sm)) (r (d + 1)) (pl + cut - sm + ec) (r nD - r (d + 1))) (pl + cut - sm) (fun i => now + ed i) ec) (wf_pt (va_cpy (va_cpy va va sm pl (cut - sm)) (va_cpy va va sm pl (cut - sm)) (r (d + 1)) (pl + cut - sm + ec) (r nD - r (d + 1))) (pl + cut - sm) ev ec) ev ed 0 ad ac now 0 vs mac now o9 t8 w9 ((wot d zs ++ wml d (wmr (wro d (now + dl 0) lm mo zs ++ wel now dl nv ec 0))).length) nv dl 0 r9 v9 m9 (vp_updL ou 0 ((nI (sm - pl + (r (d + 1) - cut))).toInt64)))) [0, 1, 2, 3, 4, 5, 6, 7, 9, 10, 11, 12, 13, 14, 15, 16, 17, 18, 19, 8] rfl
    have hD := hD.sub (ws' := (wlw x a1 a2 a3 a4 a5 a6 a7 y b1 b2 b3 b4 b5 b6 b7 b8 b9 b10 q cI cJ cZ nD nR dv (wf_sh r d (pl + cut - sm + ec) (r (d + 1)) (nD + 1)) cap (wf_pt (va_cpy (va_cpy ti ti sm pl (cut - sm)) (va_cpy ti ti sm pl (cut - sm)) (r (d + 1)) (pl + cut - sm + ec) (r nD - r (d + 1))) (pl + cut - sm) (fun i => now + ed i) ec) (wf_pt (va_cpy (va_cpy va va sm pl (cut - sm)) (va_cpy va va sm pl (cut - sm)) (r (d + 1)) (pl + cut - sm + ec) (r nD - r (d + 1))) (pl + cut - sm) ev ec) ev ed 0 ad ac now 0 vs mac now o9 t8 w9 ((wot d zs ++ wml d (wmr (wro d (now + dl 0) lm mo zs ++ wel now dl nv ec 0))).length) nv dl 0 r9 v9 m9 (vp_updL ou 0 ((nI (sm - pl + (r (d + 1) - cut))).toInt64)))) [0, 1, 2, 3, 4, 5, 6, 7, 9, 10, 11, 12, 13, 14, 15, 16, 17, 18, 19, 8] (by decide) rfl
    refine tp_i (y := nI (sm - pl + (r (d + 1) - cut))) (hw.trans (by rw [hs9, hwc]; congr 1; omega)) ?_
    refine lv_istore (lv' := [(6, .int (nI (sm - pl + (r (d + 1) - cut)))), (5, .int (nI 0)), (0, .ref b), (1, .ref x), (2, .ref y), (3, .ref q), (4, .int (nI i))]) hx hb dL_law_328 hl (by decide) rfl (fun ls hl => ?_)
    refine lv_aload_n hx hb dL_law_330 rfl (lv_at hl 4 rfl) ?_
    have hPc := hP.sub (ws' := (wm y b1 b2 b3 b4 b5 b6 b7 b8 b9 b10 cI cJ cZ 0 nD nR vs mac now o9 t8 w9 ((wot d zs ++ wml d (wmr (wro d (now + dl 0) lm mo zs ++ wel now dl nv ec 0))).length) nv dl 0 r9 v9 m9)) [8, 9, 10, 11, 12, 13, 14, 15, 16, 17, 18] rfl
    refine vp_callSi (W.runV (As := []) (rest := []) ⟨hx, hb, hml, hown, hall⟩ (m_thrown l dC dI y b1 b2 b3 b4 b5 b6 b7 b8 b9 b10 cI cJ cZ 0 nD nR vs mac now o9 t8 w9 nv dl 0 r9 v9 m9 (wot d zs ++ wml d (wmr (wro d (now + dl 0) lm mo zs ++ wel now dl nv ec 0)))) (cwV 0 hall gL_65 rfl rfl rfl (by decide +kernel) ⟨Nat.le_of_ble_eq_true rfl, Nat.le_of_ble_eq_true rfl⟩) ⟨xr_blind, va_recv hK hPc (ci := 1) (q0 := 0) rfl rfl, fun U hU hW => ⟨rfl, by rw [hU]; exact hPc, va_K.moved hW.alike hK⟩⟩ rfl rfl hl.1 rfl (lv_room (Nat.le_of_ble_eq_true rfl)) dL_law_331 ⟨by show _ ≤ 601024; omega, by show _ ≤ 7293000; omega⟩) (fun v_3 hv_4 => ?_)
    obtain rfl : v_3 = nI 0 := hv_4
    refine lv_iload hx hb dL_law_334 (lv_at hl 1 rfl) ?_
    refine lv_icmp_eq (tgt := 341) hx hb dL_law_336 (by decide) (fun c_5 => ?_) (fun c_5 => ?_)
    · refine lv_iload hx hb dL_law_341 (lv_at hl 1 rfl) ?_
      refine lv_if_ne (tgt := 358) hx hb dL_law_343 (by decide) (fun c_6 => ?_) (fun c_6 => ?_)
      · exact absurd nI_0 c_6
      · refine lv_aload_n hx hb dL_law_346 rfl (lv_at hl 5 rfl) ?_
        refine lv_iconst (v := 0) hx hb dL_law_347 (by decide) ?_
        refine tp_i (y := nI 0) nI_0.symm ?_
        refine xa_lald hx hb hK hP 19 1 rfl rfl (Nat.lt_succ_self 0) (by omega) dL_law_348 ?_
        refine tp_l (y := (nI (sm - pl + (r (d + 1) - cut))).toInt64) pk_uLs ?_
        refine lv_iload hx hb dL_law_349 (lv_at hl 0 rfl) ?_
        refine lv_i2l hx hb dL_law_351 rfl ?_
        refine xl_eq (tgt := 358) hx hb dL_law_352 dL_law_353 (by decide) (fun c_7 => ?_) (fun c_7 => ?_)
        · refine lv_goto (tgt := 920) hx hb dL_law_358 (by decide) ?_
          refine W.widen (k := 20 + 2 * i + 2) (n := 70000 + 6 * i + 6 + G) (by omega) (by omega) ?_
          exact KK a3 a4 dv (wf_sh r d (pl + cut - sm + ec) (r (d + 1)) (nD + 1)) cap (wf_pt (va_cpy (va_cpy ti ti sm pl (cut - sm)) (va_cpy ti ti sm pl (cut - sm)) (r (d + 1)) (pl + cut - sm + ec) (r nD - r (d + 1))) (pl + cut - sm) (fun i => now + ed i) ec) (wf_pt (va_cpy (va_cpy va va sm pl (cut - sm)) (va_cpy va va sm pl (cut - sm)) (r (d + 1)) (pl + cut - sm + ec) (r nD - r (d + 1))) (pl + cut - sm) ev ec) ev ed 0 ad ac now 0 vs mac o9 t8 w9 (wot d zs ++ wml d (wmr (wro d (now + dl 0) lm mo zs ++ wel now dl nv ec 0))) nv dl r9 v9 m9 (vp_updL ou 0 ((nI (sm - pl + (r (d + 1) - cut))).toInt64)) G H locs (wrel_assign (cap' := cap) (T1 := (va_cpy ti ti sm pl (cut - sm))) (V1 := (va_cpy va va sm pl (cut - sm))) hR hd hz hg hcut hpl hsm hlm hroom hq hcap (fun _ _ => rfl) (fun _ _ => rfl)) hZ9 hG hP hD hS ls (lv_sub hl [2, 3, 4, 5, 6] rfl)
        · exact absurd rfl c_7
    · exact absurd rfl c_5
  · obtain ⟨np, hnp⟩ : ∃ z : Nat, z = max (r nD + (pl + cut - sm + ec) - r (d + 1)) (min nR (2 * cap)) := ⟨_, rfl⟩
    have hnpR : np ≤ nR := by omega
    refine lv_aload_n hx hb dL_law_249 rfl (lv_at hl 1 rfl) ?_
    refine lv_aload_n hx hb dL_law_250 rfl (lv_at hl 0 rfl) ?_
    refine lv_iload hx hb dL_law_251 (lv_at hl 4 rfl) ?_
    refine lv_iconst (v := 1) hx hb dL_law_253 (by decide) ?_
    refine lv_iadd hx hb dL_law_254 ?_
    refine tp_i (y := nI (i + 1)) (nI_add i 1) ?_
    refine va_sld hx hb hX hbl hbA hS (vp_in_nI (show i + 1 < L by omega) (by omega)) dL_law_255 ?_
    refine tp_i (y := nI d) (by rw [nI_clamp (by omega)]; exact E_d0.symm) ?_
    refine lv_aload_n hx hb dL_law_256 rfl (lv_at hl 0 rfl) ?_
    refine lv_iload hx hb dL_law_257 (lv_at hl 4 rfl) ?_
    refine lv_iconst (v := 2) hx hb dL_law_259 (by decide) ?_
    refine lv_iadd hx hb dL_law_260 ?_
    refine tp_i (y := nI (i + 2)) (nI_add i 2) ?_
    refine va_sld hx hb hX hbl hbA hS (vp_in_nI (show i + 2 < L by omega) (by omega)) dL_law_261 ?_
    refine tp_i (y := mo) (by rw [nI_clamp (by omega)]; exact E_mo.symm) ?_
    refine lv_aload_n hx hb dL_law_262 rfl (lv_at hl 0 rfl) ?_
    refine lv_iload hx hb dL_law_263 (lv_at hl 4 rfl) ?_
    refine lv_iconst (v := 3) hx hb dL_law_265 (by decide) ?_
    refine lv_iadd hx hb dL_law_266 ?_
    refine tp_i (y := nI (i + 3)) (nI_add i 3) ?_
    refine va_sld hx hb hX hbl hbA hS (vp_in_nI (show i + 3 < L by omega) (by omega)) dL_law_267 ?_
    refine tp_i (y := xs (i + 3)) (by rw [nI_clamp (by omega)]) ?_
    refine lv_i2l hx hb dL_law_268 rfl ?_
    refine lv_bipush (v := 32) hx hb dL_law_269 (by decide) ?_
    refine lv_lshl hx hb dL_law_271 rfl ?_
    refine lv_aload_n hx hb dL_law_272 rfl (lv_at hl 0 rfl) ?_
    refine lv_iload hx hb dL_law_273 (lv_at hl 4 rfl) ?_
    refine lv_iconst (v := 4) hx hb dL_law_275 (by decide) ?_
    refine lv_iadd hx hb dL_law_276 ?_
    refine tp_i (y := nI (i + 4)) (nI_add i 4) ?_
    refine va_sld hx hb hX hbl hbA hS (vp_in_nI (show i + 4 < L by omega) (by omega)) dL_law_277 ?_
    refine tp_i (y := xs (i + 4)) (by rw [nI_clamp (by omega)]) ?_
    refine lv_i2l hx hb dL_law_278 rfl ?_
    refine lv_ldc2 (v := 4294967295) hx hb hown (hall _ kw_447) dL_law_279 ?_
    refine lv_land hx hb dL_law_282 ?_
    refine lv_lor hx hb dL_law_283 ?_
    refine tp_l (y := t) E_t.symm ?_
    refine lv_aload_n hx hb dL_law_284 rfl (lv_at hl 3 rfl) ?_
    have hPc := hP.sub (ws' := (wr x a1 a2 a3 a4 a5 a6 a7 cI cJ nD nR dv r cap ti va ev ed ec ad ac now) ++ [(q, .inl (cJ, 1, .inr (.inl ou)))]) [0, 1, 2, 3, 4, 5, 6, 7, 19] rfl
    have hDc := hD.sub (ws' := (wr x a1 a2 a3 a4 a5 a6 a7 cI cJ nD nR dv r cap ti va ev ed ec ad ac now) ++ [(q, .inl (cJ, 1, .inr (.inl ou)))]) [0, 1, 2, 3, 4, 5, 6, 7, 19] (by decide) rfl
    have hKc := hK.sub (tys' := [(cI, .int), (cJ, .long)]) [0, 1] rfl
    have hFc := va_free (wc := (wr x a1 a2 a3 a4 a5 a6 a7 cI cJ nD nR dv r cap ti va ev ed ec ad ac now) ++ [(q, .inl (cJ, 1, .inr (.inl ou)))]) hD hS hA [0, 1, 2, 3, 4, 5, 6, 7, 19] rfl
    refine va_calli (xt_runSW (n := 5) (As := [.ref x, .int (nI d), .int mo, .long t, .ref q]) (rest := []) ⟨hx, hb, hml, hown, hall⟩ (h_assign5 l dC dI x a1 a2 a3 a4 a5 a6 a7 cI cJ nD nR dv r cap ti va ev ed ec ad ac now q ou H.size hI d mo t hd hz hg cut pl sm hcut hpl hsm hroom (by omega) np hnp) gL_73 rfl rfl rfl (by decide +kernel) ⟨Nat.le_of_ble_eq_true rfl, Nat.le_of_ble_eq_true rfl⟩ ⟨xu_blind, fun U hU hW => ⟨rfl, by rw [hU], by rw [hU]; exact hPc, va_K.moved hW.alike hKc, hDc.weaken (fun _ _ _ _ => trivial)⟩⟩ rfl rfl hl.1 rfl (lv_room (Nat.le_of_ble_eq_true rfl)) dL_law_285 ⟨by show _ ≤ 601024; omega, by show _ ≤ 7293000; omega⟩) hS (fun q _ h => hFc q h) hFc (fun v_1 u t9 H1 locs ht hvm hw hB hz1 hk1 hS => ?_)
    obtain ⟨e3, e4, hP1, hK1, hD1⟩ := hB
    rw [ht] at hP1
    obtain ⟨hP, hD⟩ := va_join (wr := (wm y b1 b2 b3 b4 b5 b6 b7 b8 b9 b10 cI cJ cZ th nD nR vs mac now o mt mw zs.length nv dl ec rt rv mk)) (w1 := (wr x a1 a2 e3 e4 a5 a6 a7 cI cJ nD nR dv (wf_sh r d (pl + cut - sm + ec) (r (d + 1)) (nD + 1)) np (wf_pt (va_cpy (va_cpy (va_cpy ti ti sm pl (cut - sm)) (fun _ => 0) 0 0 cap) (va_cpy (va_cpy ti ti sm pl (cut - sm)) (fun _ => 0) 0 0 cap) (r (d + 1)) (pl + cut - sm + ec) (r nD - r (d + 1))) (pl + cut - sm) (fun i => now + ed i) ec) (wf_pt (va_cpy (va_cpy (va_cpy va va sm pl (cut - sm)) (fun _ => 0) 0 0 cap) (va_cpy (va_cpy va va sm pl (cut - sm)) (fun _ => 0) 0 0 cap) (r (d + 1)) (pl + cut - sm + ec) (r nD - r (d + 1))) (pl + cut - sm) ev ec) ev ed 0 ad ac now) ++ [(q, .inl (cJ, 1, .inr (.inl (vp_updL ou 0 ((nI (sm - pl + (r (d + 1) - cut))).toInt64)))))]) hP hD [0, 1, 2, 3, 4, 5, 6, 7, 19] [8, 9, 10, 11, 12, 13, 14, 15, 16, 17, 18] rfl rfl (by decide) (by decide) hk1 hFc hP1 hD1
    generalize H1 = H at hP hS ⊢
    have hP := hP.sub (ws' := (wlw x a1 a2 e3 e4 a5 a6 a7 y b1 b2 b3 b4 b5 b6 b7 b8 b9 b10 q cI cJ cZ nD nR dv (wf_sh r d (pl + cut - sm + ec) (r (d + 1)) (nD + 1)) np (wf_pt (va_cpy (va_cpy (va_cpy ti ti sm pl (cut - sm)) (fun _ => 0) 0 0 cap) (va_cpy (va_cpy ti ti sm pl (cut - sm)) (fun _ => 0) 0 0 cap) (r (d + 1)) (pl + cut - sm + ec) (r nD - r (d + 1))) (pl + cut - sm) (fun i => now + ed i) ec) (wf_pt (va_cpy (va_cpy (va_cpy va va sm pl (cut - sm)) (fun _ => 0) 0 0 cap) (va_cpy (va_cpy va va sm pl (cut - sm)) (fun _ => 0) 0 0 cap) (r (d + 1)) (pl + cut - sm + ec) (r nD - r (d + 1))) (pl + cut - sm) ev ec) ev ed 0 ad ac now th vs mac now o mt mw zs.length nv dl ec rt rv mk (vp_updL ou 0 ((nI (sm - pl + (r (d + 1) - cut))).toInt64)))) [11, 12, 13, 14, 15, 16, 17, 18, 0, 1, 2, 3, 4, 5, 6, 7, 8, 9, 10, 19] rfl
    have hD := hD.sub (ws' := (wlw x a1 a2 e3 e4 a5 a6 a7 y b1 b2 b3 b4 b5 b6 b7 b8 b9 b10 q cI cJ cZ nD nR dv (wf_sh r d (pl + cut - sm + ec) (r (d + 1)) (nD + 1)) np (wf_pt (va_cpy (va_cpy (va_cpy ti ti sm pl (cut - sm)) (fun _ => 0) 0 0 cap) (va_cpy (va_cpy ti ti sm pl (cut - sm)) (fun _ => 0) 0 0 cap) (r (d + 1)) (pl + cut - sm + ec) (r nD - r (d + 1))) (pl + cut - sm) (fun i => now + ed i) ec) (wf_pt (va_cpy (va_cpy (va_cpy va va sm pl (cut - sm)) (fun _ => 0) 0 0 cap) (va_cpy (va_cpy va va sm pl (cut - sm)) (fun _ => 0) 0 0 cap) (r (d + 1)) (pl + cut - sm + ec) (r nD - r (d + 1))) (pl + cut - sm) ev ec) ev ed 0 ad ac now th vs mac now o mt mw zs.length nv dl ec rt rv mk (vp_updL ou 0 ((nI (sm - pl + (r (d + 1) - cut))).toInt64)))) [11, 12, 13, 14, 15, 16, 17, 18, 0, 1, 2, 3, 4, 5, 6, 7, 8, 9, 10, 19] (by decide) rfl
    obtain rfl : v_1 = 0 := hw
    refine tp_i (y := nI 0) nI_0.symm ?_
    refine lv_istore (lv' := [(5, .int (nI 0)), (0, .ref b), (1, .ref x), (2, .ref y), (3, .ref q), (4, .int (nI i))]) hx hb dL_law_288 hl (by decide) rfl (fun ls hl => ?_)
    refine lv_aload_n hx hb dL_law_290 rfl (lv_at hl 3 rfl) ?_
    refine lv_aload_n hx hb dL_law_291 rfl (lv_at hl 1 rfl) ?_
    refine lv_iload hx hb dL_law_292 (lv_at hl 5 rfl) ?_
    refine lv_iconst (v := 1) hx hb dL_law_294 (by decide) ?_
    refine lv_iadd hx hb dL_law_295 ?_
    refine tp_i (y := nI (i + 1)) (nI_add i 1) ?_
    refine va_sld hx hb hX hbl hbA hS (vp_in_nI (show i + 1 < L by omega) (by omega)) dL_law_296 ?_
    refine tp_i (y := nI d) (by rw [nI_clamp (by omega)]; exact E_d0.symm) ?_
    refine lv_aload_n hx hb dL_law_297 rfl (lv_at hl 1 rfl) ?_
    refine lv_iload hx hb dL_law_298 (lv_at hl 5 rfl) ?_
    refine lv_iconst (v := 2) hx hb dL_law_300 (by decide) ?_
    refine lv_iadd hx hb dL_law_301 ?_
    refine tp_i (y := nI (i + 2)) (nI_add i 2) ?_
    refine va_sld hx hb hX hbl hbA hS (vp_in_nI (show i + 2 < L by omega) (by omega)) dL_law_302 ?_
    refine tp_i (y := mo) (by rw [nI_clamp (by omega)]; exact E_mo.symm) ?_
    refine lv_aload_n hx hb dL_law_303 rfl (lv_at hl 1 rfl) ?_
    refine lv_iload hx hb dL_law_304 (lv_at hl 5 rfl) ?_
    refine lv_iconst (v := 3) hx hb dL_law_306 (by decide) ?_
    refine lv_iadd hx hb dL_law_307 ?_
    refine tp_i (y := nI (i + 3)) (nI_add i 3) ?_
    refine va_sld hx hb hX hbl hbA hS (vp_in_nI (show i + 3 < L by omega) (by omega)) dL_law_308 ?_
    refine tp_i (y := xs (i + 3)) (by rw [nI_clamp (by omega)]) ?_
    refine lv_i2l hx hb dL_law_309 rfl ?_
    refine lv_bipush (v := 32) hx hb dL_law_310 (by decide) ?_
    refine lv_lshl hx hb dL_law_312 rfl ?_
    refine lv_aload_n hx hb dL_law_313 rfl (lv_at hl 1 rfl) ?_
    refine lv_iload hx hb dL_law_314 (lv_at hl 5 rfl) ?_
    refine lv_iconst (v := 4) hx hb dL_law_316 (by decide) ?_
    refine lv_iadd hx hb dL_law_317 ?_
    refine tp_i (y := nI (i + 4)) (nI_add i 4) ?_
    refine va_sld hx hb hX hbl hbA hS (vp_in_nI (show i + 4 < L by omega) (by omega)) dL_law_318 ?_
    refine tp_i (y := xs (i + 4)) (by rw [nI_clamp (by omega)]) ?_
    refine lv_i2l hx hb dL_law_319 rfl ?_
    refine lv_ldc2 (v := 4294967295) hx hb hown (hall _ kw_447) dL_law_320 ?_
    refine lv_land hx hb dL_law_323 ?_
    refine lv_lor hx hb dL_law_324 ?_
    refine tp_l (y := t) E_t.symm ?_
    have hPc := hP.sub (ws' := (wm y b1 b2 b3 b4 b5 b6 b7 b8 b9 b10 cI cJ cZ th nD nR vs mac now o mt mw zs.length nv dl ec rt rv mk)) [8, 9, 10, 11, 12, 13, 14, 15, 16, 17, 18] rfl
    have hDc := hD.sub (ws' := (wm y b1 b2 b3 b4 b5 b6 b7 b8 b9 b10 cI cJ cZ th nD nR vs mac now o mt mw zs.length nv dl ec rt rv mk)) [8, 9, 10, 11, 12, 13, 14, 15, 16, 17, 18] (by decide) rfl
    have hFc := va_free (wc := (wm y b1 b2 b3 b4 b5 b6 b7 b8 b9 b10 cI cJ cZ th nD nR vs mac now o mt mw zs.length nv dl ec rt rv mk)) hD hS hA [8, 9, 10, 11, 12, 13, 14, 15, 16, 17, 18] rfl
    refine va_calli (va_runV (As := [.int (nI d), .int mo, .long t]) (rest := []) ⟨hx, hb, hml, hown, hall⟩ (m_assign0 l dC dI y b1 b2 b3 b4 b5 b6 b7 b8 b9 b10 cI cJ cZ th nD nR vs mac now o mt mw nv dl ec rt rv mk zs H.size hIm hZ d hd mo t hz hg2 lm hlm (by rw [hs9, hln, hwc]; omega)) (cwV 3 hall gL_76 rfl rfl rfl (by decide +kernel) ⟨Nat.le_of_ble_eq_true rfl, Nat.le_of_ble_eq_true rfl⟩) ⟨xu_blind, va_recv hK hPc (ci := 1) (q0 := 0) rfl rfl, fun U hU hW => ⟨rfl, by rw [hU], by rw [hU]; exact hPc, va_K.moved hW.alike hK, hDc.weaken (fun _ _ _ _ => trivial)⟩⟩ rfl rfl hl.1 rfl (lv_room (Nat.le_of_ble_eq_true rfl)) dL_law_325 ⟨by show _ ≤ 601024; omega, by show _ ≤ 7293000; omega⟩) hS (fun q _ h => hFc q h) hFc (fun v_2 u9 t9 H1 locs ht hvm hw hB hz1 hk1 hS => ?_)
    obtain ⟨o9, t8, w9, r9, v9, m9, hZ9, hP1, hK1, hD1⟩ := hB
    rw [ht] at hP1
    obtain ⟨hP, hD⟩ := va_join (wr := (wr x a1 a2 e3 e4 a5 a6 a7 cI cJ nD nR dv (wf_sh r d (pl + cut - sm + ec) (r (d + 1)) (nD + 1)) np (wf_pt (va_cpy (va_cpy (va_cpy ti ti sm pl (cut - sm)) (fun _ => 0) 0 0 cap) (va_cpy (va_cpy ti ti sm pl (cut - sm)) (fun _ => 0) 0 0 cap) (r (d + 1)) (pl + cut - sm + ec) (r nD - r (d + 1))) (pl + cut - sm) (fun i => now + ed i) ec) (wf_pt (va_cpy (va_cpy (va_cpy va va sm pl (cut - sm)) (fun _ => 0) 0 0 cap) (va_cpy (va_cpy va va sm pl (cut - sm)) (fun _ => 0) 0 0 cap) (r (d + 1)) (pl + cut - sm + ec) (r nD - r (d + 1))) (pl + cut - sm) ev ec) ev ed 0 ad ac now) ++ [(q, .inl (cJ, 1, .inr (.inl (vp_updL ou 0 ((nI (sm - pl + (r (d + 1) - cut))).toInt64)))))]) (w1 := (wm y b1 b2 b3 b4 b5 b6 b7 b8 b9 b10 cI cJ cZ 0 nD nR vs mac now o9 t8 w9 ((wot d zs ++ wml d (wmr (wro d (now + dl 0) lm mo zs ++ wel now dl nv ec 0))).length) nv dl 0 r9 v9 m9)) hP hD [8, 9, 10, 11, 12, 13, 14, 15, 16, 17, 18] [0, 1, 2, 3, 4, 5, 6, 7, 19] rfl rfl (by decide) (by decide) hk1 hFc hP1 hD1
    generalize H1 = H at hP hS ⊢
    have hP := hP.sub (ws' := (wlw x a1 a2 e3 e4 a5 a6 a7 y b1 b2 b3 b4 b5 b6 b7 b8 b9 b10 q cI cJ cZ nD nR dv (wf_sh r d (pl + cut - sm + ec) (r (d + 1)) (nD + 1)) np (wf_pt (va_cpy (va_cpy (va_cpy ti ti sm pl (cut - sm)) (fun _ => 0) 0 0 cap) (va_cpy (va_cpy ti ti sm pl (cut - sm)) (fun _ => 0) 0 0 cap) (r (d + 1)) (pl + cut - sm + ec) (r nD - r (d + 1))) (pl + cut - sm) (fun i => now + ed i) ec) (wf_pt (va_cpy (va_cpy (va_cpy va va sm pl (cut - sm)) (fun _ => 0) 0 0 cap) (va_cpy (va_cpy va va sm pl (cut - sm)) (fun _ => 0) 0 0 cap) (r (d + 1)) (pl + cut - sm + ec) (r nD - r (d + 1))) (pl + cut - sm) ev ec) ev ed 0 ad ac now 0 vs mac now o9 t8 w9 ((wot d zs ++ wml d (wmr (wro d (now + dl 0) lm mo zs ++ wel now dl nv ec 0))).length) nv dl 0 r9 v9 m9 (vp_updL ou 0 ((nI (sm - pl + (r (d + 1) - cut))).toInt64)))) [0, 1, 2, 3, 4, 5, 6, 7, 9, 10, 11, 12, 13, 14, 15, 16, 17, 18, 19, 8] rfl
    have hD := hD.sub (ws' := (wlw x a1 a2 e3 e4 a5 a6 a7 y b1 b2 b3 b4 b5 b6 b7 b8 b9 b10 q cI cJ cZ nD nR dv (wf_sh r d (pl + cut - sm + ec) (r (d + 1)) (nD + 1)) np (wf_pt (va_cpy (va_cpy (va_cpy ti ti sm pl (cut - sm)) (fun _ => 0) 0 0 cap) (va_cpy (va_cpy ti ti sm pl (cut - sm)) (fun _ => 0) 0 0 cap) (r (d + 1)) (pl + cut - sm + ec) (r nD - r (d + 1))) (pl + cut - sm) (fun i => now + ed i) ec) (wf_pt (va_cpy (va_cpy (va_cpy va va sm pl (cut - sm)) (fun _ => 0) 0 0 cap) (va_cpy (va_cpy va va sm pl (cut - sm)) (fun _ => 0) 0 0 cap) (r (d + 1)) (pl + cut - sm + ec) (r nD - r (d + 1))) (pl + cut - sm) ev ec) ev ed 0 ad ac now 0 vs mac now o9 t8 w9 ((wot d zs ++ wml d (wmr (wro d (now + dl 0) lm mo zs ++ wel now dl nv ec 0))).length) nv dl 0 r9 v9 m9 (vp_updL ou 0 ((nI (sm - pl + (r (d + 1) - cut))).toInt64)))) [0, 1, 2, 3, 4, 5, 6, 7, 9, 10, 11, 12, 13, 14, 15, 16, 17, 18, 19, 8] (by decide) rfl
    refine tp_i (y := nI (sm - pl + (r (d + 1) - cut))) (hw.trans (by rw [hs9, hwc]; congr 1; omega)) ?_
    refine lv_istore (lv' := [(6, .int (nI (sm - pl + (r (d + 1) - cut)))), (5, .int (nI 0)), (0, .ref b), (1, .ref x), (2, .ref y), (3, .ref q), (4, .int (nI i))]) hx hb dL_law_328 hl (by decide) rfl (fun ls hl => ?_)
    refine lv_aload_n hx hb dL_law_330 rfl (lv_at hl 4 rfl) ?_
    have hPc := hP.sub (ws' := (wm y b1 b2 b3 b4 b5 b6 b7 b8 b9 b10 cI cJ cZ 0 nD nR vs mac now o9 t8 w9 ((wot d zs ++ wml d (wmr (wro d (now + dl 0) lm mo zs ++ wel now dl nv ec 0))).length) nv dl 0 r9 v9 m9)) [8, 9, 10, 11, 12, 13, 14, 15, 16, 17, 18] rfl
    refine vp_callSi (W.runV (As := []) (rest := []) ⟨hx, hb, hml, hown, hall⟩ (m_thrown l dC dI y b1 b2 b3 b4 b5 b6 b7 b8 b9 b10 cI cJ cZ 0 nD nR vs mac now o9 t8 w9 nv dl 0 r9 v9 m9 (wot d zs ++ wml d (wmr (wro d (now + dl 0) lm mo zs ++ wel now dl nv ec 0)))) (cwV 0 hall gL_65 rfl rfl rfl (by decide +kernel) ⟨Nat.le_of_ble_eq_true rfl, Nat.le_of_ble_eq_true rfl⟩) ⟨xr_blind, va_recv hK hPc (ci := 1) (q0 := 0) rfl rfl, fun U hU hW => ⟨rfl, by rw [hU]; exact hPc, va_K.moved hW.alike hK⟩⟩ rfl rfl hl.1 rfl (lv_room (Nat.le_of_ble_eq_true rfl)) dL_law_331 ⟨by show _ ≤ 601024; omega, by show _ ≤ 7293000; omega⟩) (fun v_3 hv_4 => ?_)
    obtain rfl : v_3 = nI 0 := hv_4
    refine lv_iload hx hb dL_law_334 (lv_at hl 1 rfl) ?_
    refine lv_icmp_eq (tgt := 341) hx hb dL_law_336 (by decide) (fun c_5 => ?_) (fun c_5 => ?_)
    · refine lv_iload hx hb dL_law_341 (lv_at hl 1 rfl) ?_
      refine lv_if_ne (tgt := 358) hx hb dL_law_343 (by decide) (fun c_6 => ?_) (fun c_6 => ?_)
      · exact absurd nI_0 c_6
      · refine lv_aload_n hx hb dL_law_346 rfl (lv_at hl 5 rfl) ?_
        refine lv_iconst (v := 0) hx hb dL_law_347 (by decide) ?_
        refine tp_i (y := nI 0) nI_0.symm ?_
        refine xa_lald hx hb hK hP 19 1 rfl rfl (Nat.lt_succ_self 0) (by omega) dL_law_348 ?_
        refine tp_l (y := (nI (sm - pl + (r (d + 1) - cut))).toInt64) pk_uLs ?_
        refine lv_iload hx hb dL_law_349 (lv_at hl 0 rfl) ?_
        refine lv_i2l hx hb dL_law_351 rfl ?_
        refine xl_eq (tgt := 358) hx hb dL_law_352 dL_law_353 (by decide) (fun c_7 => ?_) (fun c_7 => ?_)
        · refine lv_goto (tgt := 920) hx hb dL_law_358 (by decide) ?_
          refine W.widen (k := 20 + 2 * i + 2) (n := 70000 + 6 * i + 6 + (G + 2 * np)) (by omega) (by omega) ?_
          exact KK e3 e4 dv (wf_sh r d (pl + cut - sm + ec) (r (d + 1)) (nD + 1)) np (wf_pt (va_cpy (va_cpy (va_cpy ti ti sm pl (cut - sm)) (fun _ => 0) 0 0 cap) (va_cpy (va_cpy ti ti sm pl (cut - sm)) (fun _ => 0) 0 0 cap) (r (d + 1)) (pl + cut - sm + ec) (r nD - r (d + 1))) (pl + cut - sm) (fun i => now + ed i) ec) (wf_pt (va_cpy (va_cpy (va_cpy va va sm pl (cut - sm)) (fun _ => 0) 0 0 cap) (va_cpy (va_cpy va va sm pl (cut - sm)) (fun _ => 0) 0 0 cap) (r (d + 1)) (pl + cut - sm + ec) (r nD - r (d + 1))) (pl + cut - sm) ev ec) ev ed 0 ad ac now 0 vs mac o9 t8 w9 (wot d zs ++ wml d (wmr (wro d (now + dl 0) lm mo zs ++ wel now dl nv ec 0))) nv dl r9 v9 m9 (vp_updL ou 0 ((nI (sm - pl + (r (d + 1) - cut))).toInt64)) (G + 2 * np) H locs (wrel_assign (cap' := np) (T1 := (va_cpy (va_cpy ti ti sm pl (cut - sm)) (fun _ => 0) 0 0 cap)) (V1 := (va_cpy (va_cpy va va sm pl (cut - sm)) (fun _ => 0) 0 0 cap)) hR hd hz hg hcut hpl hsm hlm hroom (by omega) (by omega) (fun j hj => by rw [pk_cpy_in (by omega) (by omega), show 0 + (j - 0) = j by omega]) (fun j hj => by rw [pk_cpy_in (by omega) (by omega), show 0 + (j - 0) = j by omega])) hZ9 (by omega) hP hD hS ls (lv_sub hl [2, 3, 4, 5, 6] rfl)
        · exact absurd rfl c_7
    · exact absurd rfl c_5
