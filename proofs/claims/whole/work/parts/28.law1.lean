set_option maxHeartbeats 8000000 in
set_option maxRecDepth 100000 in
theorem l_element {p : Program} {l : Launch} {e : Env} {s : State} {m : MethodId} {below : List Frame} {meth : Method} {c : Code} {dC : Nat → ClassId} {dI : Nat → Nat → Nat} {b L : Nat} {xs : Nat → Int32} (hst : l.stackTraces = false) (hL : L ≤ 2562) (C0 : lw_At p s m meth c b L xs) (hok : xt_ok s) (hnk : xt_nk s) {x a1 a2 a5 a6 a7 y b1 b2 b3 b4 b5 b6 b7 b8 b9 b10 q : Nat} {cI cJ cZ : ClassId} {nD nR : Nat} (hK : va_K (dC, dI) vwCl [(cI, .int), (cJ, .long), (cZ, .boolean)] s) (i : Nat) (hi : i + 5 ≤ L) (KK : lwK p l e s m below meth c dC dI b x a1 a2 a5 a6 a7 y b1 b2 b3 b4 b5 b6 b7 b8 b9 b10 q cI cJ cZ nD nR i) (a3 a4 : Nat) (dv : Nat → Int64) (r : Nat → Nat) (cap : Nat) (ti va ev ed : Nat → Int64) (ec : Nat) (ad : Nat → Int32) (ac : Nat) (now : Int64) (th : Nat) (vs : Nat → Int64) (mac : Nat → Bool) (o : Nat → Nat) (mt mw : Nat → Int64) (zs : List ZT) (nv dl : Nat → Int64) (rt rv : Nat → Int64) (mk : Nat → Bool) (ou : Nat → Int64) (G : Nat) (H : Heap) (locs : List Loc) (hR : wrel nD nR cap ec ac dv r ti va ev ed ad now vs mac zs nv dl) (hZ : wz zs o mt mw) (hG : G ≤ 4 * cap ∨ cap = nR ∧ G ≤ 6 * nR) (hP : va_P (dC, dI) vwCl (wlw x a1 a2 a3 a4 a5 a6 a7 y b1 b2 b3 b4 b5 b6 b7 b8 b9 b10 q cI cJ cZ nD nR dv r cap ti va ev ed ec ad ac now th vs mac now o mt mw zs.length nv dl ec rt rv mk ou) H) (hD : va_D (fun z : Nat => s.heap.size ≤ z) (wlw x a1 a2 a3 a4 a5 a6 a7 y b1 b2 b3 b4 b5 b6 b7 b8 b9 b10 q cI cJ cZ nD nR dv r cap ti va ev ed ec ad ac now th vs mac now o mt mw zs.length nv dl ec rt rv mk ou)) (hS : va_S (fun z : Nat => s.heap.size ≤ z) s.heap H locs) (ls : Array Slot) (hl : lv_has ls 8 [(0, .ref b), (1, .ref x), (2, .ref y), (3, .ref q), (4, .int (nI i))]) : W p l e room_1 s m #[Value.ref b] below meth c H locs (20 + 2 * i) (70000 + 6 * i + G) (lw_Z below #[Value.ref b] s) (F0 m 124 ls []) := by
  obtain ⟨hx, hb, hr, hml, hown, hts, hX, hbl, hlocks, hgv⟩ := C0
  have hA : ∀ z : Nat, s.heap.size ≤ z → (fun z : Nat => s.heap.size ≤ z) z := fun _ h => h
  have hbA : ¬ (fun z : Nat => s.heap.size ≤ z) b := Nat.not_le.mpr hbl
  have hall : ∀ w ∈ allw, w.before #[Value.ref b] s = true := fun w h => hts w (List.mem_filter.mp h).1
  have hown : s.vm.findClass RL = some m.cls := hown
  have hI := hR.1
  have hIm := wrel_I hR
  obtain ⟨hnD1, hnD, hnR1, hnR, hcap, hrc, hrR, hr0, hmo, hec, hac⟩ := id hR.1
  have hG6 : G ≤ 49152 := by omega
  obtain ⟨v0, E_v0⟩ : ∃ z : Int64, z = (xs (i + 1)).toInt64 <<< ((32 : Int32).toInt64 &&& 63) ||| (xs (i + 2)).toInt64 &&& 4294967295 := ⟨_, rfl⟩
  obtain ⟨t, E_t⟩ : ∃ z : Int64, z = (xs (i + 3)).toInt64 <<< ((32 : Int32).toInt64 &&& 63) ||| (xs (i + 4)).toInt64 &&& 4294967295 := ⟨_, rfl⟩
  by_cases c1 : t < 0 ∨ 1152921504606846976 < t
  · refine lv_aload_n hx hb dL_law_124 rfl (lv_at hl 1 rfl) ?_
    refine lv_aload_n hx hb dL_law_125 rfl (lv_at hl 0 rfl) ?_
    refine lv_iload hx hb dL_law_126 (lv_at hl 4 rfl) ?_
    refine lv_iconst (v := 1) hx hb dL_law_128 (by decide) ?_
    refine lv_iadd hx hb dL_law_129 ?_
    refine tp_i (y := nI (i + 1)) (nI_add i 1) ?_
    refine va_sld hx hb hX hbl hbA hS (vp_in_nI (show i + 1 < L by omega) (by omega)) dL_law_130 ?_
    refine tp_i (y := xs (i + 1)) (by rw [nI_clamp (by omega)]) ?_
    refine lv_i2l hx hb dL_law_131 rfl ?_
    refine lv_bipush (v := 32) hx hb dL_law_132 (by decide) ?_
    refine lv_lshl hx hb dL_law_134 rfl ?_
    refine lv_aload_n hx hb dL_law_135 rfl (lv_at hl 0 rfl) ?_
    refine lv_iload hx hb dL_law_136 (lv_at hl 4 rfl) ?_
    refine lv_iconst (v := 2) hx hb dL_law_138 (by decide) ?_
    refine lv_iadd hx hb dL_law_139 ?_
    refine tp_i (y := nI (i + 2)) (nI_add i 2) ?_
    refine va_sld hx hb hX hbl hbA hS (vp_in_nI (show i + 2 < L by omega) (by omega)) dL_law_140 ?_
    refine tp_i (y := xs (i + 2)) (by rw [nI_clamp (by omega)]) ?_
    refine lv_i2l hx hb dL_law_141 rfl ?_
    refine lv_ldc2 (v := 4294967295) hx hb hown (hall _ kw_447) dL_law_142 ?_
    refine lv_land hx hb dL_law_145 ?_
    refine lv_lor hx hb dL_law_146 ?_
    refine tp_l (y := v0) E_v0.symm ?_
    refine lv_aload_n hx hb dL_law_147 rfl (lv_at hl 0 rfl) ?_
    refine lv_iload hx hb dL_law_148 (lv_at hl 4 rfl) ?_
    refine lv_iconst (v := 3) hx hb dL_law_150 (by decide) ?_
    refine lv_iadd hx hb dL_law_151 ?_
    refine tp_i (y := nI (i + 3)) (nI_add i 3) ?_
    refine va_sld hx hb hX hbl hbA hS (vp_in_nI (show i + 3 < L by omega) (by omega)) dL_law_152 ?_
    refine tp_i (y := xs (i + 3)) (by rw [nI_clamp (by omega)]) ?_
    refine lv_i2l hx hb dL_law_153 rfl ?_
    refine lv_bipush (v := 32) hx hb dL_law_154 (by decide) ?_
    refine lv_lshl hx hb dL_law_156 rfl ?_
    refine lv_aload_n hx hb dL_law_157 rfl (lv_at hl 0 rfl) ?_
    refine lv_iload hx hb dL_law_158 (lv_at hl 4 rfl) ?_
    refine lv_iconst (v := 4) hx hb dL_law_160 (by decide) ?_
    refine lv_iadd hx hb dL_law_161 ?_
    refine tp_i (y := nI (i + 4)) (nI_add i 4) ?_
    refine va_sld hx hb hX hbl hbA hS (vp_in_nI (show i + 4 < L by omega) (by omega)) dL_law_162 ?_
    refine tp_i (y := xs (i + 4)) (by rw [nI_clamp (by omega)]) ?_
    refine lv_i2l hx hb dL_law_163 rfl ?_
    refine lv_ldc2 (v := 4294967295) hx hb hown (hall _ kw_447) dL_law_164 ?_
    refine lv_land hx hb dL_law_167 ?_
    refine lv_lor hx hb dL_law_168 ?_
    refine tp_l (y := t) E_t.symm ?_
    have hPc := hP.sub (ws' := (wr x a1 a2 a3 a4 a5 a6 a7 cI cJ nD nR dv r cap ti va ev ed ec ad ac now)) [0, 1, 2, 3, 4, 5, 6, 7] rfl
    have hDc := hD.sub (ws' := (wr x a1 a2 a3 a4 a5 a6 a7 cI cJ nD nR dv r cap ti va ev ed ec ad ac now)) [0, 1, 2, 3, 4, 5, 6, 7] (by decide) rfl
    have hKc := hK.sub (tys' := [(cI, .int), (cJ, .long)]) [0, 1] rfl
    have hFc := va_free (wc := (wr x a1 a2 a3 a4 a5 a6 a7 cI cJ nD nR dv r cap ti va ev ed ec ad ac now)) hD hS hA [0, 1, 2, 3, 4, 5, 6, 7] rfl
    refine va_calli (xt_runSW (n := 3) (As := [.ref x, .long v0, .long t]) (rest := []) ⟨hx, hb, hml, hown, hall⟩ (h_element1 l dC dI x a1 a2 a3 a4 a5 a6 a7 cI cJ nD nR dv r cap ti va ev ed ec ad ac now hst q H.size v0 t c1) gL_61 rfl rfl rfl (by decide +kernel) ⟨Nat.le_of_ble_eq_true rfl, Nat.le_of_ble_eq_true rfl⟩ ⟨xh_blind, fun U hU hW => ⟨rfl, by rw [hU], by rw [hU]; exact hPc, va_K.moved hW.alike hKc, hDc.weaken (fun _ _ _ _ => trivial), xt_move hW (fun z hz => by rw [hU]; exact hS.2.1 z hz (Nat.not_le.mpr hz)) hok, xt_nk_move hW.alike hnk⟩⟩ rfl rfl hl.1 rfl (lv_room (Nat.le_of_ble_eq_true rfl)) dL_law_169 ⟨by show _ ≤ 601024; omega, by show _ ≤ 7293000; omega⟩) hS (fun q _ h => hFc q h) hFc (fun v_1 u t9 H1 locs ht hvm hw hB hz1 hk1 hS => ?_)
    obtain ⟨hP1, hK1, hD1⟩ := hB
    rw [ht] at hP1
    obtain ⟨hP, hD⟩ := va_join (wr := (wm y b1 b2 b3 b4 b5 b6 b7 b8 b9 b10 cI cJ cZ th nD nR vs mac now o mt mw zs.length nv dl ec rt rv mk) ++ [(q, .inl (cJ, 1, .inr (.inl ou)))]) (w1 := (wr x a1 a2 a3 a4 a5 a6 a7 cI cJ nD nR dv r cap ti va ev ed ec ad ac now)) hP hD [0, 1, 2, 3, 4, 5, 6, 7] [8, 9, 10, 11, 12, 13, 14, 15, 16, 17, 18, 19] rfl rfl (by decide) (by decide) hk1 hFc hP1 hD1
    generalize H1 = H at hP hS ⊢
    have hP := hP.sub (ws' := (wlw x a1 a2 a3 a4 a5 a6 a7 y b1 b2 b3 b4 b5 b6 b7 b8 b9 b10 q cI cJ cZ nD nR dv r cap ti va ev ed ec ad ac now th vs mac now o mt mw zs.length nv dl ec rt rv mk ou)) [12, 13, 14, 15, 16, 17, 18, 19, 0, 1, 2, 3, 4, 5, 6, 7, 8, 9, 10, 11] rfl
    have hD := hD.sub (ws' := (wlw x a1 a2 a3 a4 a5 a6 a7 y b1 b2 b3 b4 b5 b6 b7 b8 b9 b10 q cI cJ cZ nD nR dv r cap ti va ev ed ec ad ac now th vs mac now o mt mw zs.length nv dl ec rt rv mk ou)) [12, 13, 14, 15, 16, 17, 18, 19, 0, 1, 2, 3, 4, 5, 6, 7, 8, 9, 10, 11] (by decide) rfl
    obtain rfl : v_1 = nI 1 := hw
    refine lv_istore (lv' := [(5, .int (nI 1)), (0, .ref b), (1, .ref x), (2, .ref y), (3, .ref q), (4, .int (nI i))]) hx hb dL_law_172 hl (by decide) rfl (fun ls hl => ?_)
    refine lv_aload_n hx hb dL_law_174 rfl (lv_at hl 3 rfl) ?_
    refine lv_aload_n hx hb dL_law_175 rfl (lv_at hl 1 rfl) ?_
    refine lv_iload hx hb dL_law_176 (lv_at hl 5 rfl) ?_
    refine lv_iconst (v := 1) hx hb dL_law_178 (by decide) ?_
    refine lv_iadd hx hb dL_law_179 ?_
    refine tp_i (y := nI (i + 1)) (nI_add i 1) ?_
    refine va_sld hx hb hX hbl hbA hS (vp_in_nI (show i + 1 < L by omega) (by omega)) dL_law_180 ?_
    refine tp_i (y := xs (i + 1)) (by rw [nI_clamp (by omega)]) ?_
    refine lv_i2l hx hb dL_law_181 rfl ?_
    refine lv_bipush (v := 32) hx hb dL_law_182 (by decide) ?_
    refine lv_lshl hx hb dL_law_184 rfl ?_
    refine lv_aload_n hx hb dL_law_185 rfl (lv_at hl 1 rfl) ?_
    refine lv_iload hx hb dL_law_186 (lv_at hl 5 rfl) ?_
    refine lv_iconst (v := 2) hx hb dL_law_188 (by decide) ?_
    refine lv_iadd hx hb dL_law_189 ?_
    refine tp_i (y := nI (i + 2)) (nI_add i 2) ?_
    refine va_sld hx hb hX hbl hbA hS (vp_in_nI (show i + 2 < L by omega) (by omega)) dL_law_190 ?_
    refine tp_i (y := xs (i + 2)) (by rw [nI_clamp (by omega)]) ?_
    refine lv_i2l hx hb dL_law_191 rfl ?_
    refine lv_ldc2 (v := 4294967295) hx hb hown (hall _ kw_447) dL_law_192 ?_
    refine lv_land hx hb dL_law_195 ?_
    refine lv_lor hx hb dL_law_196 ?_
    refine tp_l (y := v0) E_v0.symm ?_
    refine lv_aload_n hx hb dL_law_197 rfl (lv_at hl 1 rfl) ?_
    refine lv_iload hx hb dL_law_198 (lv_at hl 5 rfl) ?_
    refine lv_iconst (v := 3) hx hb dL_law_200 (by decide) ?_
    refine lv_iadd hx hb dL_law_201 ?_
    refine tp_i (y := nI (i + 3)) (nI_add i 3) ?_
    refine va_sld hx hb hX hbl hbA hS (vp_in_nI (show i + 3 < L by omega) (by omega)) dL_law_202 ?_
    refine tp_i (y := xs (i + 3)) (by rw [nI_clamp (by omega)]) ?_
    refine lv_i2l hx hb dL_law_203 rfl ?_
    refine lv_bipush (v := 32) hx hb dL_law_204 (by decide) ?_
    refine lv_lshl hx hb dL_law_206 rfl ?_
    refine lv_aload_n hx hb dL_law_207 rfl (lv_at hl 1 rfl) ?_
    refine lv_iload hx hb dL_law_208 (lv_at hl 5 rfl) ?_
    refine lv_iconst (v := 4) hx hb dL_law_210 (by decide) ?_
    refine lv_iadd hx hb dL_law_211 ?_
    refine tp_i (y := nI (i + 4)) (nI_add i 4) ?_
    refine va_sld hx hb hX hbl hbA hS (vp_in_nI (show i + 4 < L by omega) (by omega)) dL_law_212 ?_
    refine tp_i (y := xs (i + 4)) (by rw [nI_clamp (by omega)]) ?_
    refine lv_i2l hx hb dL_law_213 rfl ?_
    refine lv_ldc2 (v := 4294967295) hx hb hown (hall _ kw_447) dL_law_214 ?_
    refine lv_land hx hb dL_law_217 ?_
    refine lv_lor hx hb dL_law_218 ?_
    refine tp_l (y := t) E_t.symm ?_
    have hPc := hP.sub (ws' := (wm y b1 b2 b3 b4 b5 b6 b7 b8 b9 b10 cI cJ cZ th nD nR vs mac now o mt mw zs.length nv dl ec rt rv mk)) [8, 9, 10, 11, 12, 13, 14, 15, 16, 17, 18] rfl
    have hDc := hD.sub (ws' := (wm y b1 b2 b3 b4 b5 b6 b7 b8 b9 b10 cI cJ cZ th nD nR vs mac now o mt mw zs.length nv dl ec rt rv mk)) [8, 9, 10, 11, 12, 13, 14, 15, 16, 17, 18] (by decide) rfl
    have hFc := va_free (wc := (wm y b1 b2 b3 b4 b5 b6 b7 b8 b9 b10 cI cJ cZ th nD nR vs mac now o mt mw zs.length nv dl ec rt rv mk)) hD hS hA [8, 9, 10, 11, 12, 13, 14, 15, 16, 17, 18] rfl
    refine va_callv (va_runV (As := [.long v0, .long t]) (rest := []) ⟨hx, hb, hml, hown, hall⟩ (m_element1 l dC dI y b1 b2 b3 b4 b5 b6 b7 b8 b9 b10 cI cJ cZ th nD nR vs mac now o mt mw nv dl ec rt rv mk zs H.size v0 t c1) (cwV 2 hall gL_64 rfl rfl rfl (by decide +kernel) ⟨Nat.le_of_ble_eq_true rfl, Nat.le_of_ble_eq_true rfl⟩) ⟨xu_blind, va_recv hK hPc (ci := 1) (q0 := 0) rfl rfl, fun U hU hW => ⟨rfl, by rw [hU], by rw [hU]; exact hPc, va_K.moved hW.alike hK, hDc.weaken (fun _ _ _ _ => trivial)⟩⟩ rfl rfl hl.1 rfl (lv_room (Nat.le_of_ble_eq_true rfl)) dL_law_219 ⟨by show _ ≤ 601024; omega, by show _ ≤ 7293000; omega⟩) hS (fun q _ h => hFc q h) hFc (fun u9 t9 H1 locs ht hvm hw hB hz1 hk1 hS => ?_)
    obtain ⟨hP1, hK1, hD1⟩ := hB
    rw [ht] at hP1
    obtain ⟨hP, hD⟩ := va_join (wr := (wr x a1 a2 a3 a4 a5 a6 a7 cI cJ nD nR dv r cap ti va ev ed ec ad ac now) ++ [(q, .inl (cJ, 1, .inr (.inl ou)))]) (w1 := (wm y b1 b2 b3 b4 b5 b6 b7 b8 b9 b10 cI cJ cZ 1 nD nR vs mac now o mt mw zs.length nv dl ec rt rv mk)) hP hD [8, 9, 10, 11, 12, 13, 14, 15, 16, 17, 18] [0, 1, 2, 3, 4, 5, 6, 7, 19] rfl rfl (by decide) (by decide) hk1 hFc hP1 hD1
    generalize H1 = H at hP hS ⊢
    have hP := hP.sub (ws' := (wlw x a1 a2 a3 a4 a5 a6 a7 y b1 b2 b3 b4 b5 b6 b7 b8 b9 b10 q cI cJ cZ nD nR dv r cap ti va ev ed ec ad ac now 1 vs mac now o mt mw zs.length nv dl ec rt rv mk ou)) [0, 1, 2, 3, 4, 5, 6, 7, 9, 10, 11, 12, 13, 14, 15, 16, 17, 18, 19, 8] rfl
    have hD := hD.sub (ws' := (wlw x a1 a2 a3 a4 a5 a6 a7 y b1 b2 b3 b4 b5 b6 b7 b8 b9 b10 q cI cJ cZ nD nR dv r cap ti va ev ed ec ad ac now 1 vs mac now o mt mw zs.length nv dl ec rt rv mk ou)) [0, 1, 2, 3, 4, 5, 6, 7, 9, 10, 11, 12, 13, 14, 15, 16, 17, 18, 19, 8] (by decide) rfl
    refine lv_aload_n hx hb dL_law_222 rfl (lv_at hl 3 rfl) ?_
    have hPc := hP.sub (ws' := (wm y b1 b2 b3 b4 b5 b6 b7 b8 b9 b10 cI cJ cZ 1 nD nR vs mac now o mt mw zs.length nv dl ec rt rv mk)) [8, 9, 10, 11, 12, 13, 14, 15, 16, 17, 18] rfl
    refine vp_callSi (W.runV (As := []) (rest := []) ⟨hx, hb, hml, hown, hall⟩ (m_thrown l dC dI y b1 b2 b3 b4 b5 b6 b7 b8 b9 b10 cI cJ cZ 1 nD nR vs mac now o mt mw nv dl ec rt rv mk zs) (cwV 0 hall gL_65 rfl rfl rfl (by decide +kernel) ⟨Nat.le_of_ble_eq_true rfl, Nat.le_of_ble_eq_true rfl⟩) ⟨xr_blind, va_recv hK hPc (ci := 1) (q0 := 0) rfl rfl, fun U hU hW => ⟨rfl, by rw [hU]; exact hPc, va_K.moved hW.alike hK⟩⟩ rfl rfl hl.1 rfl (lv_room (Nat.le_of_ble_eq_true rfl)) dL_law_223 ⟨by show _ ≤ 601024; omega, by show _ ≤ 7293000; omega⟩) (fun v_3 hv_4 => ?_)
    obtain rfl : v_3 = nI 1 := hv_4
    refine lv_iload hx hb dL_law_226 (lv_at hl 0 rfl) ?_
    refine lv_icmp_eq (tgt := 233) hx hb dL_law_228 (by decide) (fun c_5 => ?_) (fun c_5 => ?_)
    · refine lv_goto (tgt := 920) hx hb dL_law_233 (by decide) ?_
      refine W.widen (k := 20 + 2 * i + 2) (n := 70000 + 6 * i + 6 + G) (by omega) (by omega) ?_
      exact KK a3 a4 dv r cap ti va ev ed ec ad ac now 1 vs mac o mt mw zs nv dl rt rv mk ou G H locs hR hZ hG hP hD hS ls (lv_sub hl [1, 2, 3, 4, 5] rfl)
    · exact absurd rfl c_5
  have h1 : ¬ t < 0 := fun z => c1 (Or.inl z)
  have h2 : ¬ 1152921504606846976 < t := fun z => c1 (Or.inr z)
  by_cases c2 : 16 ≤ ec
  · refine lv_aload_n hx hb dL_law_124 rfl (lv_at hl 1 rfl) ?_
    refine lv_aload_n hx hb dL_law_125 rfl (lv_at hl 0 rfl) ?_
    refine lv_iload hx hb dL_law_126 (lv_at hl 4 rfl) ?_
    refine lv_iconst (v := 1) hx hb dL_law_128 (by decide) ?_
    refine lv_iadd hx hb dL_law_129 ?_
    refine tp_i (y := nI (i + 1)) (nI_add i 1) ?_
    refine va_sld hx hb hX hbl hbA hS (vp_in_nI (show i + 1 < L by omega) (by omega)) dL_law_130 ?_
    refine tp_i (y := xs (i + 1)) (by rw [nI_clamp (by omega)]) ?_
    refine lv_i2l hx hb dL_law_131 rfl ?_
    refine lv_bipush (v := 32) hx hb dL_law_132 (by decide) ?_
    refine lv_lshl hx hb dL_law_134 rfl ?_
    refine lv_aload_n hx hb dL_law_135 rfl (lv_at hl 0 rfl) ?_
    refine lv_iload hx hb dL_law_136 (lv_at hl 4 rfl) ?_
    refine lv_iconst (v := 2) hx hb dL_law_138 (by decide) ?_
    refine lv_iadd hx hb dL_law_139 ?_
    refine tp_i (y := nI (i + 2)) (nI_add i 2) ?_
    refine va_sld hx hb hX hbl hbA hS (vp_in_nI (show i + 2 < L by omega) (by omega)) dL_law_140 ?_
    refine tp_i (y := xs (i + 2)) (by rw [nI_clamp (by omega)]) ?_
    refine lv_i2l hx hb dL_law_141 rfl ?_
    refine lv_ldc2 (v := 4294967295) hx hb hown (hall _ kw_447) dL_law_142 ?_
    refine lv_land hx hb dL_law_145 ?_
    refine lv_lor hx hb dL_law_146 ?_
    refine tp_l (y := v0) E_v0.symm ?_
    refine lv_aload_n hx hb dL_law_147 rfl (lv_at hl 0 rfl) ?_
    refine lv_iload hx hb dL_law_148 (lv_at hl 4 rfl) ?_
    refine lv_iconst (v := 3) hx hb dL_law_150 (by decide) ?_
    refine lv_iadd hx hb dL_law_151 ?_
    refine tp_i (y := nI (i + 3)) (nI_add i 3) ?_
    refine va_sld hx hb hX hbl hbA hS (vp_in_nI (show i + 3 < L by omega) (by omega)) dL_law_152 ?_
    refine tp_i (y := xs (i + 3)) (by rw [nI_clamp (by omega)]) ?_
    refine lv_i2l hx hb dL_law_153 rfl ?_
    refine lv_bipush (v := 32) hx hb dL_law_154 (by decide) ?_
    refine lv_lshl hx hb dL_law_156 rfl ?_
    refine lv_aload_n hx hb dL_law_157 rfl (lv_at hl 0 rfl) ?_
    refine lv_iload hx hb dL_law_158 (lv_at hl 4 rfl) ?_
    refine lv_iconst (v := 4) hx hb dL_law_160 (by decide) ?_
    refine lv_iadd hx hb dL_law_161 ?_
    refine tp_i (y := nI (i + 4)) (nI_add i 4) ?_
    refine va_sld hx hb hX hbl hbA hS (vp_in_nI (show i + 4 < L by omega) (by omega)) dL_law_162 ?_
    refine tp_i (y := xs (i + 4)) (by rw [nI_clamp (by omega)]) ?_
    refine lv_i2l hx hb dL_law_163 rfl ?_
    refine lv_ldc2 (v := 4294967295) hx hb hown (hall _ kw_447) dL_law_164 ?_
    refine lv_land hx hb dL_law_167 ?_
    refine lv_lor hx hb dL_law_168 ?_
    refine tp_l (y := t) E_t.symm ?_
    have hPc := hP.sub (ws' := (wr x a1 a2 a3 a4 a5 a6 a7 cI cJ nD nR dv r cap ti va ev ed ec ad ac now)) [0, 1, 2, 3, 4, 5, 6, 7] rfl
    have hDc := hD.sub (ws' := (wr x a1 a2 a3 a4 a5 a6 a7 cI cJ nD nR dv r cap ti va ev ed ec ad ac now)) [0, 1, 2, 3, 4, 5, 6, 7] (by decide) rfl
    have hKc := hK.sub (tys' := [(cI, .int), (cJ, .long)]) [0, 1] rfl
    have hFc := va_free (wc := (wr x a1 a2 a3 a4 a5 a6 a7 cI cJ nD nR dv r cap ti va ev ed ec ad ac now)) hD hS hA [0, 1, 2, 3, 4, 5, 6, 7] rfl
    refine va_calli (xt_runSW (n := 3) (As := [.ref x, .long v0, .long t]) (rest := []) ⟨hx, hb, hml, hown, hall⟩ (h_element2 l dC dI x a1 a2 a3 a4 a5 a6 a7 cI cJ nD nR dv r cap ti va ev ed ec ad ac now hst q H.size hI v0 t h1 h2 c2) gL_61 rfl rfl rfl (by decide +kernel) ⟨Nat.le_of_ble_eq_true rfl, Nat.le_of_ble_eq_true rfl⟩ ⟨xh_blind, fun U hU hW => ⟨rfl, by rw [hU], by rw [hU]; exact hPc, va_K.moved hW.alike hKc, hDc.weaken (fun _ _ _ _ => trivial), xt_move hW (fun z hz => by rw [hU]; exact hS.2.1 z hz (Nat.not_le.mpr hz)) hok, xt_nk_move hW.alike hnk⟩⟩ rfl rfl hl.1 rfl (lv_room (Nat.le_of_ble_eq_true rfl)) dL_law_169 ⟨by show _ ≤ 601024; omega, by show _ ≤ 7293000; omega⟩) hS (fun q _ h => hFc q h) hFc (fun v_1 u t9 H1 locs ht hvm hw hB hz1 hk1 hS => ?_)
    obtain ⟨hP1, hK1, hD1⟩ := hB
    rw [ht] at hP1
    obtain ⟨hP, hD⟩ := va_join (wr := (wm y b1 b2 b3 b4 b5 b6 b7 b8 b9 b10 cI cJ cZ th nD nR vs mac now o mt mw zs.length nv dl ec rt rv mk) ++ [(q, .inl (cJ, 1, .inr (.inl ou)))]) (w1 := (wr x a1 a2 a3 a4 a5 a6 a7 cI cJ nD nR dv r cap ti va ev ed ec ad ac now)) hP hD [0, 1, 2, 3, 4, 5, 6, 7] [8, 9, 10, 11, 12, 13, 14, 15, 16, 17, 18, 19] rfl rfl (by decide) (by decide) hk1 hFc hP1 hD1
    generalize H1 = H at hP hS ⊢
    have hP := hP.sub (ws' := (wlw x a1 a2 a3 a4 a5 a6 a7 y b1 b2 b3 b4 b5 b6 b7 b8 b9 b10 q cI cJ cZ nD nR dv r cap ti va ev ed ec ad ac now th vs mac now o mt mw zs.length nv dl ec rt rv mk ou)) [12, 13, 14, 15, 16, 17, 18, 19, 0, 1, 2, 3, 4, 5, 6, 7, 8, 9, 10, 11] rfl
    have hD := hD.sub (ws' := (wlw x a1 a2 a3 a4 a5 a6 a7 y b1 b2 b3 b4 b5 b6 b7 b8 b9 b10 q cI cJ cZ nD nR dv r cap ti va ev ed ec ad ac now th vs mac now o mt mw zs.length nv dl ec rt rv mk ou)) [12, 13, 14, 15, 16, 17, 18, 19, 0, 1, 2, 3, 4, 5, 6, 7, 8, 9, 10, 11] (by decide) rfl
    obtain rfl : v_1 = nI 2 := hw
    refine lv_istore (lv' := [(5, .int (nI 2)), (0, .ref b), (1, .ref x), (2, .ref y), (3, .ref q), (4, .int (nI i))]) hx hb dL_law_172 hl (by decide) rfl (fun ls hl => ?_)
    refine lv_aload_n hx hb dL_law_174 rfl (lv_at hl 3 rfl) ?_
    refine lv_aload_n hx hb dL_law_175 rfl (lv_at hl 1 rfl) ?_
    refine lv_iload hx hb dL_law_176 (lv_at hl 5 rfl) ?_
    refine lv_iconst (v := 1) hx hb dL_law_178 (by decide) ?_
    refine lv_iadd hx hb dL_law_179 ?_
    refine tp_i (y := nI (i + 1)) (nI_add i 1) ?_
    refine va_sld hx hb hX hbl hbA hS (vp_in_nI (show i + 1 < L by omega) (by omega)) dL_law_180 ?_
    refine tp_i (y := xs (i + 1)) (by rw [nI_clamp (by omega)]) ?_
    refine lv_i2l hx hb dL_law_181 rfl ?_
    refine lv_bipush (v := 32) hx hb dL_law_182 (by decide) ?_
    refine lv_lshl hx hb dL_law_184 rfl ?_
    refine lv_aload_n hx hb dL_law_185 rfl (lv_at hl 1 rfl) ?_
    refine lv_iload hx hb dL_law_186 (lv_at hl 5 rfl) ?_
    refine lv_iconst (v := 2) hx hb dL_law_188 (by decide) ?_
    refine lv_iadd hx hb dL_law_189 ?_
    refine tp_i (y := nI (i + 2)) (nI_add i 2) ?_
    refine va_sld hx hb hX hbl hbA hS (vp_in_nI (show i + 2 < L by omega) (by omega)) dL_law_190 ?_
    refine tp_i (y := xs (i + 2)) (by rw [nI_clamp (by omega)]) ?_
    refine lv_i2l hx hb dL_law_191 rfl ?_
    refine lv_ldc2 (v := 4294967295) hx hb hown (hall _ kw_447) dL_law_192 ?_
    refine lv_land hx hb dL_law_195 ?_
    refine lv_lor hx hb dL_law_196 ?_
    refine tp_l (y := v0) E_v0.symm ?_
    refine lv_aload_n hx hb dL_law_197 rfl (lv_at hl 1 rfl) ?_
    refine lv_iload hx hb dL_law_198 (lv_at hl 5 rfl) ?_
    refine lv_iconst (v := 3) hx hb dL_law_200 (by decide) ?_
    refine lv_iadd hx hb dL_law_201 ?_
    refine tp_i (y := nI (i + 3)) (nI_add i 3) ?_
    refine va_sld hx hb hX hbl hbA hS (vp_in_nI (show i + 3 < L by omega) (by omega)) dL_law_202 ?_
    refine tp_i (y := xs (i + 3)) (by rw [nI_clamp (by omega)]) ?_
    refine lv_i2l hx hb dL_law_203 rfl ?_
    refine lv_bipush (v := 32) hx hb dL_law_204 (by decide) ?_
    refine lv_lshl hx hb dL_law_206 rfl ?_
    refine lv_aload_n hx hb dL_law_207 rfl (lv_at hl 1 rfl) ?_
    refine lv_iload hx hb dL_law_208 (lv_at hl 5 rfl) ?_
    refine lv_iconst (v := 4) hx hb dL_law_210 (by decide) ?_
    refine lv_iadd hx hb dL_law_211 ?_
    refine tp_i (y := nI (i + 4)) (nI_add i 4) ?_
    refine va_sld hx hb hX hbl hbA hS (vp_in_nI (show i + 4 < L by omega) (by omega)) dL_law_212 ?_
    refine tp_i (y := xs (i + 4)) (by rw [nI_clamp (by omega)]) ?_
    refine lv_i2l hx hb dL_law_213 rfl ?_
    refine lv_ldc2 (v := 4294967295) hx hb hown (hall _ kw_447) dL_law_214 ?_
    refine lv_land hx hb dL_law_217 ?_
    refine lv_lor hx hb dL_law_218 ?_
    refine tp_l (y := t) E_t.symm ?_
    have hPc := hP.sub (ws' := (wm y b1 b2 b3 b4 b5 b6 b7 b8 b9 b10 cI cJ cZ th nD nR vs mac now o mt mw zs.length nv dl ec rt rv mk)) [8, 9, 10, 11, 12, 13, 14, 15, 16, 17, 18] rfl
    have hDc := hD.sub (ws' := (wm y b1 b2 b3 b4 b5 b6 b7 b8 b9 b10 cI cJ cZ th nD nR vs mac now o mt mw zs.length nv dl ec rt rv mk)) [8, 9, 10, 11, 12, 13, 14, 15, 16, 17, 18] (by decide) rfl
    have hFc := va_free (wc := (wm y b1 b2 b3 b4 b5 b6 b7 b8 b9 b10 cI cJ cZ th nD nR vs mac now o mt mw zs.length nv dl ec rt rv mk)) hD hS hA [8, 9, 10, 11, 12, 13, 14, 15, 16, 17, 18] rfl
    refine va_callv (va_runV (As := [.long v0, .long t]) (rest := []) ⟨hx, hb, hml, hown, hall⟩ (m_element2 l dC dI y b1 b2 b3 b4 b5 b6 b7 b8 b9 b10 cI cJ cZ th nD nR vs mac now o mt mw nv dl ec rt rv mk zs H.size v0 t h1 h2 (by omega)) (cwV 2 hall gL_64 rfl rfl rfl (by decide +kernel) ⟨Nat.le_of_ble_eq_true rfl, Nat.le_of_ble_eq_true rfl⟩) ⟨xu_blind, va_recv hK hPc (ci := 1) (q0 := 0) rfl rfl, fun U hU hW => ⟨rfl, by rw [hU], by rw [hU]; exact hPc, va_K.moved hW.alike hK, hDc.weaken (fun _ _ _ _ => trivial)⟩⟩ rfl rfl hl.1 rfl (lv_room (Nat.le_of_ble_eq_true rfl)) dL_law_219 ⟨by show _ ≤ 601024; omega, by show _ ≤ 7293000; omega⟩) hS (fun q _ h => hFc q h) hFc (fun u9 t9 H1 locs ht hvm hw hB hz1 hk1 hS => ?_)
    obtain ⟨hP1, hK1, hD1⟩ := hB
    rw [ht] at hP1
    obtain ⟨hP, hD⟩ := va_join (wr := (wr x a1 a2 a3 a4 a5 a6 a7 cI cJ nD nR dv r cap ti va ev ed ec ad ac now) ++ [(q, .inl (cJ, 1, .inr (.inl ou)))]) (w1 := (wm y b1 b2 b3 b4 b5 b6 b7 b8 b9 b10 cI cJ cZ 2 nD nR vs mac now o mt mw zs.length nv dl ec rt rv mk)) hP hD [8, 9, 10, 11, 12, 13, 14, 15, 16, 17, 18] [0, 1, 2, 3, 4, 5, 6, 7, 19] rfl rfl (by decide) (by decide) hk1 hFc hP1 hD1
    generalize H1 = H at hP hS ⊢
    have hP := hP.sub (ws' := (wlw x a1 a2 a3 a4 a5 a6 a7 y b1 b2 b3 b4 b5 b6 b7 b8 b9 b10 q cI cJ cZ nD nR dv r cap ti va ev ed ec ad ac now 2 vs mac now o mt mw zs.length nv dl ec rt rv mk ou)) [0, 1, 2, 3, 4, 5, 6, 7, 9, 10, 11, 12, 13, 14, 15, 16, 17, 18, 19, 8] rfl
    have hD := hD.sub (ws' := (wlw x a1 a2 a3 a4 a5 a6 a7 y b1 b2 b3 b4 b5 b6 b7 b8 b9 b10 q cI cJ cZ nD nR dv r cap ti va ev ed ec ad ac now 2 vs mac now o mt mw zs.length nv dl ec rt rv mk ou)) [0, 1, 2, 3, 4, 5, 6, 7, 9, 10, 11, 12, 13, 14, 15, 16, 17, 18, 19, 8] (by decide) rfl
    refine lv_aload_n hx hb dL_law_222 rfl (lv_at hl 3 rfl) ?_
    have hPc := hP.sub (ws' := (wm y b1 b2 b3 b4 b5 b6 b7 b8 b9 b10 cI cJ cZ 2 nD nR vs mac now o mt mw zs.length nv dl ec rt rv mk)) [8, 9, 10, 11, 12, 13, 14, 15, 16, 17, 18] rfl
    refine vp_callSi (W.runV (As := []) (rest := []) ⟨hx, hb, hml, hown, hall⟩ (m_thrown l dC dI y b1 b2 b3 b4 b5 b6 b7 b8 b9 b10 cI cJ cZ 2 nD nR vs mac now o mt mw nv dl ec rt rv mk zs) (cwV 0 hall gL_65 rfl rfl rfl (by decide +kernel) ⟨Nat.le_of_ble_eq_true rfl, Nat.le_of_ble_eq_true rfl⟩) ⟨xr_blind, va_recv hK hPc (ci := 1) (q0 := 0) rfl rfl, fun U hU hW => ⟨rfl, by rw [hU]; exact hPc, va_K.moved hW.alike hK⟩⟩ rfl rfl hl.1 rfl (lv_room (Nat.le_of_ble_eq_true rfl)) dL_law_223 ⟨by show _ ≤ 601024; omega, by show _ ≤ 7293000; omega⟩) (fun v_3 hv_4 => ?_)
    obtain rfl : v_3 = nI 2 := hv_4
    refine lv_iload hx hb dL_law_226 (lv_at hl 0 rfl) ?_
    refine lv_icmp_eq (tgt := 233) hx hb dL_law_228 (by decide) (fun c_5 => ?_) (fun c_5 => ?_)
    · refine lv_goto (tgt := 920) hx hb dL_law_233 (by decide) ?_
      refine W.widen (k := 20 + 2 * i + 2) (n := 70000 + 6 * i + 6 + G) (by omega) (by omega) ?_
      exact KK a3 a4 dv r cap ti va ev ed ec ad ac now 2 vs mac o mt mw zs nv dl rt rv mk ou G H locs hR hZ hG hP hD hS ls (lv_sub hl [1, 2, 3, 4, 5] rfl)
    · exact absurd rfl c_5
  · refine lv_aload_n hx hb dL_law_124 rfl (lv_at hl 1 rfl) ?_
    refine lv_aload_n hx hb dL_law_125 rfl (lv_at hl 0 rfl) ?_
    refine lv_iload hx hb dL_law_126 (lv_at hl 4 rfl) ?_
    refine lv_iconst (v := 1) hx hb dL_law_128 (by decide) ?_
    refine lv_iadd hx hb dL_law_129 ?_
    refine tp_i (y := nI (i + 1)) (nI_add i 1) ?_
    refine va_sld hx hb hX hbl hbA hS (vp_in_nI (show i + 1 < L by omega) (by omega)) dL_law_130 ?_
    refine tp_i (y := xs (i + 1)) (by rw [nI_clamp (by omega)]) ?_
    refine lv_i2l hx hb dL_law_131 rfl ?_
    refine lv_bipush (v := 32) hx hb dL_law_132 (by decide) ?_
    refine lv_lshl hx hb dL_law_134 rfl ?_
    refine lv_aload_n hx hb dL_law_135 rfl (lv_at hl 0 rfl) ?_
    refine lv_iload hx hb dL_law_136 (lv_at hl 4 rfl) ?_
    refine lv_iconst (v := 2) hx hb dL_law_138 (by decide) ?_
    refine lv_iadd hx hb dL_law_139 ?_
    refine tp_i (y := nI (i + 2)) (nI_add i 2) ?_
    refine va_sld hx hb hX hbl hbA hS (vp_in_nI (show i + 2 < L by omega) (by omega)) dL_law_140 ?_
    refine tp_i (y := xs (i + 2)) (by rw [nI_clamp (by omega)]) ?_
    refine lv_i2l hx hb dL_law_141 rfl ?_
    refine lv_ldc2 (v := 4294967295) hx hb hown (hall _ kw_447) dL_law_142 ?_
    refine lv_land hx hb dL_law_145 ?_
    refine lv_lor hx hb dL_law_146 ?_
    refine tp_l (y := v0) E_v0.symm ?_
    refine lv_aload_n hx hb dL_law_147 rfl (lv_at hl 0 rfl) ?_
    refine lv_iload hx hb dL_law_148 (lv_at hl 4 rfl) ?_
    refine lv_iconst (v := 3) hx hb dL_law_150 (by decide) ?_
    refine lv_iadd hx hb dL_law_151 ?_
    refine tp_i (y := nI (i + 3)) (nI_add i 3) ?_
    refine va_sld hx hb hX hbl hbA hS (vp_in_nI (show i + 3 < L by omega) (by omega)) dL_law_152 ?_
    refine tp_i (y := xs (i + 3)) (by rw [nI_clamp (by omega)]) ?_
    refine lv_i2l hx hb dL_law_153 rfl ?_
    refine lv_bipush (v := 32) hx hb dL_law_154 (by decide) ?_
    refine lv_lshl hx hb dL_law_156 rfl ?_
    refine lv_aload_n hx hb dL_law_157 rfl (lv_at hl 0 rfl) ?_
    refine lv_iload hx hb dL_law_158 (lv_at hl 4 rfl) ?_
    refine lv_iconst (v := 4) hx hb dL_law_160 (by decide) ?_
    refine lv_iadd hx hb dL_law_161 ?_
    refine tp_i (y := nI (i + 4)) (nI_add i 4) ?_
    refine va_sld hx hb hX hbl hbA hS (vp_in_nI (show i + 4 < L by omega) (by omega)) dL_law_162 ?_
    refine tp_i (y := xs (i + 4)) (by rw [nI_clamp (by omega)]) ?_
    refine lv_i2l hx hb dL_law_163 rfl ?_
    refine lv_ldc2 (v := 4294967295) hx hb hown (hall _ kw_447) dL_law_164 ?_
    refine lv_land hx hb dL_law_167 ?_
    refine lv_lor hx hb dL_law_168 ?_
    refine tp_l (y := t) E_t.symm ?_
    have hPc := hP.sub (ws' := (wr x a1 a2 a3 a4 a5 a6 a7 cI cJ nD nR dv r cap ti va ev ed ec ad ac now)) [0, 1, 2, 3, 4, 5, 6, 7] rfl
    have hDc := hD.sub (ws' := (wr x a1 a2 a3 a4 a5 a6 a7 cI cJ nD nR dv r cap ti va ev ed ec ad ac now)) [0, 1, 2, 3, 4, 5, 6, 7] (by decide) rfl
    have hKc := hK.sub (tys' := [(cI, .int), (cJ, .long)]) [0, 1] rfl
    have hFc := va_free (wc := (wr x a1 a2 a3 a4 a5 a6 a7 cI cJ nD nR dv r cap ti va ev ed ec ad ac now)) hD hS hA [0, 1, 2, 3, 4, 5, 6, 7] rfl
    refine va_calli (xt_runSW (n := 3) (As := [.ref x, .long v0, .long t]) (rest := []) ⟨hx, hb, hml, hown, hall⟩ (h_element0 l dC dI x a1 a2 a3 a4 a5 a6 a7 cI cJ nD nR dv r cap ti va ev ed ec ad ac now q ou H.size hI v0 t h1 h2 (by omega)) gL_61 rfl rfl rfl (by decide +kernel) ⟨Nat.le_of_ble_eq_true rfl, Nat.le_of_ble_eq_true rfl⟩ ⟨xu_blind, fun U hU hW => ⟨rfl, by rw [hU], by rw [hU]; exact hPc, va_K.moved hW.alike hKc, hDc.weaken (fun _ _ _ _ => trivial)⟩⟩ rfl rfl hl.1 rfl (lv_room (Nat.le_of_ble_eq_true rfl)) dL_law_169 ⟨by show _ ≤ 601024; omega, by show _ ≤ 7293000; omega⟩) hS (fun q _ h => hFc q h) hFc (fun v_1 u t9 H1 locs ht hvm hw hB hz1 hk1 hS => ?_)
    obtain ⟨hP1, hK1, hD1⟩ := hB
    rw [ht] at hP1
    obtain ⟨hP, hD⟩ := va_join (wr := (wm y b1 b2 b3 b4 b5 b6 b7 b8 b9 b10 cI cJ cZ th nD nR vs mac now o mt mw zs.length nv dl ec rt rv mk) ++ [(q, .inl (cJ, 1, .inr (.inl ou)))]) (w1 := (wr x a1 a2 a3 a4 a5 a6 a7 cI cJ nD nR dv r cap ti va (vp_updL ev ec v0) (vp_updL ed ec t) (ec + 1) ad ac now)) hP hD [0, 1, 2, 3, 4, 5, 6, 7] [8, 9, 10, 11, 12, 13, 14, 15, 16, 17, 18, 19] rfl rfl (by decide) (by decide) hk1 hFc hP1 hD1
    generalize H1 = H at hP hS ⊢
    have hP := hP.sub (ws' := (wlw x a1 a2 a3 a4 a5 a6 a7 y b1 b2 b3 b4 b5 b6 b7 b8 b9 b10 q cI cJ cZ nD nR dv r cap ti va (vp_updL ev ec v0) (vp_updL ed ec t) (ec + 1) ad ac now th vs mac now o mt mw zs.length nv dl ec rt rv mk ou)) [12, 13, 14, 15, 16, 17, 18, 19, 0, 1, 2, 3, 4, 5, 6, 7, 8, 9, 10, 11] rfl
    have hD := hD.sub (ws' := (wlw x a1 a2 a3 a4 a5 a6 a7 y b1 b2 b3 b4 b5 b6 b7 b8 b9 b10 q cI cJ cZ nD nR dv r cap ti va (vp_updL ev ec v0) (vp_updL ed ec t) (ec + 1) ad ac now th vs mac now o mt mw zs.length nv dl ec rt rv mk ou)) [12, 13, 14, 15, 16, 17, 18, 19, 0, 1, 2, 3, 4, 5, 6, 7, 8, 9, 10, 11] (by decide) rfl
    obtain rfl : v_1 = 0 := hw
    refine tp_i (y := nI 0) nI_0.symm ?_
    refine lv_istore (lv' := [(5, .int (nI 0)), (0, .ref b), (1, .ref x), (2, .ref y), (3, .ref q), (4, .int (nI i))]) hx hb dL_law_172 hl (by decide) rfl (fun ls hl => ?_)
    refine lv_aload_n hx hb dL_law_174 rfl (lv_at hl 3 rfl) ?_
    refine lv_aload_n hx hb dL_law_175 rfl (lv_at hl 1 rfl) ?_
    refine lv_iload hx hb dL_law_176 (lv_at hl 5 rfl) ?_
    refine lv_iconst (v := 1) hx hb dL_law_178 (by decide) ?_
    refine lv_iadd hx hb dL_law_179 ?_
    refine tp_i (y := nI (i + 1)) (nI_add i 1) ?_
    refine va_sld hx hb hX hbl hbA hS (vp_in_nI (show i + 1 < L by omega) (by omega)) dL_law_180 ?_
    refine tp_i (y := xs (i + 1)) (by rw [nI_clamp (by omega)]) ?_
    refine lv_i2l hx hb dL_law_181 rfl ?_
    refine lv_bipush (v := 32) hx hb dL_law_182 (by decide) ?_
    refine lv_lshl hx hb dL_law_184 rfl ?_
    refine lv_aload_n hx hb dL_law_185 rfl (lv_at hl 1 rfl) ?_
    refine lv_iload hx hb dL_law_186 (lv_at hl 5 rfl) ?_
    refine lv_iconst (v := 2) hx hb dL_law_188 (by decide) ?_
    refine lv_iadd hx hb dL_law_189 ?_
    refine tp_i (y := nI (i + 2)) (nI_add i 2) ?_
    refine va_sld hx hb hX hbl hbA hS (vp_in_nI (show i + 2 < L by omega) (by omega)) dL_law_190 ?_
    refine tp_i (y := xs (i + 2)) (by rw [nI_clamp (by omega)]) ?_
    refine lv_i2l hx hb dL_law_191 rfl ?_
    refine lv_ldc2 (v := 4294967295) hx hb hown (hall _ kw_447) dL_law_192 ?_
    refine lv_land hx hb dL_law_195 ?_
    refine lv_lor hx hb dL_law_196 ?_
    refine tp_l (y := v0) E_v0.symm ?_
    refine lv_aload_n hx hb dL_law_197 rfl (lv_at hl 1 rfl) ?_
    refine lv_iload hx hb dL_law_198 (lv_at hl 5 rfl) ?_
    refine lv_iconst (v := 3) hx hb dL_law_200 (by decide) ?_
    refine lv_iadd hx hb dL_law_201 ?_
    refine tp_i (y := nI (i + 3)) (nI_add i 3) ?_
    refine va_sld hx hb hX hbl hbA hS (vp_in_nI (show i + 3 < L by omega) (by omega)) dL_law_202 ?_
    refine tp_i (y := xs (i + 3)) (by rw [nI_clamp (by omega)]) ?_
    refine lv_i2l hx hb dL_law_203 rfl ?_
    refine lv_bipush (v := 32) hx hb dL_law_204 (by decide) ?_
    refine lv_lshl hx hb dL_law_206 rfl ?_
    refine lv_aload_n hx hb dL_law_207 rfl (lv_at hl 1 rfl) ?_
    refine lv_iload hx hb dL_law_208 (lv_at hl 5 rfl) ?_
    refine lv_iconst (v := 4) hx hb dL_law_210 (by decide) ?_
    refine lv_iadd hx hb dL_law_211 ?_
    refine tp_i (y := nI (i + 4)) (nI_add i 4) ?_
    refine va_sld hx hb hX hbl hbA hS (vp_in_nI (show i + 4 < L by omega) (by omega)) dL_law_212 ?_
    refine tp_i (y := xs (i + 4)) (by rw [nI_clamp (by omega)]) ?_
    refine lv_i2l hx hb dL_law_213 rfl ?_
    refine lv_ldc2 (v := 4294967295) hx hb hown (hall _ kw_447) dL_law_214 ?_
    refine lv_land hx hb dL_law_217 ?_
    refine lv_lor hx hb dL_law_218 ?_
    refine tp_l (y := t) E_t.symm ?_
    have hPc := hP.sub (ws' := (wm y b1 b2 b3 b4 b5 b6 b7 b8 b9 b10 cI cJ cZ th nD nR vs mac now o mt mw zs.length nv dl ec rt rv mk)) [8, 9, 10, 11, 12, 13, 14, 15, 16, 17, 18] rfl
    have hDc := hD.sub (ws' := (wm y b1 b2 b3 b4 b5 b6 b7 b8 b9 b10 cI cJ cZ th nD nR vs mac now o mt mw zs.length nv dl ec rt rv mk)) [8, 9, 10, 11, 12, 13, 14, 15, 16, 17, 18] (by decide) rfl
    have hFc := va_free (wc := (wm y b1 b2 b3 b4 b5 b6 b7 b8 b9 b10 cI cJ cZ th nD nR vs mac now o mt mw zs.length nv dl ec rt rv mk)) hD hS hA [8, 9, 10, 11, 12, 13, 14, 15, 16, 17, 18] rfl
    refine va_callv (va_runV (As := [.long v0, .long t]) (rest := []) ⟨hx, hb, hml, hown, hall⟩ (m_element0 l dC dI y b1 b2 b3 b4 b5 b6 b7 b8 b9 b10 cI cJ cZ th nD nR vs mac now o mt mw nv dl ec rt rv mk zs H.size v0 t h1 h2 (by omega)) (cwV 2 hall gL_64 rfl rfl rfl (by decide +kernel) ⟨Nat.le_of_ble_eq_true rfl, Nat.le_of_ble_eq_true rfl⟩) ⟨xu_blind, va_recv hK hPc (ci := 1) (q0 := 0) rfl rfl, fun U hU hW => ⟨rfl, by rw [hU], by rw [hU]; exact hPc, va_K.moved hW.alike hK, hDc.weaken (fun _ _ _ _ => trivial)⟩⟩ rfl rfl hl.1 rfl (lv_room (Nat.le_of_ble_eq_true rfl)) dL_law_219 ⟨by show _ ≤ 601024; omega, by show _ ≤ 7293000; omega⟩) hS (fun q _ h => hFc q h) hFc (fun u9 t9 H1 locs ht hvm hw hB hz1 hk1 hS => ?_)
    obtain ⟨hP1, hK1, hD1⟩ := hB
    rw [ht] at hP1
    obtain ⟨hP, hD⟩ := va_join (wr := (wr x a1 a2 a3 a4 a5 a6 a7 cI cJ nD nR dv r cap ti va (vp_updL ev ec v0) (vp_updL ed ec t) (ec + 1) ad ac now) ++ [(q, .inl (cJ, 1, .inr (.inl ou)))]) (w1 := (wm y b1 b2 b3 b4 b5 b6 b7 b8 b9 b10 cI cJ cZ 0 nD nR vs mac now o mt mw zs.length (vp_updL nv ec v0) (vp_updL dl ec t) (ec + 1) rt rv mk)) hP hD [8, 9, 10, 11, 12, 13, 14, 15, 16, 17, 18] [0, 1, 2, 3, 4, 5, 6, 7, 19] rfl rfl (by decide) (by decide) hk1 hFc hP1 hD1
    generalize H1 = H at hP hS ⊢
    have hP := hP.sub (ws' := (wlw x a1 a2 a3 a4 a5 a6 a7 y b1 b2 b3 b4 b5 b6 b7 b8 b9 b10 q cI cJ cZ nD nR dv r cap ti va (vp_updL ev ec v0) (vp_updL ed ec t) (ec + 1) ad ac now 0 vs mac now o mt mw zs.length (vp_updL nv ec v0) (vp_updL dl ec t) (ec + 1) rt rv mk ou)) [0, 1, 2, 3, 4, 5, 6, 7, 9, 10, 11, 12, 13, 14, 15, 16, 17, 18, 19, 8] rfl
    have hD := hD.sub (ws' := (wlw x a1 a2 a3 a4 a5 a6 a7 y b1 b2 b3 b4 b5 b6 b7 b8 b9 b10 q cI cJ cZ nD nR dv r cap ti va (vp_updL ev ec v0) (vp_updL ed ec t) (ec + 1) ad ac now 0 vs mac now o mt mw zs.length (vp_updL nv ec v0) (vp_updL dl ec t) (ec + 1) rt rv mk ou)) [0, 1, 2, 3, 4, 5, 6, 7, 9, 10, 11, 12, 13, 14, 15, 16, 17, 18, 19, 8] (by decide) rfl
    refine lv_aload_n hx hb dL_law_222 rfl (lv_at hl 3 rfl) ?_
    have hPc := hP.sub (ws' := (wm y b1 b2 b3 b4 b5 b6 b7 b8 b9 b10 cI cJ cZ 0 nD nR vs mac now o mt mw zs.length (vp_updL nv ec v0) (vp_updL dl ec t) (ec + 1) rt rv mk)) [8, 9, 10, 11, 12, 13, 14, 15, 16, 17, 18] rfl
    refine vp_callSi (W.runV (As := []) (rest := []) ⟨hx, hb, hml, hown, hall⟩ (m_thrown l dC dI y b1 b2 b3 b4 b5 b6 b7 b8 b9 b10 cI cJ cZ 0 nD nR vs mac now o mt mw (vp_updL nv ec v0) (vp_updL dl ec t) (ec + 1) rt rv mk zs) (cwV 0 hall gL_65 rfl rfl rfl (by decide +kernel) ⟨Nat.le_of_ble_eq_true rfl, Nat.le_of_ble_eq_true rfl⟩) ⟨xr_blind, va_recv hK hPc (ci := 1) (q0 := 0) rfl rfl, fun U hU hW => ⟨rfl, by rw [hU]; exact hPc, va_K.moved hW.alike hK⟩⟩ rfl rfl hl.1 rfl (lv_room (Nat.le_of_ble_eq_true rfl)) dL_law_223 ⟨by show _ ≤ 601024; omega, by show _ ≤ 7293000; omega⟩) (fun v_3 hv_4 => ?_)
    obtain rfl : v_3 = nI 0 := hv_4
    refine lv_iload hx hb dL_law_226 (lv_at hl 0 rfl) ?_
    refine lv_icmp_eq (tgt := 233) hx hb dL_law_228 (by decide) (fun c_5 => ?_) (fun c_5 => ?_)
    · refine lv_goto (tgt := 920) hx hb dL_law_233 (by decide) ?_
      refine W.widen (k := 20 + 2 * i + 2) (n := 70000 + 6 * i + 6 + G) (by omega) (by omega) ?_
      exact KK a3 a4 dv r cap ti va (vp_updL ev ec v0) (vp_updL ed ec t) (ec + 1) ad ac now 0 vs mac o mt mw zs (vp_updL nv ec v0) (vp_updL dl ec t) rt rv mk ou G H locs (wrel_element hR h1 h2 (by omega)) hZ hG hP hD hS ls (lv_sub hl [1, 2, 3, 4, 5] rfl)
    · exact absurd rfl c_5
set_option maxHeartbeats 8000000 in
set_option maxRecDepth 100000 in
theorem l_drop {p : Program} {l : Launch} {e : Env} {s : State} {m : MethodId} {below : List Frame} {meth : Method} {c : Code} {dC : Nat → ClassId} {dI : Nat → Nat → Nat} {b L : Nat} {xs : Nat → Int32} (hst : l.stackTraces = false) (hL : L ≤ 2562) (C0 : lw_At p s m meth c b L xs) (hok : xt_ok s) (hnk : xt_nk s) {x a1 a2 a5 a6 a7 y b1 b2 b3 b4 b5 b6 b7 b8 b9 b10 q : Nat} {cI cJ cZ : ClassId} {nD nR : Nat} (hK : va_K (dC, dI) vwCl [(cI, .int), (cJ, .long), (cZ, .boolean)] s) (i : Nat) (hi : i + 5 ≤ L) (KK : lwK p l e s m below meth c dC dI b x a1 a2 a5 a6 a7 y b1 b2 b3 b4 b5 b6 b7 b8 b9 b10 q cI cJ cZ nD nR i) (a3 a4 : Nat) (dv : Nat → Int64) (r : Nat → Nat) (cap : Nat) (ti va ev ed : Nat → Int64) (ec : Nat) (ad : Nat → Int32) (ac : Nat) (now : Int64) (th : Nat) (vs : Nat → Int64) (mac : Nat → Bool) (o : Nat → Nat) (mt mw : Nat → Int64) (zs : List ZT) (nv dl : Nat → Int64) (rt rv : Nat → Int64) (mk : Nat → Bool) (ou : Nat → Int64) (G : Nat) (H : Heap) (locs : List Loc) (hR : wrel nD nR cap ec ac dv r ti va ev ed ad now vs mac zs nv dl) (hZ : wz zs o mt mw) (hG : G ≤ 4 * cap ∨ cap = nR ∧ G ≤ 6 * nR) (hP : va_P (dC, dI) vwCl (wlw x a1 a2 a3 a4 a5 a6 a7 y b1 b2 b3 b4 b5 b6 b7 b8 b9 b10 q cI cJ cZ nD nR dv r cap ti va ev ed ec ad ac now th vs mac now o mt mw zs.length nv dl ec rt rv mk ou) H) (hD : va_D (fun z : Nat => s.heap.size ≤ z) (wlw x a1 a2 a3 a4 a5 a6 a7 y b1 b2 b3 b4 b5 b6 b7 b8 b9 b10 q cI cJ cZ nD nR dv r cap ti va ev ed ec ad ac now th vs mac now o mt mw zs.length nv dl ec rt rv mk ou)) (hS : va_S (fun z : Nat => s.heap.size ≤ z) s.heap H locs) (ls : Array Slot) (hl : lv_has ls 8 [(0, .ref b), (1, .ref x), (2, .ref y), (3, .ref q), (4, .int (nI i))]) : W p l e room_1 s m #[Value.ref b] below meth c H locs (20 + 2 * i) (70000 + 6 * i + G) (lw_Z below #[Value.ref b] s) (F0 m 236 ls []) := by
  obtain ⟨hx, hb, hr, hml, hown, hts, hX, hbl, hlocks, hgv⟩ := C0
  have hA : ∀ z : Nat, s.heap.size ≤ z → (fun z : Nat => s.heap.size ≤ z) z := fun _ h => h
  have hbA : ¬ (fun z : Nat => s.heap.size ≤ z) b := Nat.not_le.mpr hbl
  have hall : ∀ w ∈ allw, w.before #[Value.ref b] s = true := fun w h => hts w (List.mem_filter.mp h).1
  have hown : s.vm.findClass RL = some m.cls := hown
  have hI := hR.1
  have hIm := wrel_I hR
  obtain ⟨hnD1, hnD, hnR1, hnR, hcap, hrc, hrR, hr0, hmo, hec, hac⟩ := id hR.1
  have hG6 : G ≤ 49152 := by omega
  refine lv_aload_n hx hb dL_law_236 rfl (lv_at hl 1 rfl) ?_
  have hPc := hP.sub (ws' := (wr x a1 a2 a3 a4 a5 a6 a7 cI cJ nD nR dv r cap ti va ev ed ec ad ac now)) [0, 1, 2, 3, 4, 5, 6, 7] rfl
  have hDc := hD.sub (ws' := (wr x a1 a2 a3 a4 a5 a6 a7 cI cJ nD nR dv r cap ti va ev ed ec ad ac now)) [0, 1, 2, 3, 4, 5, 6, 7] (by decide) rfl
  have hKc := hK.sub (tys' := [(cI, .int), (cJ, .long)]) [0, 1] rfl
  have hFc := va_free (wc := (wr x a1 a2 a3 a4 a5 a6 a7 cI cJ nD nR dv r cap ti va ev ed ec ad ac now)) hD hS hA [0, 1, 2, 3, 4, 5, 6, 7] rfl
  refine va_calli (va_runV (As := []) (rest := []) ⟨hx, hb, hml, hown, hall⟩ (c_drop l dC dI x a1 a2 a3 a4 a5 a6 a7 cI cJ nD nR dv r cap ti va ev ed ec ad ac now H.size ) (cwV 0 hall gL_69 rfl rfl rfl (by decide +kernel) ⟨Nat.le_of_ble_eq_true rfl, Nat.le_of_ble_eq_true rfl⟩) ⟨xu_blind, va_recv hKc hPc (ci := 0) (q0 := 0) rfl rfl, fun U hU hW => ⟨rfl, by rw [hU], by rw [hU]; exact hPc, va_K.moved hW.alike hKc, hDc.weaken (fun _ _ _ _ => trivial)⟩⟩ rfl rfl hl.1 rfl (lv_room (Nat.le_of_ble_eq_true rfl)) dL_law_237 ⟨by show _ ≤ 601024; omega, by show _ ≤ 7293000; omega⟩) hS (fun q _ h => hFc q h) hFc (fun v_1 u t9 H1 locs ht hvm hw hB hz1 hk1 hS => ?_)
  obtain ⟨hP1, hK1, hD1⟩ := hB
  rw [ht] at hP1
  obtain ⟨hP, hD⟩ := va_join (wr := (wm y b1 b2 b3 b4 b5 b6 b7 b8 b9 b10 cI cJ cZ th nD nR vs mac now o mt mw zs.length nv dl ec rt rv mk) ++ [(q, .inl (cJ, 1, .inr (.inl ou)))]) (w1 := (wr x a1 a2 a3 a4 a5 a6 a7 cI cJ nD nR dv r cap ti va ev ed 0 ad ac now)) hP hD [0, 1, 2, 3, 4, 5, 6, 7] [8, 9, 10, 11, 12, 13, 14, 15, 16, 17, 18, 19] rfl rfl (by decide) (by decide) hk1 hFc hP1 hD1
  generalize H1 = H at hP hS ⊢
  have hP := hP.sub (ws' := (wlw x a1 a2 a3 a4 a5 a6 a7 y b1 b2 b3 b4 b5 b6 b7 b8 b9 b10 q cI cJ cZ nD nR dv r cap ti va ev ed 0 ad ac now th vs mac now o mt mw zs.length nv dl ec rt rv mk ou)) [12, 13, 14, 15, 16, 17, 18, 19, 0, 1, 2, 3, 4, 5, 6, 7, 8, 9, 10, 11] rfl
  have hD := hD.sub (ws' := (wlw x a1 a2 a3 a4 a5 a6 a7 y b1 b2 b3 b4 b5 b6 b7 b8 b9 b10 q cI cJ cZ nD nR dv r cap ti va ev ed 0 ad ac now th vs mac now o mt mw zs.length nv dl ec rt rv mk ou)) [12, 13, 14, 15, 16, 17, 18, 19, 0, 1, 2, 3, 4, 5, 6, 7, 8, 9, 10, 11] (by decide) rfl
  obtain rfl : v_1 = nI ec := hw
  refine lv_aload_n hx hb dL_law_240 rfl (lv_at hl 2 rfl) ?_
  have hPc := hP.sub (ws' := (wm y b1 b2 b3 b4 b5 b6 b7 b8 b9 b10 cI cJ cZ th nD nR vs mac now o mt mw zs.length nv dl ec rt rv mk)) [8, 9, 10, 11, 12, 13, 14, 15, 16, 17, 18] rfl
  have hDc := hD.sub (ws' := (wm y b1 b2 b3 b4 b5 b6 b7 b8 b9 b10 cI cJ cZ th nD nR vs mac now o mt mw zs.length nv dl ec rt rv mk)) [8, 9, 10, 11, 12, 13, 14, 15, 16, 17, 18] (by decide) rfl
  have hFc := va_free (wc := (wm y b1 b2 b3 b4 b5 b6 b7 b8 b9 b10 cI cJ cZ th nD nR vs mac now o mt mw zs.length nv dl ec rt rv mk)) hD hS hA [8, 9, 10, 11, 12, 13, 14, 15, 16, 17, 18] rfl
  refine va_calli (va_runV (As := []) (rest := [.int (nI ec)]) ⟨hx, hb, hml, hown, hall⟩ (m_drop l dC dI y b1 b2 b3 b4 b5 b6 b7 b8 b9 b10 cI cJ cZ th nD nR vs mac now o mt mw nv dl ec rt rv mk zs H.size ) (cwV 0 hall gL_72 rfl rfl rfl (by decide +kernel) ⟨Nat.le_of_ble_eq_true rfl, Nat.le_of_ble_eq_true rfl⟩) ⟨xu_blind, va_recv hK hPc (ci := 1) (q0 := 0) rfl rfl, fun U hU hW => ⟨rfl, by rw [hU], by rw [hU]; exact hPc, va_K.moved hW.alike hK, hDc.weaken (fun _ _ _ _ => trivial)⟩⟩ rfl rfl hl.1 rfl (lv_room (Nat.le_of_ble_eq_true rfl)) dL_law_241 ⟨by show _ ≤ 601024; omega, by show _ ≤ 7293000; omega⟩) hS (fun q _ h => hFc q h) hFc (fun v_2 u9 t9 H1 locs ht hvm hw hB hz1 hk1 hS => ?_)
  obtain ⟨hP1, hK1, hD1⟩ := hB
  rw [ht] at hP1
  obtain ⟨hP, hD⟩ := va_join (wr := (wr x a1 a2 a3 a4 a5 a6 a7 cI cJ nD nR dv r cap ti va ev ed 0 ad ac now) ++ [(q, .inl (cJ, 1, .inr (.inl ou)))]) (w1 := (wm y b1 b2 b3 b4 b5 b6 b7 b8 b9 b10 cI cJ cZ 0 nD nR vs mac now o mt mw zs.length nv dl 0 rt rv mk)) hP hD [8, 9, 10, 11, 12, 13, 14, 15, 16, 17, 18] [0, 1, 2, 3, 4, 5, 6, 7, 19] rfl rfl (by decide) (by decide) hk1 hFc hP1 hD1
  generalize H1 = H at hP hS ⊢
  have hP := hP.sub (ws' := (wlw x a1 a2 a3 a4 a5 a6 a7 y b1 b2 b3 b4 b5 b6 b7 b8 b9 b10 q cI cJ cZ nD nR dv r cap ti va ev ed 0 ad ac now 0 vs mac now o mt mw zs.length nv dl 0 rt rv mk ou)) [0, 1, 2, 3, 4, 5, 6, 7, 9, 10, 11, 12, 13, 14, 15, 16, 17, 18, 19, 8] rfl
  have hD := hD.sub (ws' := (wlw x a1 a2 a3 a4 a5 a6 a7 y b1 b2 b3 b4 b5 b6 b7 b8 b9 b10 q cI cJ cZ nD nR dv r cap ti va ev ed 0 ad ac now 0 vs mac now o mt mw zs.length nv dl 0 rt rv mk ou)) [0, 1, 2, 3, 4, 5, 6, 7, 9, 10, 11, 12, 13, 14, 15, 16, 17, 18, 19, 8] (by decide) rfl
  refine tp_i (y := nI ec) hw ?_
  refine lv_icmp_eq (tgt := 920) hx hb dL_law_244 (by decide) (fun c_3 => ?_) (fun c_3 => ?_)
  · refine W.widen (k := 20 + 2 * i + 2) (n := 70000 + 6 * i + 6 + G) (by omega) (by omega) ?_
    exact KK a3 a4 dv r cap ti va ev ed 0 ad ac now 0 vs mac o mt mw zs nv dl rt rv mk ou G H locs (wrel_drop hR) hZ hG hP hD hS ls (lv_sub hl [0, 1, 2, 3, 4] rfl)
  · exact absurd rfl c_3
