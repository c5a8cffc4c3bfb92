set_option maxHeartbeats 8000000 in
set_option maxRecDepth 100000 in
theorem l_at0 {p : Program} {l : Launch} {e : Env} {s : State} {m : MethodId} {below : List Frame} {meth : Method} {c : Code} {dC : Nat → ClassId} {dI : Nat → Nat → Nat} {b L : Nat} {xs : Nat → Int32} (hst : l.stackTraces = false) (hL : L ≤ 2562) (C0 : lw_At p s m meth c b L xs) (hok : xt_ok s) (hnk : xt_nk s) {x a1 a2 a5 a6 a7 y b1 b2 b3 b4 b5 b6 b7 b8 b9 b10 q : Nat} {cI cJ cZ : ClassId} {nD nR : Nat} (hK : va_K (dC, dI) vwCl [(cI, .int), (cJ, .long), (cZ, .boolean)] s) (i : Nat) (hi : i + 5 ≤ L) (hz0 : xs (i + 3) = 0) (KK : lwK p l e s m below meth c dC dI b x a1 a2 a5 a6 a7 y b1 b2 b3 b4 b5 b6 b7 b8 b9 b10 q cI cJ cZ nD nR i) (a3 a4 : Nat) (dv : Nat → Int64) (r : Nat → Nat) (cap : Nat) (ti va ev ed : Nat → Int64) (ec : Nat) (ad : Nat → Int32) (ac : Nat) (now : Int64) (th : Nat) (vs : Nat → Int64) (mac : Nat → Bool) (o : Nat → Nat) (mt mw : Nat → Int64) (zs : List ZT) (nv dl : Nat → Int64) (rt rv : Nat → Int64) (mk : Nat → Bool) (ou : Nat → Int64) (G : Nat) (H : Heap) (locs : List Loc) (hR : wrel nD nR cap ec ac dv r ti va ev ed ad now vs mac zs nv dl) (hZ : wz zs o mt mw) (hG : G ≤ 4 * cap ∨ cap = nR ∧ G ≤ 6 * nR) (hP : va_P (dC, dI) vwCl (wlw x a1 a2 a3 a4 a5 a6 a7 y b1 b2 b3 b4 b5 b6 b7 b8 b9 b10 q cI cJ cZ nD nR dv r cap ti va ev ed ec ad ac now th vs mac now o mt mw zs.length nv dl ec rt rv mk ou) H) (hD : va_D (fun z : Nat => s.heap.size ≤ z) (wlw x a1 a2 a3 a4 a5 a6 a7 y b1 b2 b3 b4 b5 b6 b7 b8 b9 b10 q cI cJ cZ nD nR dv r cap ti va ev ed ec ad ac now th vs mac now o mt mw zs.length nv dl ec rt rv mk ou)) (hS : va_S (fun z : Nat => s.heap.size ≤ z) s.heap H locs) (ls : Array Slot) (hl : lv_has ls 8 [(0, .ref b), (1, .ref x), (2, .ref y), (3, .ref q), (4, .int (nI i))]) : W p l e room_1 s m #[Value.ref b] below meth c H locs (20 + 2 * i) (70000 + 6 * i + G) (lw_Z below #[Value.ref b] s) (F0 m 713 ls []) := by
  obtain ⟨hx, hb, hr, hml, hown, hts, hX, hbl, hlocks, hgv⟩ := C0
  have hA : ∀ z : Nat, s.heap.size ≤ z → (fun z : Nat => s.heap.size ≤ z) z := fun _ h => h
  have hbA : ¬ (fun z : Nat => s.heap.size ≤ z) b := Nat.not_le.mpr hbl
  have hall : ∀ w ∈ allw, w.before #[Value.ref b] s = true := fun w h => hts w (List.mem_filter.mp h).1
  have hown : s.vm.findClass RL = some m.cls := hown
  have hI := hR.1
  have hIm := wrel_I hR
  obtain ⟨hnD1, hnD, hnR1, hnR, hcap, hrc, hrR, hr0, hmo, hec, hac⟩ := id hR.1
  have hG6 : G ≤ 49152 := by omega
  have hz : xs (i + 3) = 0 := hz0
  obtain ⟨d0, E_d0⟩ : ∃ z : Int32, z = xs (i + 1) := ⟨_, rfl⟩
  obtain ⟨j0, E_j0⟩ : ∃ z : Int32, z = xs (i + 2) := ⟨_, rfl⟩
  by_cases c1 : d0 < 0 ∨ nI nD ≤ d0
  · refine lv_aload_n hx hb dL_law_713 rfl (lv_at hl 1 rfl) ?_
    refine lv_aload_n hx hb dL_law_714 rfl (lv_at hl 0 rfl) ?_
    refine lv_iload hx hb dL_law_715 (lv_at hl 4 rfl) ?_
    refine lv_iconst (v := 1) hx hb dL_law_717 (by decide) ?_
    refine lv_iadd hx hb dL_law_718 ?_
    refine tp_i (y := nI (i + 1)) (nI_add i 1) ?_
    refine va_sld hx hb hX hbl hbA hS (vp_in_nI (show i + 1 < L by omega) (by omega)) dL_law_719 ?_
    refine tp_i (y := d0) (by rw [nI_clamp (by omega)]; exact E_d0.symm) ?_
    refine lv_aload_n hx hb dL_law_720 rfl (lv_at hl 0 rfl) ?_
    refine lv_iload hx hb dL_law_721 (lv_at hl 4 rfl) ?_
    refine lv_iconst (v := 2) hx hb dL_law_723 (by decide) ?_
    refine lv_iadd hx hb dL_law_724 ?_
    refine tp_i (y := nI (i + 2)) (nI_add i 2) ?_
    refine va_sld hx hb hX hbl hbA hS (vp_in_nI (show i + 2 < L by omega) (by omega)) dL_law_725 ?_
    refine tp_i (y := j0) (by rw [nI_clamp (by omega)]; exact E_j0.symm) ?_
    refine lv_aload_n hx hb dL_law_726 rfl (lv_at hl 0 rfl) ?_
    refine lv_iload hx hb dL_law_727 (lv_at hl 4 rfl) ?_
    refine lv_iconst (v := 3) hx hb dL_law_729 (by decide) ?_
    refine lv_iadd hx hb dL_law_730 ?_
    refine tp_i (y := nI (i + 3)) (nI_add i 3) ?_
    refine va_sld hx hb hX hbl hbA hS (vp_in_nI (show i + 3 < L by omega) (by omega)) dL_law_731 ?_
    refine tp_i (y := xs (i + 3)) (by rw [nI_clamp (by omega)]) ?_
    refine lv_if_eq (tgt := 739) hx hb dL_law_732 (by decide) (fun c_1 => ?_) (fun c_1 => ?_)
    · refine lv_iconst (v := 0) hx hb dL_law_739 (by decide) ?_
      refine lv_aload_n hx hb dL_law_740 rfl (lv_at hl 3 rfl) ?_
      have hPc := hP.sub (ws' := (wr x a1 a2 a3 a4 a5 a6 a7 cI cJ nD nR dv r cap ti va ev ed ec ad ac now)) [0, 1, 2, 3, 4, 5, 6, 7] rfl
      have hDc := hD.sub (ws' := (wr x a1 a2 a3 a4 a5 a6 a7 cI cJ nD nR dv r cap ti va ev ed ec ad ac now)) [0, 1, 2, 3, 4, 5, 6, 7] (by decide) rfl
      have hKc := hK.sub (tys' := [(cI, .int), (cJ, .long)]) [0, 1] rfl
      have hFc := va_free (wc := (wr x a1 a2 a3 a4 a5 a6 a7 cI cJ nD nR dv r cap ti va ev ed ec ad ac now)) hD hS hA [0, 1, 2, 3, 4, 5, 6, 7] rfl
      refine va_calli (xt_runSW (n := 5) (As := [.ref x, .int d0, .int j0, .int 0, .ref q]) (rest := []) ⟨hx, hb, hml, hown, hall⟩ (h_at1 l dC dI x a1 a2 a3 a4 a5 a6 a7 cI cJ nD nR dv r cap ti va ev ed ec ad ac now hst q H.size d0 c1 j0 0) gL_105 rfl rfl rfl (by decide +kernel) ⟨Nat.le_of_ble_eq_true rfl, Nat.le_of_ble_eq_true rfl⟩ ⟨xh_blind, fun U hU hW => ⟨rfl, by rw [hU], by rw [hU]; exact hPc, va_K.moved hW.alike hKc, hDc.weaken (fun _ _ _ _ => trivial), xt_move hW (fun z hz => by rw [hU]; exact hS.2.1 z hz (Nat.not_le.mpr hz)) hok, xt_nk_move hW.alike hnk⟩⟩ rfl rfl hl.1 rfl (lv_room (Nat.le_of_ble_eq_true rfl)) dL_law_741 ⟨by show _ ≤ 601024; omega, by show _ ≤ 7293000; omega⟩) hS (fun q _ h => hFc q h) hFc (fun v_2 u t9 H1 locs ht hvm hw hB hz1 hk1 hS => ?_)
      obtain ⟨hP1, hK1, hD1⟩ := hB
      rw [ht] at hP1
      obtain ⟨hP, hD⟩ := va_join (wr := (wm y b1 b2 b3 b4 b5 b6 b7 b8 b9 b10 cI cJ cZ th nD nR vs mac now o mt mw zs.length nv dl ec rt rv mk) ++ [(q, .inl (cJ, 1, .inr (.inl ou)))]) (w1 := (wr x a1 a2 a3 a4 a5 a6 a7 cI cJ nD nR dv r cap ti va ev ed ec ad ac now)) hP hD [0, 1, 2, 3, 4, 5, 6, 7] [8, 9, 10, 11, 12, 13, 14, 15, 16, 17, 18, 19] rfl rfl (by decide) (by decide) hk1 hFc hP1 hD1
      generalize H1 = H at hP hS ⊢
      have hP := hP.sub (ws' := (wlw x a1 a2 a3 a4 a5 a6 a7 y b1 b2 b3 b4 b5 b6 b7 b8 b9 b10 q cI cJ cZ nD nR dv r cap ti va ev ed ec ad ac now th vs mac now o mt mw zs.length nv dl ec rt rv mk ou)) [12, 13, 14, 15, 16, 17, 18, 19, 0, 1, 2, 3, 4, 5, 6, 7, 8, 9, 10, 11] rfl
      have hD := hD.sub (ws' := (wlw x a1 a2 a3 a4 a5 a6 a7 y b1 b2 b3 b4 b5 b6 b7 b8 b9 b10 q cI cJ cZ nD nR dv r cap ti va ev ed ec ad ac now th vs mac now o mt mw zs.length nv dl ec rt rv mk ou)) [12, 13, 14, 15, 16, 17, 18, 19, 0, 1, 2, 3, 4, 5, 6, 7, 8, 9, 10, 11] (by decide) rfl
      obtain rfl : v_2 = nI 1 := hw
      refine lv_istore (lv' := [(5, .int (nI 1)), (0, .ref b), (1, .ref x), (2, .ref y), (3, .ref q), (4, .int (nI i))]) hx hb dL_law_744 hl (by decide) rfl (fun ls hl => ?_)
      refine lv_aload_n hx hb dL_law_746 rfl (lv_at hl 3 rfl) ?_
      refine lv_aload_n hx hb dL_law_747 rfl (lv_at hl 1 rfl) ?_
      refine lv_iload hx hb dL_law_748 (lv_at hl 5 rfl) ?_
      refine lv_iconst (v := 1) hx hb dL_law_750 (by decide) ?_
      refine lv_iadd hx hb dL_law_751 ?_
      refine tp_i (y := nI (i + 1)) (nI_add i 1) ?_
      refine va_sld hx hb hX hbl hbA hS (vp_in_nI (show i + 1 < L by omega) (by omega)) dL_law_752 ?_
      refine tp_i (y := d0) (by rw [nI_clamp (by omega)]; exact E_d0.symm) ?_
      refine lv_aload_n hx hb dL_law_753 rfl (lv_at hl 1 rfl) ?_
      refine lv_iload hx hb dL_law_754 (lv_at hl 5 rfl) ?_
      refine lv_iconst (v := 2) hx hb dL_law_756 (by decide) ?_
      refine lv_iadd hx hb dL_law_757 ?_
      refine tp_i (y := nI (i + 2)) (nI_add i 2) ?_
      refine va_sld hx hb hX hbl hbA hS (vp_in_nI (show i + 2 < L by omega) (by omega)) dL_law_758 ?_
      refine tp_i (y := j0) (by rw [nI_clamp (by omega)]; exact E_j0.symm) ?_
      refine lv_aload_n hx hb dL_law_759 rfl (lv_at hl 1 rfl) ?_
      refine lv_iload hx hb dL_law_760 (lv_at hl 5 rfl) ?_
      refine lv_iconst (v := 3) hx hb dL_law_762 (by decide) ?_
      refine lv_iadd hx hb dL_law_763 ?_
      refine tp_i (y := nI (i + 3)) (nI_add i 3) ?_
      refine va_sld hx hb hX hbl hbA hS (vp_in_nI (show i + 3 < L by omega) (by omega)) dL_law_764 ?_
      refine tp_i (y := xs (i + 3)) (by rw [nI_clamp (by omega)]) ?_
      refine lv_if_eq (tgt := 772) hx hb dL_law_765 (by decide) (fun c_3 => ?_) (fun c_3 => ?_)
      · refine lv_iconst (v := 0) hx hb dL_law_772 (by decide) ?_
        have hPc := hP.sub (ws' := (wm y b1 b2 b3 b4 b5 b6 b7 b8 b9 b10 cI cJ cZ th nD nR vs mac now o mt mw zs.length nv dl ec rt rv mk)) [8, 9, 10, 11, 12, 13, 14, 15, 16, 17, 18] rfl
        have hDc := hD.sub (ws' := (wm y b1 b2 b3 b4 b5 b6 b7 b8 b9 b10 cI cJ cZ th nD nR vs mac now o mt mw zs.length nv dl ec rt rv mk)) [8, 9, 10, 11, 12, 13, 14, 15, 16, 17, 18] (by decide) rfl
        have hFc := va_free (wc := (wm y b1 b2 b3 b4 b5 b6 b7 b8 b9 b10 cI cJ cZ th nD nR vs mac now o mt mw zs.length nv dl ec rt rv mk)) hD hS hA [8, 9, 10, 11, 12, 13, 14, 15, 16, 17, 18] rfl
        refine va_calll (va_runV (As := [.int d0, .int j0, .int 0]) (rest := []) ⟨hx, hb, hml, hown, hall⟩ (m_at1 l dC dI y b1 b2 b3 b4 b5 b6 b7 b8 b9 b10 cI cJ cZ th nD nR vs mac now o mt mw nv dl ec rt rv mk zs H.size d0 c1 j0 0) (cwV 3 hall gL_108 rfl rfl rfl (by decide +kernel) ⟨Nat.le_of_ble_eq_true rfl, Nat.le_of_ble_eq_true rfl⟩) ⟨xu_blind, va_recv hK hPc (ci := 1) (q0 := 0) rfl rfl, fun U hU hW => ⟨rfl, by rw [hU], by rw [hU]; exact hPc, va_K.moved hW.alike hK, hDc.weaken (fun _ _ _ _ => trivial)⟩⟩ rfl rfl hl.1 rfl (lv_room (Nat.le_of_ble_eq_true rfl)) dL_law_773 ⟨by show _ ≤ 601024; omega, by show _ ≤ 7293000; omega⟩) hS (fun q _ h => hFc q h) hFc (fun v_4 u9 t9 H1 locs ht hvm hw hB hz1 hk1 hS => ?_)
        obtain ⟨hP1, hK1, hD1⟩ := hB
        rw [ht] at hP1
        obtain ⟨hP, hD⟩ := va_join (wr := (wr x a1 a2 a3 a4 a5 a6 a7 cI cJ nD nR dv r cap ti va ev ed ec ad ac now) ++ [(q, .inl (cJ, 1, .inr (.inl ou)))]) (w1 := (wm y b1 b2 b3 b4 b5 b6 b7 b8 b9 b10 cI cJ cZ 1 nD nR vs mac now o mt mw zs.length nv dl ec rt rv mk)) hP hD [8, 9, 10, 11, 12, 13, 14, 15, 16, 17, 18] [0, 1, 2, 3, 4, 5, 6, 7, 19] rfl rfl (by decide) (by decide) hk1 hFc hP1 hD1
        generalize H1 = H at hP hS ⊢
        have hP := hP.sub (ws' := (wlw x a1 a2 a3 a4 a5 a6 a7 y b1 b2 b3 b4 b5 b6 b7 b8 b9 b10 q cI cJ cZ nD nR dv r cap ti va ev ed ec ad ac now 1 vs mac now o mt mw zs.length nv dl ec rt rv mk ou)) [0, 1, 2, 3, 4, 5, 6, 7, 9, 10, 11, 12, 13, 14, 15, 16, 17, 18, 19, 8] rfl
        have hD := hD.sub (ws' := (wlw x a1 a2 a3 a4 a5 a6 a7 y b1 b2 b3 b4 b5 b6 b7 b8 b9 b10 q cI cJ cZ nD nR dv r cap ti va ev ed ec ad ac now 1 vs mac now o mt mw zs.length nv dl ec rt rv mk ou)) [0, 1, 2, 3, 4, 5, 6, 7, 9, 10, 11, 12, 13, 14, 15, 16, 17, 18, 19, 8] (by decide) rfl
        refine lv_lstore (lv' := [(6, .long v_4), (5, .int (nI 1)), (0, .ref b), (1, .ref x), (2, .ref y), (3, .ref q), (4, .int (nI i))]) hx hb dL_law_776 hl (by decide) rfl (fun ls hl => ?_)
        refine lv_aload_n hx hb dL_law_778 rfl (lv_at hl 4 rfl) ?_
        have hPc := hP.sub (ws' := (wm y b1 b2 b3 b4 b5 b6 b7 b8 b9 b10 cI cJ cZ 1 nD nR vs mac now o mt mw zs.length nv dl ec rt rv mk)) [8, 9, 10, 11, 12, 13, 14, 15, 16, 17, 18] rfl
        refine vp_callSi (W.runV (As := []) (rest := []) ⟨hx, hb, hml, hown, hall⟩ (m_thrown l dC dI y b1 b2 b3 b4 b5 b6 b7 b8 b9 b10 cI cJ cZ 1 nD nR vs mac now o mt mw nv dl ec rt rv mk zs) (cwV 0 hall gL_65 rfl rfl rfl (by decide +kernel) ⟨Nat.le_of_ble_eq_true rfl, Nat.le_of_ble_eq_true rfl⟩) ⟨xr_blind, va_recv hK hPc (ci := 1) (q0 := 0) rfl rfl, fun U hU hW => ⟨rfl, by rw [hU]; exact hPc, va_K.moved hW.alike hK⟩⟩ rfl rfl hl.1 rfl (lv_room (Nat.le_of_ble_eq_true rfl)) dL_law_779 ⟨by show _ ≤ 601024; omega, by show _ ≤ 7293000; omega⟩) (fun v_5 hv_6 => ?_)
        obtain rfl : v_5 = nI 1 := hv_6
        refine lv_iload hx hb dL_law_782 (lv_at hl 1 rfl) ?_
        refine lv_icmp_eq (tgt := 789) hx hb dL_law_784 (by decide) (fun c_7 => ?_) (fun c_7 => ?_)
        · refine lv_iload hx hb dL_law_789 (lv_at hl 1 rfl) ?_
          refine lv_if_ne (tgt := 805) hx hb dL_law_791 (by decide) (fun c_8 => ?_) (fun c_8 => ?_)
          · refine lv_goto (tgt := 920) hx hb dL_law_805 (by decide) ?_
            refine W.widen (k := 20 + 2 * i + 2) (n := 70000 + 6 * i + 6 + G) (by omega) (by omega) ?_
            exact KK a3 a4 dv r cap ti va ev ed ec ad ac now 1 vs mac o mt mw zs nv dl rt rv mk ou G H locs hR hZ hG hP hD hS ls (lv_sub hl [2, 3, 4, 5, 6] rfl)
          · exact absurd c_8 (by decide)
        · exact absurd rfl c_7
      · exact absurd hz c_3
    · exact absurd hz c_1
  obtain ⟨d, hd, rfl⟩ : ∃ d : Nat, d < nD ∧ d0 = nI d := xw_d (by omega) c1
  by_cases c2 : j0 < 0
  · refine lv_aload_n hx hb dL_law_713 rfl (lv_at hl 1 rfl) ?_
    refine lv_aload_n hx hb dL_law_714 rfl (lv_at hl 0 rfl) ?_
    refine lv_iload hx hb dL_law_715 (lv_at hl 4 rfl) ?_
    refine lv_iconst (v := 1) hx hb dL_law_717 (by decide) ?_
    refine lv_iadd hx hb dL_law_718 ?_
    refine tp_i (y := nI (i + 1)) (nI_add i 1) ?_
    refine va_sld hx hb hX hbl hbA hS (vp_in_nI (show i + 1 < L by omega) (by omega)) dL_law_719 ?_
    refine tp_i (y := nI d) (by rw [nI_clamp (by omega)]; exact E_d0.symm) ?_
    refine lv_aload_n hx hb dL_law_720 rfl (lv_at hl 0 rfl) ?_
    refine lv_iload hx hb dL_law_721 (lv_at hl 4 rfl) ?_
    refine lv_iconst (v := 2) hx hb dL_law_723 (by decide) ?_
    refine lv_iadd hx hb dL_law_724 ?_
    refine tp_i (y := nI (i + 2)) (nI_add i 2) ?_
    refine va_sld hx hb hX hbl hbA hS (vp_in_nI (show i + 2 < L by omega) (by omega)) dL_law_725 ?_
    refine tp_i (y := j0) (by rw [nI_clamp (by omega)]; exact E_j0.symm) ?_
    refine lv_aload_n hx hb dL_law_726 rfl (lv_at hl 0 rfl) ?_
    refine lv_iload hx hb dL_law_727 (lv_at hl 4 rfl) ?_
    refine lv_iconst (v := 3) hx hb dL_law_729 (by decide) ?_
    refine lv_iadd hx hb dL_law_730 ?_
    refine tp_i (y := nI (i + 3)) (nI_add i 3) ?_
    refine va_sld hx hb hX hbl hbA hS (vp_in_nI (show i + 3 < L by omega) (by omega)) dL_law_731 ?_
    refine tp_i (y := xs (i + 3)) (by rw [nI_clamp (by omega)]) ?_
    refine lv_if_eq (tgt := 739) hx hb dL_law_732 (by decide) (fun c_1 => ?_) (fun c_1 => ?_)
    · refine lv_iconst (v := 0) hx hb dL_law_739 (by decide) ?_
      refine lv_aload_n hx hb dL_law_740 rfl (lv_at hl 3 rfl) ?_
      have hPc := hP.sub (ws' := (wr x a1 a2 a3 a4 a5 a6 a7 cI cJ nD nR dv r cap ti va ev ed ec ad ac now)) [0, 1, 2, 3, 4, 5, 6, 7] rfl
      have hDc := hD.sub (ws' := (wr x a1 a2 a3 a4 a5 a6 a7 cI cJ nD nR dv r cap ti va ev ed ec ad ac now)) [0, 1, 2, 3, 4, 5, 6, 7] (by decide) rfl
      have hKc := hK.sub (tys' := [(cI, .int), (cJ, .long)]) [0, 1] rfl
      have hFc := va_free (wc := (wr x a1 a2 a3 a4 a5 a6 a7 cI cJ nD nR dv r cap ti va ev ed ec ad ac now)) hD hS hA [0, 1, 2, 3, 4, 5, 6, 7] rfl
      refine va_calli (xt_runSW (n := 5) (As := [.ref x, .int (nI d), .int j0, .int 0, .ref q]) (rest := []) ⟨hx, hb, hml, hown, hall⟩ (h_at2 l dC dI x a1 a2 a3 a4 a5 a6 a7 cI cJ nD nR dv r cap ti va ev ed ec ad ac now hst q H.size hI d j0 0 hd (Or.inl c2)) gL_105 rfl rfl rfl (by decide +kernel) ⟨Nat.le_of_ble_eq_true rfl, Nat.le_of_ble_eq_true rfl⟩ ⟨xh_blind, fun U hU hW => ⟨rfl, by rw [hU], by rw [hU]; exact hPc, va_K.moved hW.alike hKc, hDc.weaken (fun _ _ _ _ => trivial), xt_move hW (fun z hz => by rw [hU]; exact hS.2.1 z hz (Nat.not_le.mpr hz)) hok, xt_nk_move hW.alike hnk⟩⟩ rfl rfl hl.1 rfl (lv_room (Nat.le_of_ble_eq_true rfl)) dL_law_741 ⟨by show _ ≤ 601024; omega, by show _ ≤ 7293000; omega⟩) hS (fun q _ h => hFc q h) hFc (fun v_2 u t9 H1 locs ht hvm hw hB hz1 hk1 hS => ?_)
      obtain ⟨hP1, hK1, hD1⟩ := hB
      rw [ht] at hP1
      obtain ⟨hP, hD⟩ := va_join (wr := (wm y b1 b2 b3 b4 b5 b6 b7 b8 b9 b10 cI cJ cZ th nD nR vs mac now o mt mw zs.length nv dl ec rt rv mk) ++ [(q, .inl (cJ, 1, .inr (.inl ou)))]) (w1 := (wr x a1 a2 a3 a4 a5 a6 a7 cI cJ nD nR dv r cap ti va ev ed ec ad ac now)) hP hD [0, 1, 2, 3, 4, 5, 6, 7] [8, 9, 10, 11, 12, 13, 14, 15, 16, 17, 18, 19] rfl rfl (by decide) (by decide) hk1 hFc hP1 hD1
      generalize H1 = H at hP hS ⊢
      have hP := hP.sub (ws' := (wlw x a1 a2 a3 a4 a5 a6 a7 y b1 b2 b3 b4 b5 b6 b7 b8 b9 b10 q cI cJ cZ nD nR dv r cap ti va ev ed ec ad ac now th vs mac now o mt mw zs.length nv dl ec rt rv mk ou)) [12, 13, 14, 15, 16, 17, 18, 19, 0, 1, 2, 3, 4, 5, 6, 7, 8, 9, 10, 11] rfl
      have hD := hD.sub (ws' := (wlw x a1 a2 a3 a4 a5 a6 a7 y b1 b2 b3 b4 b5 b6 b7 b8 b9 b10 q cI cJ cZ nD nR dv r cap ti va ev ed ec ad ac now th vs mac now o mt mw zs.length nv dl ec rt rv mk ou)) [12, 13, 14, 15, 16, 17, 18, 19, 0, 1, 2, 3, 4, 5, 6, 7, 8, 9, 10, 11] (by decide) rfl
      obtain rfl : v_2 = nI 1 := hw
      refine lv_istore (lv' := [(5, .int (nI 1)), (0, .ref b), (1, .ref x), (2, .ref y), (3, .ref q), (4, .int (nI i))]) hx hb dL_law_744 hl (by decide) rfl (fun ls hl => ?_)
      refine lv_aload_n hx hb dL_law_746 rfl (lv_at hl 3 rfl) ?_
      refine lv_aload_n hx hb dL_law_747 rfl (lv_at hl 1 rfl) ?_
      refine lv_iload hx hb dL_law_748 (lv_at hl 5 rfl) ?_
      refine lv_iconst (v := 1) hx hb dL_law_750 (by decide) ?_
      refine lv_iadd hx hb dL_law_751 ?_
      refine tp_i (y := nI (i + 1)) (nI_add i 1) ?_
      refine va_sld hx hb hX hbl hbA hS (vp_in_nI (show i + 1 < L by omega) (by omega)) dL_law_752 ?_
      refine tp_i (y := nI d) (by rw [nI_clamp (by omega)]; exact E_d0.symm) ?_
      refine lv_aload_n hx hb dL_law_753 rfl (lv_at hl 1 rfl) ?_
      refine lv_iload hx hb dL_law_754 (lv_at hl 5 rfl) ?_
      refine lv_iconst (v := 2) hx hb dL_law_756 (by decide) ?_
      refine lv_iadd hx hb dL_law_757 ?_
      refine tp_i (y := nI (i + 2)) (nI_add i 2) ?_
      refine va_sld hx hb hX hbl hbA hS (vp_in_nI (show i + 2 < L by omega) (by omega)) dL_law_758 ?_
      refine tp_i (y := j0) (by rw [nI_clamp (by omega)]; exact E_j0.symm) ?_
      refine lv_aload_n hx hb dL_law_759 rfl (lv_at hl 1 rfl) ?_
      refine lv_iload hx hb dL_law_760 (lv_at hl 5 rfl) ?_
      refine lv_iconst (v := 3) hx hb dL_law_762 (by decide) ?_
      refine lv_iadd hx hb dL_law_763 ?_
      refine tp_i (y := nI (i + 3)) (nI_add i 3) ?_
      refine va_sld hx hb hX hbl hbA hS (vp_in_nI (show i + 3 < L by omega) (by omega)) dL_law_764 ?_
      refine tp_i (y := xs (i + 3)) (by rw [nI_clamp (by omega)]) ?_
      refine lv_if_eq (tgt := 772) hx hb dL_law_765 (by decide) (fun c_3 => ?_) (fun c_3 => ?_)
      · refine lv_iconst (v := 0) hx hb dL_law_772 (by decide) ?_
        have hPc := hP.sub (ws' := (wm y b1 b2 b3 b4 b5 b6 b7 b8 b9 b10 cI cJ cZ th nD nR vs mac now o mt mw zs.length nv dl ec rt rv mk)) [8, 9, 10, 11, 12, 13, 14, 15, 16, 17, 18] rfl
        have hDc := hD.sub (ws' := (wm y b1 b2 b3 b4 b5 b6 b7 b8 b9 b10 cI cJ cZ th nD nR vs mac now o mt mw zs.length nv dl ec rt rv mk)) [8, 9, 10, 11, 12, 13, 14, 15, 16, 17, 18] (by decide) rfl
        have hFc := va_free (wc := (wm y b1 b2 b3 b4 b5 b6 b7 b8 b9 b10 cI cJ cZ th nD nR vs mac now o mt mw zs.length nv dl ec rt rv mk)) hD hS hA [8, 9, 10, 11, 12, 13, 14, 15, 16, 17, 18] rfl
        refine va_calll (va_runV (As := [.int (nI d), .int j0, .int 0]) (rest := []) ⟨hx, hb, hml, hown, hall⟩ (m_at2 l dC dI y b1 b2 b3 b4 b5 b6 b7 b8 b9 b10 cI cJ cZ th nD nR vs mac now o mt mw nv dl ec rt rv mk zs H.size hIm hZ d hd j0 0 c2) (cwV 3 hall gL_108 rfl rfl rfl (by decide +kernel) ⟨Nat.le_of_ble_eq_true rfl, Nat.le_of_ble_eq_true rfl⟩) ⟨xu_blind, va_recv hK hPc (ci := 1) (q0 := 0) rfl rfl, fun U hU hW => ⟨rfl, by rw [hU], by rw [hU]; exact hPc, va_K.moved hW.alike hK, hDc.weaken (fun _ _ _ _ => trivial)⟩⟩ rfl rfl hl.1 rfl (lv_room (Nat.le_of_ble_eq_true rfl)) dL_law_773 ⟨by show _ ≤ 601024; omega, by show _ ≤ 7293000; omega⟩) hS (fun q _ h => hFc q h) hFc (fun v_4 u9 t9 H1 locs ht hvm hw hB hz1 hk1 hS => ?_)
        obtain ⟨hP1, hK1, hD1⟩ := hB
        rw [ht] at hP1
        obtain ⟨hP, hD⟩ := va_join (wr := (wr x a1 a2 a3 a4 a5 a6 a7 cI cJ nD nR dv r cap ti va ev ed ec ad ac now) ++ [(q, .inl (cJ, 1, .inr (.inl ou)))]) (w1 := (wm y b1 b2 b3 b4 b5 b6 b7 b8 b9 b10 cI cJ cZ 1 nD nR vs mac now o mt mw zs.length nv dl ec rt rv mk)) hP hD [8, 9, 10, 11, 12, 13, 14, 15, 16, 17, 18] [0, 1, 2, 3, 4, 5, 6, 7, 19] rfl rfl (by decide) (by decide) hk1 hFc hP1 hD1
        generalize H1 = H at hP hS ⊢
        have hP := hP.sub (ws' := (wlw x a1 a2 a3 a4 a5 a6 a7 y b1 b2 b3 b4 b5 b6 b7 b8 b9 b10 q cI cJ cZ nD nR dv r cap ti va ev ed ec ad ac now 1 vs mac now o mt mw zs.length nv dl ec rt rv mk ou)) [0, 1, 2, 3, 4, 5, 6, 7, 9, 10, 11, 12, 13, 14, 15, 16, 17, 18, 19, 8] rfl
        have hD := hD.sub (ws' := (wlw x a1 a2 a3 a4 a5 a6 a7 y b1 b2 b3 b4 b5 b6 b7 b8 b9 b10 q cI cJ cZ nD nR dv r cap ti va ev ed ec ad ac now 1 vs mac now o mt mw zs.length nv dl ec rt rv mk ou)) [0, 1, 2, 3, 4, 5, 6, 7, 9, 10, 11, 12, 13, 14, 15, 16, 17, 18, 19, 8] (by decide) rfl
        refine lv_lstore (lv' := [(6, .long v_4), (5, .int (nI 1)), (0, .ref b), (1, .ref x), (2, .ref y), (3, .ref q), (4, .int (nI i))]) hx hb dL_law_776 hl (by decide) rfl (fun ls hl => ?_)
        refine lv_aload_n hx hb dL_law_778 rfl (lv_at hl 4 rfl) ?_
        have hPc := hP.sub (ws' := (wm y b1 b2 b3 b4 b5 b6 b7 b8 b9 b10 cI cJ cZ 1 nD nR vs mac now o mt mw zs.length nv dl ec rt rv mk)) [8, 9, 10, 11, 12, 13, 14, 15, 16, 17, 18] rfl
        refine vp_callSi (W.runV (As := []) (rest := []) ⟨hx, hb, hml, hown, hall⟩ (m_thrown l dC dI y b1 b2 b3 b4 b5 b6 b7 b8 b9 b10 cI cJ cZ 1 nD nR vs mac now o mt mw nv dl ec rt rv mk zs) (cwV 0 hall gL_65 rfl rfl rfl (by decide +kernel) ⟨Nat.le_of_ble_eq_true rfl, Nat.le_of_ble_eq_true rfl⟩) ⟨xr_blind, va_recv hK hPc (ci := 1) (q0 := 0) rfl rfl, fun U hU hW => ⟨rfl, by rw [hU]; exact hPc, va_K.moved hW.alike hK⟩⟩ rfl rfl hl.1 rfl (lv_room (Nat.le_of_ble_eq_true rfl)) dL_law_779 ⟨by show _ ≤ 601024; omega, by show _ ≤ 7293000; omega⟩) (fun v_5 hv_6 => ?_)
        obtain rfl : v_5 = nI 1 := hv_6
        refine lv_iload hx hb dL_law_782 (lv_at hl 1 rfl) ?_
        refine lv_icmp_eq (tgt := 789) hx hb dL_law_784 (by decide) (fun c_7 => ?_) (fun c_7 => ?_)
        · refine lv_iload hx hb dL_law_789 (lv_at hl 1 rfl) ?_
          refine lv_if_ne (tgt := 805) hx hb dL_law_791 (by decide) (fun c_8 => ?_) (fun c_8 => ?_)
          · refine lv_goto (tgt := 920) hx hb dL_law_805 (by decide) ?_
            refine W.widen (k := 20 + 2 * i + 2) (n := 70000 + 6 * i + 6 + G) (by omega) (by omega) ?_
            exact KK a3 a4 dv r cap ti va ev ed ec ad ac now 1 vs mac o mt mw zs nv dl rt rv mk ou G H locs hR hZ hG hP hD hS ls (lv_sub hl [2, 3, 4, 5, 6] rfl)
          · exact absurd c_8 (by decide)
        · exact absurd rfl c_7
      · exact absurd hz c_3
    · exact absurd hz c_1
  obtain ⟨k, hk, rfl⟩ := nI_of c2
  rcases Nat.lt_or_ge k (r (d + 1) - r d) with c3 | c3
  rotate_left
  · refine lv_aload_n hx hb dL_law_713 rfl (lv_at hl 1 rfl) ?_
    refine lv_aload_n hx hb dL_law_714 rfl (lv_at hl 0 rfl) ?_
    refine lv_iload hx hb dL_law_715 (lv_at hl 4 rfl) ?_
    refine lv_iconst (v := 1) hx hb dL_law_717 (by decide) ?_
    refine lv_iadd hx hb dL_law_718 ?_
    refine tp_i (y := nI (i + 1)) (nI_add i 1) ?_
    refine va_sld hx hb hX hbl hbA hS (vp_in_nI (show i + 1 < L by omega) (by omega)) dL_law_719 ?_
    refine tp_i (y := nI d) (by rw [nI_clamp (by omega)]; exact E_d0.symm) ?_
    refine lv_aload_n hx hb dL_law_720 rfl (lv_at hl 0 rfl) ?_
    refine lv_iload hx hb dL_law_721 (lv_at hl 4 rfl) ?_
    refine lv_iconst (v := 2) hx hb dL_law_723 (by decide) ?_
    refine lv_iadd hx hb dL_law_724 ?_
    refine tp_i (y := nI (i + 2)) (nI_add i 2) ?_
    refine va_sld hx hb hX hbl hbA hS (vp_in_nI (show i + 2 < L by omega) (by omega)) dL_law_725 ?_
    refine tp_i (y := nI k) (by rw [nI_clamp (by omega)]; exact E_j0.symm) ?_
    refine lv_aload_n hx hb dL_law_726 rfl (lv_at hl 0 rfl) ?_
    refine lv_iload hx hb dL_law_727 (lv_at hl 4 rfl) ?_
    refine lv_iconst (v := 3) hx hb dL_law_729 (by decide) ?_
    refine lv_iadd hx hb dL_law_730 ?_
    refine tp_i (y := nI (i + 3)) (nI_add i 3) ?_
    refine va_sld hx hb hX hbl hbA hS (vp_in_nI (show i + 3 < L by omega) (by omega)) dL_law_731 ?_
    refine tp_i (y := xs (i + 3)) (by rw [nI_clamp (by omega)]) ?_
    refine lv_if_eq (tgt := 739) hx hb dL_law_732 (by decide) (fun c_1 => ?_) (fun c_1 => ?_)
    · refine lv_iconst (v := 0) hx hb dL_law_739 (by decide) ?_
      refine lv_aload_n hx hb dL_law_740 rfl (lv_at hl 3 rfl) ?_
      have hPc := hP.sub (ws' := (wr x a1 a2 a3 a4 a5 a6 a7 cI cJ nD nR dv r cap ti va ev ed ec ad ac now)) [0, 1, 2, 3, 4, 5, 6, 7] rfl
      have hDc := hD.sub (ws' := (wr x a1 a2 a3 a4 a5 a6 a7 cI cJ nD nR dv r cap ti va ev ed ec ad ac now)) [0, 1, 2, 3, 4, 5, 6, 7] (by decide) rfl
      have hKc := hK.sub (tys' := [(cI, .int), (cJ, .long)]) [0, 1] rfl
      have hFc := va_free (wc := (wr x a1 a2 a3 a4 a5 a6 a7 cI cJ nD nR dv r cap ti va ev ed ec ad ac now)) hD hS hA [0, 1, 2, 3, 4, 5, 6, 7] rfl
      refine va_calli (xt_runSW (n := 5) (As := [.ref x, .int (nI d), .int (nI k), .int 0, .ref q]) (rest := []) ⟨hx, hb, hml, hown, hall⟩ (h_at2 l dC dI x a1 a2 a3 a4 a5 a6 a7 cI cJ nD nR dv r cap ti va ev ed ec ad ac now hst q H.size hI d (nI k) 0 hd (Or.inr (nI_le c3 hk))) gL_105 rfl rfl rfl (by decide +kernel) ⟨Nat.le_of_ble_eq_true rfl, Nat.le_of_ble_eq_true rfl⟩ ⟨xh_blind, fun U hU hW => ⟨rfl, by rw [hU], by rw [hU]; exact hPc, va_K.moved hW.alike hKc, hDc.weaken (fun _ _ _ _ => trivial), xt_move hW (fun z hz => by rw [hU]; exact hS.2.1 z hz (Nat.not_le.mpr hz)) hok, xt_nk_move hW.alike hnk⟩⟩ rfl rfl hl.1 rfl (lv_room (Nat.le_of_ble_eq_true rfl)) dL_law_741 ⟨by show _ ≤ 601024; omega, by show _ ≤ 7293000; omega⟩) hS (fun q _ h => hFc q h) hFc (fun v_2 u t9 H1 locs ht hvm hw hB hz1 hk1 hS => ?_)
      obtain ⟨hP1, hK1, hD1⟩ := hB
      rw [ht] at hP1
      obtain ⟨hP, hD⟩ := va_join (wr := (wm y b1 b2 b3 b4 b5 b6 b7 b8 b9 b10 cI cJ cZ th nD nR vs mac now o mt mw zs.length nv dl ec rt rv mk) ++ [(q, .inl (cJ, 1, .inr (.inl ou)))]) (w1 := (wr x a1 a2 a3 a4 a5 a6 a7 cI cJ nD nR dv r cap ti va ev ed ec ad ac now)) hP hD [0, 1, 2, 3, 4, 5, 6, 7] [8, 9, 10, 11, 12, 13, 14, 15, 16, 17, 18, 19] rfl rfl (by decide) (by decide) hk1 hFc hP1 hD1
      generalize H1 = H at hP hS ⊢
      have hP := hP.sub (ws' := (wlw x a1 a2 a3 a4 a5 a6 a7 y b1 b2 b3 b4 b5 b6 b7 b8 b9 b10 q cI cJ cZ nD nR dv r cap ti va ev ed ec ad ac now th vs mac now o mt mw zs.length nv dl ec rt rv mk ou)) [12, 13, 14, 15, 16, 17, 18, 19, 0, 1, 2, 3, 4, 5, 6, 7, 8, 9, 10, 11] rfl
      have hD := hD.sub (ws' := (wlw x a1 a2 a3 a4 a5 a6 a7 y b1 b2 b3 b4 b5 b6 b7 b8 b9 b10 q cI cJ cZ nD nR dv r cap ti va ev ed ec ad ac now th vs mac now o mt mw zs.length nv dl ec rt rv mk ou)) [12, 13, 14, 15, 16, 17, 18, 19, 0, 1, 2, 3, 4, 5, 6, 7, 8, 9, 10, 11] (by decide) rfl
      obtain rfl : v_2 = nI 1 := hw
      refine lv_istore (lv' := [(5, .int (nI 1)), (0, .ref b), (1, .ref x), (2, .ref y), (3, .ref q), (4, .int (nI i))]) hx hb dL_law_744 hl (by decide) rfl (fun ls hl => ?_)
      refine lv_aload_n hx hb dL_law_746 rfl (lv_at hl 3 rfl) ?_
      refine lv_aload_n hx hb dL_law_747 rfl (lv_at hl 1 rfl) ?_
      refine lv_iload hx hb dL_law_748 (lv_at hl 5 rfl) ?_
      refine lv_iconst (v := 1) hx hb dL_law_750 (by decide) ?_
      refine lv_iadd hx hb dL_law_751 ?_
      refine tp_i (y := nI (i + 1)) (nI_add i 1) ?_
      refine va_sld hx hb hX hbl hbA hS (vp_in_nI (show i + 1 < L by omega) (by omega)) dL_law_752 ?_
      refine tp_i (y := nI d) (by rw [nI_clamp (by omega)]; exact E_d0.symm) ?_
      refine lv_aload_n hx hb dL_law_753 rfl (lv_at hl 1 rfl) ?_
      refine lv_iload hx hb dL_law_754 (lv_at hl 5 rfl) ?_
      refine lv_iconst (v := 2) hx hb dL_law_756 (by decide) ?_
      refine lv_iadd hx hb dL_law_757 ?_
      refine tp_i (y := nI (i + 2)) (nI_add i 2) ?_
      refine va_sld hx hb hX hbl hbA hS (vp_in_nI (show i + 2 < L by omega) (by omega)) dL_law_758 ?_
      refine tp_i (y := nI k) (by rw [nI_clamp (by omega)]; exact E_j0.symm) ?_
      refine lv_aload_n hx hb dL_law_759 rfl (lv_at hl 1 rfl) ?_
      refine lv_iload hx hb dL_law_760 (lv_at hl 5 rfl) ?_
      refine lv_iconst (v := 3) hx hb dL_law_762 (by decide) ?_
      refine lv_iadd hx hb dL_law_763 ?_
      refine tp_i (y := nI (i + 3)) (nI_add i 3) ?_
      refine va_sld hx hb hX hbl hbA hS (vp_in_nI (show i + 3 < L by omega) (by omega)) dL_law_764 ?_
      refine tp_i (y := xs (i + 3)) (by rw [nI_clamp (by omega)]) ?_
      refine lv_if_eq (tgt := 772) hx hb dL_law_765 (by decide) (fun c_3 => ?_) (fun c_3 => ?_)
      · refine lv_iconst (v := 0) hx hb dL_law_772 (by decide) ?_
        have hPc := hP.sub (ws' := (wm y b1 b2 b3 b4 b5 b6 b7 b8 b9 b10 cI cJ cZ th nD nR vs mac now o mt mw zs.length nv dl ec rt rv mk)) [8, 9, 10, 11, 12, 13, 14, 15, 16, 17, 18] rfl
        have hDc := hD.sub (ws' := (wm y b1 b2 b3 b4 b5 b6 b7 b8 b9 b10 cI cJ cZ th nD nR vs mac now o mt mw zs.length nv dl ec rt rv mk)) [8, 9, 10, 11, 12, 13, 14, 15, 16, 17, 18] (by decide) rfl
        have hFc := va_free (wc := (wm y b1 b2 b3 b4 b5 b6 b7 b8 b9 b10 cI cJ cZ th nD nR vs mac now o mt mw zs.length nv dl ec rt rv mk)) hD hS hA [8, 9, 10, 11, 12, 13, 14, 15, 16, 17, 18] rfl
        refine va_calll (va_runV (As := [.int (nI d), .int (nI k), .int 0]) (rest := []) ⟨hx, hb, hml, hown, hall⟩ (m_at3 l dC dI y b1 b2 b3 b4 b5 b6 b7 b8 b9 b10 cI cJ cZ th nD nR vs mac now o mt mw nv dl ec rt rv mk zs H.size hIm hZ d hd k 0 hk (wrel_atn hR hd c3)) (cwV 3 hall gL_108 rfl rfl rfl (by decide +kernel) ⟨Nat.le_of_ble_eq_true rfl, Nat.le_of_ble_eq_true rfl⟩) ⟨xu_blind, va_recv hK hPc (ci := 1) (q0 := 0) rfl rfl, fun U hU hW => ⟨rfl, by rw [hU], by rw [hU]; exact hPc, va_K.moved hW.alike hK, hDc.weaken (fun _ _ _ _ => trivial)⟩⟩ rfl rfl hl.1 rfl (lv_room (Nat.le_of_ble_eq_true rfl)) dL_law_773 ⟨by show _ ≤ 601024; omega, by show _ ≤ 7293000; omega⟩) hS (fun q _ h => hFc q h) hFc (fun v_4 u9 t9 H1 locs ht hvm hw hB hz1 hk1 hS => ?_)
        obtain ⟨hP1, hK1, hD1⟩ := hB
        rw [ht] at hP1
        obtain ⟨hP, hD⟩ := va_join (wr := (wr x a1 a2 a3 a4 a5 a6 a7 cI cJ nD nR dv r cap ti va ev ed ec ad ac now) ++ [(q, .inl (cJ, 1, .inr (.inl ou)))]) (w1 := (wm y b1 b2 b3 b4 b5 b6 b7 b8 b9 b10 cI cJ cZ 1 nD nR vs mac now o mt mw zs.length nv dl ec rt rv mk)) hP hD [8, 9, 10, 11, 12, 13, 14, 15, 16, 17, 18] [0, 1, 2, 3, 4, 5, 6, 7, 19] rfl rfl (by decide) (by decide) hk1 hFc hP1 hD1
        generalize H1 = H at hP hS ⊢
        have hP := hP.sub (ws' := (wlw x a1 a2 a3 a4 a5 a6 a7 y b1 b2 b3 b4 b5 b6 b7 b8 b9 b10 q cI cJ cZ nD nR dv r cap ti va ev ed ec ad ac now 1 vs mac now o mt mw zs.length nv dl ec rt rv mk ou)) [0, 1, 2, 3, 4, 5, 6, 7, 9, 10, 11, 12, 13, 14, 15, 16, 17, 18, 19, 8] rfl
        have hD := hD.sub (ws' := (wlw x a1 a2 a3 a4 a5 a6 a7 y b1 b2 b3 b4 b5 b6 b7 b8 b9 b10 q cI cJ cZ nD nR dv r cap ti va ev ed ec ad ac now 1 vs mac now o mt mw zs.length nv dl ec rt rv mk ou)) [0, 1, 2, 3, 4, 5, 6, 7, 9, 10, 11, 12, 13, 14, 15, 16, 17, 18, 19, 8] (by decide) rfl
        refine lv_lstore (lv' := [(6, .long v_4), (5, .int (nI 1)), (0, .ref b), (1, .ref x), (2, .ref y), (3, .ref q), (4, .int (nI i))]) hx hb dL_law_776 hl (by decide) rfl (fun ls hl => ?_)
        refine lv_aload_n hx hb dL_law_778 rfl (lv_at hl 4 rfl) ?_
        have hPc := hP.sub (ws' := (wm y b1 b2 b3 b4 b5 b6 b7 b8 b9 b10 cI cJ cZ 1 nD nR vs mac now o mt mw zs.length nv dl ec rt rv mk)) [8, 9, 10, 11, 12, 13, 14, 15, 16, 17, 18] rfl
        refine vp_callSi (W.runV (As := []) (rest := []) ⟨hx, hb, hml, hown, hall⟩ (m_thrown l dC dI y b1 b2 b3 b4 b5 b6 b7 b8 b9 b10 cI cJ cZ 1 nD nR vs mac now o mt mw nv dl ec rt rv mk zs) (cwV 0 hall gL_65 rfl rfl rfl (by decide +kernel) ⟨Nat.le_of_ble_eq_true rfl, Nat.le_of_ble_eq_true rfl⟩) ⟨xr_blind, va_recv hK hPc (ci := 1) (q0 := 0) rfl rfl, fun U hU hW => ⟨rfl, by rw [hU]; exact hPc, va_K.moved hW.alike hK⟩⟩ rfl rfl hl.1 rfl (lv_room (Nat.le_of_ble_eq_true rfl)) dL_law_779 ⟨by show _ ≤ 601024; omega, by show _ ≤ 7293000; omega⟩) (fun v_5 hv_6 => ?_)
        obtain rfl : v_5 = nI 1 := hv_6
        refine lv_iload hx hb dL_law_782 (lv_at hl 1 rfl) ?_
        refine lv_icmp_eq (tgt := 789) hx hb dL_law_784 (by decide) (fun c_7 => ?_) (fun c_7 => ?_)
        · refine lv_iload hx hb dL_law_789 (lv_at hl 1 rfl) ?_
          refine lv_if_ne (tgt := 805) hx hb dL_law_791 (by decide) (fun c_8 => ?_) (fun c_8 => ?_)
          · refine lv_goto (tgt := 920) hx hb dL_law_805 (by decide) ?_
            refine W.widen (k := 20 + 2 * i + 2) (n := 70000 + 6 * i + 6 + G) (by omega) (by omega) ?_
            exact KK a3 a4 dv r cap ti va ev ed ec ad ac now 1 vs mac o mt mw zs nv dl rt rv mk ou G H locs hR hZ hG hP hD hS ls (lv_sub hl [2, 3, 4, 5, 6] rfl)
          · exact absurd c_8 (by decide)
        · exact absurd rfl c_7
      · exact absurd hz c_3
    · exact absurd hz c_1
  obtain ⟨k0, hf, hk0, hm1, hm2⟩ := wrel_at hR hZ hd c3
  refine lv_aload_n hx hb dL_law_713 rfl (lv_at hl 1 rfl) ?_
  refine lv_aload_n hx hb dL_law_714 rfl (lv_at hl 0 rfl) ?_
  refine lv_iload hx hb dL_law_715 (lv_at hl 4 rfl) ?_
  refine lv_iconst (v := 1) hx hb dL_law_717 (by decide) ?_
  refine lv_iadd hx hb dL_law_718 ?_
  refine tp_i (y := nI (i + 1)) (nI_add i 1) ?_
  refine va_sld hx hb hX hbl hbA hS (vp_in_nI (show i + 1 < L by omega) (by omega)) dL_law_719 ?_
  refine tp_i (y := nI d) (by rw [nI_clamp (by omega)]; exact E_d0.symm) ?_
  refine lv_aload_n hx hb dL_law_720 rfl (lv_at hl 0 rfl) ?_
  refine lv_iload hx hb dL_law_721 (lv_at hl 4 rfl) ?_
  refine lv_iconst (v := 2) hx hb dL_law_723 (by decide) ?_
  refine lv_iadd hx hb dL_law_724 ?_
  refine tp_i (y := nI (i + 2)) (nI_add i 2) ?_
  refine va_sld hx hb hX hbl hbA hS (vp_in_nI (show i + 2 < L by omega) (by omega)) dL_law_725 ?_
  refine tp_i (y := nI k) (by rw [nI_clamp (by omega)]; exact E_j0.symm) ?_
  refine lv_aload_n hx hb dL_law_726 rfl (lv_at hl 0 rfl) ?_
  refine lv_iload hx hb dL_law_727 (lv_at hl 4 rfl) ?_
  refine lv_iconst (v := 3) hx hb dL_law_729 (by decide) ?_
  refine lv_iadd hx hb dL_law_730 ?_
  refine tp_i (y := nI (i + 3)) (nI_add i 3) ?_
  refine va_sld hx hb hX hbl hbA hS (vp_in_nI (show i + 3 < L by omega) (by omega)) dL_law_731 ?_
  refine tp_i (y := xs (i + 3)) (by rw [nI_clamp (by omega)]) ?_
  refine lv_if_eq (tgt := 739) hx hb dL_law_732 (by decide) (fun c_1 => ?_) (fun c_1 => ?_)
  · refine lv_iconst (v := 0) hx hb dL_law_739 (by decide) ?_
    refine lv_aload_n hx hb dL_law_740 rfl (lv_at hl 3 rfl) ?_
    have hPc := hP.sub (ws' := (wr x a1 a2 a3 a4 a5 a6 a7 cI cJ nD nR dv r cap ti va ev ed ec ad ac now) ++ [(q, .inl (cJ, 1, .inr (.inl ou)))]) [0, 1, 2, 3, 4, 5, 6, 7, 19] rfl
    have hDc := hD.sub (ws' := (wr x a1 a2 a3 a4 a5 a6 a7 cI cJ nD nR dv r cap ti va ev ed ec ad ac now) ++ [(q, .inl (cJ, 1, .inr (.inl ou)))]) [0, 1, 2, 3, 4, 5, 6, 7, 19] (by decide) rfl
    have hKc := hK.sub (tys' := [(cI, .int), (cJ, .long)]) [0, 1] rfl
    have hFc := va_free (wc := (wr x a1 a2 a3 a4 a5 a6 a7 cI cJ nD nR dv r cap ti va ev ed ec ad ac now) ++ [(q, .inl (cJ, 1, .inr (.inl ou)))]) hD hS hA [0, 1, 2, 3, 4, 5, 6, 7, 19] rfl
    refine va_calli (xt_runSW (n := 5) (As := [.ref x, .int (nI d), .int (nI k), .int 0, .ref q]) (rest := []) ⟨hx, hb, hml, hown, hall⟩ (h_at0 l dC dI x a1 a2 a3 a4 a5 a6 a7 cI cJ nD nR dv r cap ti va ev ed ec ad ac now q ou H.size hI d k 0 hd c3) gL_105 rfl rfl rfl (by decide +kernel) ⟨Nat.le_of_ble_eq_true rfl, Nat.le_of_ble_eq_true rfl⟩ ⟨xu_blind, fun U hU hW => ⟨rfl, by rw [hU], by rw [hU]; exact hPc, va_K.moved hW.alike hKc, hDc.weaken (fun _ _ _ _ => trivial)⟩⟩ rfl rfl hl.1 rfl (lv_room (Nat.le_of_ble_eq_true rfl)) dL_law_741 ⟨by show _ ≤ 601024; omega, by show _ ≤ 7293000; omega⟩) hS (fun q _ h => hFc q h) hFc (fun v_2 u t9 H1 locs ht hvm hw hB hz1 hk1 hS => ?_)
    obtain ⟨hP1, hK1, hD1⟩ := hB
    rw [ht] at hP1
    obtain ⟨hP, hD⟩ := va_join (wr := (wm y b1 b2 b3 b4 b5 b6 b7 b8 b9 b10 cI cJ cZ th nD nR vs mac now o mt mw zs.length nv dl ec rt rv mk)) (w1 := (wr x a1 a2 a3 a4 a5 a6 a7 cI cJ nD nR dv r cap ti va ev ed ec ad ac now) ++ [(q, .inl (cJ, 1, .inr (.inl (vp_updL ou 0 (if (0 : Int32) = 0 then va (r d + k) else ti (r d + k))))))]) hP hD [0, 1, 2, 3, 4, 5, 6, 7, 19] [8, 9, 10, 11, 12, 13, 14, 15, 16, 17, 18] rfl rfl (by decide) (by decide) hk1 hFc hP1 hD1
    generalize H1 = H at hP hS ⊢
    have hP := hP.sub (ws' := (wlw x a1 a2 a3 a4 a5 a6 a7 y b1 b2 b3 b4 b5 b6 b7 b8 b9 b10 q cI cJ cZ nD nR dv r cap ti va ev ed ec ad ac now th vs mac now o mt mw zs.length nv dl ec rt rv mk (vp_updL ou 0 (if (0 : Int32) = 0 then va (r d + k) else ti (r d + k))))) [11, 12, 13, 14, 15, 16, 17, 18, 0, 1, 2, 3, 4, 5, 6, 7, 8, 9, 10, 19] rfl
    have hD := hD.sub (ws' := (wlw x a1 a2 a3 a4 a5 a6 a7 y b1 b2 b3 b4 b5 b6 b7 b8 b9 b10 q cI cJ cZ nD nR dv r cap ti va ev ed ec ad ac now th vs mac now o mt mw zs.length nv dl ec rt rv mk (vp_updL ou 0 (if (0 : Int32) = 0 then va (r d + k) else ti (r d + k))))) [11, 12, 13, 14, 15, 16, 17, 18, 0, 1, 2, 3, 4, 5, 6, 7, 8, 9, 10, 19] (by decide) rfl
    obtain rfl : v_2 = 0 := hw
    refine tp_i (y := nI 0) nI_0.symm ?_
    refine lv_istore (lv' := [(5, .int (nI 0)), (0, .ref b), (1, .ref x), (2, .ref y), (3, .ref q), (4, .int (nI i))]) hx hb dL_law_744 hl (by decide) rfl (fun ls hl => ?_)
    refine lv_aload_n hx hb dL_law_746 rfl (lv_at hl 3 rfl) ?_
    refine lv_aload_n hx hb dL_law_747 rfl (lv_at hl 1 rfl) ?_
    refine lv_iload hx hb dL_law_748 (lv_at hl 5 rfl) ?_
    refine lv_iconst (v := 1) hx hb dL_law_750 (by decide) ?_
    refine lv_iadd hx hb dL_law_751 ?_
    refine tp_i (y := nI (i + 1)) (nI_add i 1) ?_
    refine va_sld hx hb hX hbl hbA hS (vp_in_nI (show i + 1 < L by omega) (by omega)) dL_law_752 ?_
    refine tp_i (y := nI d) (by rw [nI_clamp (by omega)]; exact E_d0.symm) ?_
    refine lv_aload_n hx hb dL_law_753 rfl (lv_at hl 1 rfl) ?_
    refine lv_iload hx hb dL_law_754 (lv_at hl 5 rfl) ?_
    refine lv_iconst (v := 2) hx hb dL_law_756 (by decide) ?_
    refine lv_iadd hx hb dL_law_757 ?_
    refine tp_i (y := nI (i + 2)) (nI_add i 2) ?_
    refine va_sld hx hb hX hbl hbA hS (vp_in_nI (show i + 2 < L by omega) (by omega)) dL_law_758 ?_
    refine tp_i (y := nI k) (by rw [nI_clamp (by omega)]; exact E_j0.symm) ?_
    refine lv_aload_n hx hb dL_law_759 rfl (lv_at hl 1 rfl) ?_
    refine lv_iload hx hb dL_law_760 (lv_at hl 5 rfl) ?_
    refine lv_iconst (v := 3) hx hb dL_law_762 (by decide) ?_
    refine lv_iadd hx hb dL_law_763 ?_
    refine tp_i (y := nI (i + 3)) (nI_add i 3) ?_
    refine va_sld hx hb hX hbl hbA hS (vp_in_nI (show i + 3 < L by omega) (by omega)) dL_law_764 ?_
    refine tp_i (y := xs (i + 3)) (by rw [nI_clamp (by omega)]) ?_
    refine lv_if_eq (tgt := 772) hx hb dL_law_765 (by decide) (fun c_3 => ?_) (fun c_3 => ?_)
    · refine lv_iconst (v := 0) hx hb dL_law_772 (by decide) ?_
      have hPc := hP.sub (ws' := (wm y b1 b2 b3 b4 b5 b6 b7 b8 b9 b10 cI cJ cZ th nD nR vs mac now o mt mw zs.length nv dl ec rt rv mk)) [8, 9, 10, 11, 12, 13, 14, 15, 16, 17, 18] rfl
      have hDc := hD.sub (ws' := (wm y b1 b2 b3 b4 b5 b6 b7 b8 b9 b10 cI cJ cZ th nD nR vs mac now o mt mw zs.length nv dl ec rt rv mk)) [8, 9, 10, 11, 12, 13, 14, 15, 16, 17, 18] (by decide) rfl
      have hFc := va_free (wc := (wm y b1 b2 b3 b4 b5 b6 b7 b8 b9 b10 cI cJ cZ th nD nR vs mac now o mt mw zs.length nv dl ec rt rv mk)) hD hS hA [8, 9, 10, 11, 12, 13, 14, 15, 16, 17, 18] rfl
      refine va_calll (va_runV (As := [.int (nI d), .int (nI k), .int 0]) (rest := []) ⟨hx, hb, hml, hown, hall⟩ (m_at0 l dC dI y b1 b2 b3 b4 b5 b6 b7 b8 b9 b10 cI cJ cZ th nD nR vs mac now o mt mw nv dl ec rt rv mk zs H.size hIm hZ d hd k k0 0 hk hf hk0) (cwV 3 hall gL_108 rfl rfl rfl (by decide +kernel) ⟨Nat.le_of_ble_eq_true rfl, Nat.le_of_ble_eq_true rfl⟩) ⟨xu_blind, va_recv hK hPc (ci := 1) (q0 := 0) rfl rfl, fun U hU hW => ⟨rfl, by rw [hU], by rw [hU]; exact hPc, va_K.moved hW.alike hK, hDc.weaken (fun _ _ _ _ => trivial)⟩⟩ rfl rfl hl.1 rfl (lv_room (Nat.le_of_ble_eq_true rfl)) dL_law_773 ⟨by show _ ≤ 601024; omega, by show _ ≤ 7293000; omega⟩) hS (fun q _ h => hFc q h) hFc (fun v_4 u9 t9 H1 locs ht hvm hw hB hz1 hk1 hS => ?_)
      obtain ⟨hP1, hK1, hD1⟩ := hB
      rw [ht] at hP1
      obtain ⟨hP, hD⟩ := va_join (wr := (wr x a1 a2 a3 a4 a5 a6 a7 cI cJ nD nR dv r cap ti va ev ed ec ad ac now) ++ [(q, .inl (cJ, 1, .inr (.inl (vp_updL ou 0 (if (0 : Int32) = 0 then va (r d + k) else ti (r d + k))))))]) (w1 := (wm y b1 b2 b3 b4 b5 b6 b7 b8 b9 b10 cI cJ cZ 0 nD nR vs mac now o mt mw zs.length nv dl ec rt rv mk)) hP hD [8, 9, 10, 11, 12, 13, 14, 15, 16, 17, 18] [0, 1, 2, 3, 4, 5, 6, 7, 19] rfl rfl (by decide) (by decide) hk1 hFc hP1 hD1
      generalize H1 = H at hP hS ⊢
      have hP := hP.sub (ws' := (wlw x a1 a2 a3 a4 a5 a6 a7 y b1 b2 b3 b4 b5 b6 b7 b8 b9 b10 q cI cJ cZ nD nR dv r cap ti va ev ed ec ad ac now 0 vs mac now o mt mw zs.length nv dl ec rt rv mk (vp_updL ou 0 (if (0 : Int32) = 0 then va (r d + k) else ti (r d + k))))) [0, 1, 2, 3, 4, 5, 6, 7, 9, 10, 11, 12, 13, 14, 15, 16, 17, 18, 19, 8] rfl
      have hD := hD.sub (ws' := (wlw x a1 a2 a3 a4 a5 a6 a7 y b1 b2 b3 b4 b5 b6 b7 b8 b9 b10 q cI cJ cZ nD nR dv r cap ti va ev ed ec ad ac now 0 vs mac now o mt mw zs.length nv dl ec rt rv mk (vp_updL ou 0 (if (0 : Int32) = 0 then va (r d + k) else ti (r d + k))))) [0, 1, 2, 3, 4, 5, 6, 7, 9, 10, 11, 12, 13, 14, 15, 16, 17, 18, 19, 8] (by decide) rfl
      refine tp_l (y := if (0 : Int32) = 0 then va (r d + k) else ti (r d + k)) (hw.trans (by rw [hm1, hm2])) ?_
      refine lv_lstore (lv' := [(6, .long (if (0 : Int32) = 0 then va (r d + k) else ti (r d + k))), (5, .int (nI 0)), (0, .ref b), (1, .ref x), (2, .ref y), (3, .ref q), (4, .int (nI i))]) hx hb dL_law_776 hl (by decide) rfl (fun ls hl => ?_)
      refine lv_aload_n hx hb dL_law_778 rfl (lv_at hl 4 rfl) ?_
      have hPc := hP.sub (ws' := (wm y b1 b2 b3 b4 b5 b6 b7 b8 b9 b10 cI cJ cZ 0 nD nR vs mac now o mt mw zs.length nv dl ec rt rv mk)) [8, 9, 10, 11, 12, 13, 14, 15, 16, 17, 18] rfl
      refine vp_callSi (W.runV (As := []) (rest := []) ⟨hx, hb, hml, hown, hall⟩ (m_thrown l dC dI y b1 b2 b3 b4 b5 b6 b7 b8 b9 b10 cI cJ cZ 0 nD nR vs mac now o mt mw nv dl ec rt rv mk zs) (cwV 0 hall gL_65 rfl rfl rfl (by decide +kernel) ⟨Nat.le_of_ble_eq_true rfl, Nat.le_of_ble_eq_true rfl⟩) ⟨xr_blind, va_recv hK hPc (ci := 1) (q0 := 0) rfl rfl, fun U hU hW => ⟨rfl, by rw [hU]; exact hPc, va_K.moved hW.alike hK⟩⟩ rfl rfl hl.1 rfl (lv_room (Nat.le_of_ble_eq_true rfl)) dL_law_779 ⟨by show _ ≤ 601024; omega, by show _ ≤ 7293000; omega⟩) (fun v_5 hv_6 => ?_)
      obtain rfl : v_5 = nI 0 := hv_6
      refine lv_iload hx hb dL_law_782 (lv_at hl 1 rfl) ?_
      refine lv_icmp_eq (tgt := 789) hx hb dL_law_784 (by decide) (fun c_7 => ?_) (fun c_7 => ?_)
      · refine lv_iload hx hb dL_law_789 (lv_at hl 1 rfl) ?_
        refine lv_if_ne (tgt := 805) hx hb dL_law_791 (by decide) (fun c_8 => ?_) (fun c_8 => ?_)
        · exact absurd nI_0 c_8
        · refine lv_aload_n hx hb dL_law_794 rfl (lv_at hl 5 rfl) ?_
          refine lv_iconst (v := 0) hx hb dL_law_795 (by decide) ?_
          refine tp_i (y := nI 0) nI_0.symm ?_
          refine xa_lald hx hb hK hP 19 1 rfl rfl (Nat.lt_succ_self 0) (by omega) dL_law_796 ?_
          refine tp_l (y := if (0 : Int32) = 0 then va (r d + k) else ti (r d + k)) pk_uLs ?_
          refine lv_lload hx hb dL_law_797 (lv_at hl 0 rfl) ?_
          refine xl_eq (tgt := 805) hx hb dL_law_799 dL_law_800 (by decide) (fun c_9 => ?_) (fun c_9 => ?_)
          · refine lv_goto (tgt := 920) hx hb dL_law_805 (by decide) ?_
            refine W.widen (k := 20 + 2 * i + 2) (n := 70000 + 6 * i + 6 + G) (by omega) (by omega) ?_
            exact KK a3 a4 dv r cap ti va ev ed ec ad ac now 0 vs mac o mt mw zs nv dl rt rv mk (vp_updL ou 0 (if (0 : Int32) = 0 then va (r d + k) else ti (r d + k))) G H locs hR hZ hG hP hD hS ls (lv_sub hl [2, 3, 4, 5, 6] rfl)
          · exact absurd rfl c_9
      · exact absurd rfl c_7
    · exact absurd hz c_3
  · exact absurd hz c_1
set_option maxHeartbeats 8000000 in
set_option maxRecDepth 100000 in
theorem l_at1 {p : Program} {l : Launch} {e : Env} {s : State} {m : MethodId} {below : List Frame} {meth : Method} {c : Code} {dC : Nat → ClassId} {dI : Nat → Nat → Nat} {b L : Nat} {xs : Nat → Int32} (hst : l.stackTraces = false) (hL : L ≤ 2562) (C0 : lw_At p s m meth c b L xs) (hok : xt_ok s) (hnk : xt_nk s) {x a1 a2 a5 a6 a7 y b1 b2 b3 b4 b5 b6 b7 b8 b9 b10 q : Nat} {cI cJ cZ : ClassId} {nD nR : Nat} (hK : va_K (dC, dI) vwCl [(cI, .int), (cJ, .long), (cZ, .boolean)] s) (i : Nat) (hi : i + 5 ≤ L) (hz0 : ¬ xs (i + 3) = 0) (KK : lwK p l e s m below meth c dC dI b x a1 a2 a5 a6 a7 y b1 b2 b3 b4 b5 b6 b7 b8 b9 b10 q cI cJ cZ nD nR i) (a3 a4 : Nat) (dv : Nat → Int64) (r : Nat → Nat) (cap : Nat) (ti va ev ed : Nat → Int64) (ec : Nat) (ad : Nat → Int32) (ac : Nat) (now : Int64) (th : Nat) (vs : Nat → Int64) (mac : Nat → Bool) (o : Nat → Nat) (mt mw : Nat → Int64) (zs : List ZT) (nv dl : Nat → Int64) (rt rv : Nat → Int64) (mk : Nat → Bool) (ou : Nat → Int64) (G : Nat) (H : Heap) (locs : List Loc) (hR : wrel nD nR cap ec ac dv r ti va ev ed ad now vs mac zs nv dl) (hZ : wz zs o mt mw) (hG : G ≤ 4 * cap ∨ cap = nR ∧ G ≤ 6 * nR) (hP : va_P (dC, dI) vwCl (wlw x a1 a2 a3 a4 a5 a6 a7 y b1 b2 b3 b4 b5 b6 b7 b8 b9 b10 q cI cJ cZ nD nR dv r cap ti va ev ed ec ad ac now th vs mac now o mt mw zs.length nv dl ec rt rv mk ou) H) (hD : va_D (fun z : Nat => s.heap.size ≤ z) (wlw x a1 a2 a3 a4 a5 a6 a7 y b1 b2 b3 b4 b5 b6 b7 b8 b9 b10 q cI cJ cZ nD nR dv r cap ti va ev ed ec ad ac now th vs mac now o mt mw zs.length nv dl ec rt rv mk ou)) (hS : va_S (fun z : Nat => s.heap.size ≤ z) s.heap H locs) (ls : Array Slot) (hl : lv_has ls 8 [(0, .ref b), (1, .ref x), (2, .ref y), (3, .ref q), (4, .int (nI i))]) : W p l e room_1 s m #[Value.ref b] below meth c H locs (20 + 2 * i) (70000 + 6 * i + G) (lw_Z below #[Value.ref b] s) (F0 m 713 ls []) := by
  obtain ⟨hx, hb, hr, hml, hown, hts, hX, hbl, hlocks, hgv⟩ := C0
  have hA : ∀ z : Nat, s.heap.size ≤ z → (fun z : Nat => s.heap.size ≤ z) z := fun _ h => h
  have hbA : ¬ (fun z : Nat => s.heap.size ≤ z) b := Nat.not_le.mpr hbl
  have hall : ∀ w ∈ allw, w.before #[Value.ref b] s = true := fun w h => hts w (List.mem_filter.mp h).1
  have hown : s.vm.findClass RL = some m.cls := hown
  have hI := hR.1
  have hIm := wrel_I hR
  obtain ⟨hnD1, hnD, hnR1, hnR, hcap, hrc, hrR, hr0, hmo, hec, hac⟩ := id hR.1
  have hG6 : G ≤ 49152 := by omega
  have hz : ¬ xs (i + 3) = 0 := hz0
  obtain ⟨d0, E_d0⟩ : ∃ z : Int32, z = xs (i + 1) := ⟨_, rfl⟩
  obtain ⟨j0, E_j0⟩ : ∃ z : Int32, z = xs (i + 2) := ⟨_, rfl⟩
  by_cases c1 : d0 < 0 ∨ nI nD ≤ d0
  · refine lv_aload_n hx hb dL_law_713 rfl (lv_at hl 1 rfl) ?_
    refine lv_aload_n hx hb dL_law_714 rfl (lv_at hl 0 rfl) ?_
    refine lv_iload hx hb dL_law_715 (lv_at hl 4 rfl) ?_
    refine lv_iconst (v := 1) hx hb dL_law_717 (by decide) ?_
    refine lv_iadd hx hb dL_law_718 ?_
    refine tp_i (y := nI (i + 1)) (nI_add i 1) ?_
    refine va_sld hx hb hX hbl hbA hS (vp_in_nI (show i + 1 < L by omega) (by omega)) dL_law_719 ?_
    refine tp_i (y := d0) (by rw [nI_clamp (by omega)]; exact E_d0.symm) ?_
    refine lv_aload_n hx hb dL_law_720 rfl (lv_at hl 0 rfl) ?_
    refine lv_iload hx hb dL_law_721 (lv_at hl 4 rfl) ?_
    refine lv_iconst (v := 2) hx hb dL_law_723 (by decide) ?_
    refine lv_iadd hx hb dL_law_724 ?_
    refine tp_i (y := nI (i + 2)) (nI_add i 2) ?_
    refine va_sld hx hb hX hbl hbA hS (vp_in_nI (show i + 2 < L by omega) (by omega)) dL_law_725 ?_
    refine tp_i (y := j0) (by rw [nI_clamp (by omega)]; exact E_j0.symm) ?_
    refine lv_aload_n hx hb dL_law_726 rfl (lv_at hl 0 rfl) ?_
    refine lv_iload hx hb dL_law_727 (lv_at hl 4 rfl) ?_
    refine lv_iconst (v := 3) hx hb dL_law_729 (by decide) ?_
    refine lv_iadd hx hb dL_law_730 ?_
    refine tp_i (y := nI (i + 3)) (nI_add i 3) ?_
    refine va_sld hx hb hX hbl hbA hS (vp_in_nI (show i + 3 < L by omega) (by omega)) dL_law_731 ?_
    refine tp_i (y := xs (i + 3)) (by rw [nI_clamp (by omega)]) ?_
    refine lv_if_eq (tgt := 739) hx hb dL_law_732 (by decide) (fun c_1 => ?_) (fun c_1 => ?_)
    · exact absurd c_1 hz
    · refine lv_iconst (v := 1) hx hb dL_law_735 (by decide) ?_
      refine lv_goto (tgt := 740) hx hb dL_law_736 (by decide) ?_
      refine lv_aload_n hx hb dL_law_740 rfl (lv_at hl 3 rfl) ?_
      have hPc := hP.sub (ws' := (wr x a1 a2 a3 a4 a5 a6 a7 cI cJ nD nR dv r cap ti va ev ed ec ad ac now)) [0, 1, 2, 3, 4, 5, 6, 7] rfl
      have hDc := hD.sub (ws' := (wr x a1 a2 a3 a4 a5 a6 a7 cI cJ nD nR dv r cap ti va ev ed ec ad ac now)) [0, 1, 2, 3, 4, 5, 6, 7] (by decide) rfl
      have hKc := hK.sub (tys' := [(cI, .int), (cJ, .long)]) [0, 1] rfl
      have hFc := va_free (wc := (wr x a1 a2 a3 a4 a5 a6 a7 cI cJ nD nR dv r cap ti va ev ed ec ad ac now)) hD hS hA [0, 1, 2, 3, 4, 5, 6, 7] rfl
      refine va_calli (xt_runSW (n := 5) (As := [.ref x, .int d0, .int j0, .int 1, .ref q]) (rest := []) ⟨hx, hb, hml, hown, hall⟩ (h_at1 l dC dI x a1 a2 a3 a4 a5 a6 a7 cI cJ nD nR dv r cap ti va ev ed ec ad ac now hst q H.size d0 c1 j0 1) gL_105 rfl rfl rfl (by decide +kernel) ⟨Nat.le_of_ble_eq_true rfl, Nat.le_of_ble_eq_true rfl⟩ ⟨xh_blind, fun U hU hW => ⟨rfl, by rw [hU], by rw [hU]; exact hPc, va_K.moved hW.alike hKc, hDc.weaken (fun _ _ _ _ => trivial), xt_move hW (fun z hz => by rw [hU]; exact hS.2.1 z hz (Nat.not_le.mpr hz)) hok, xt_nk_move hW.alike hnk⟩⟩ rfl rfl hl.1 rfl (lv_room (Nat.le_of_ble_eq_true rfl)) dL_law_741 ⟨by show _ ≤ 601024; omega, by show _ ≤ 7293000; omega⟩) hS (fun q _ h => hFc q h) hFc (fun v_2 u t9 H1 locs ht hvm hw hB hz1 hk1 hS => ?_)
      obtain ⟨hP1, hK1, hD1⟩ := hB
      rw [ht] at hP1
      obtain ⟨hP, hD⟩ := va_join (wr := (wm y b1 b2 b3 b4 b5 b6 b7 b8 b9 b10 cI cJ cZ th nD nR vs mac now o mt mw zs.length nv dl ec rt rv mk) ++ [(q, .inl (cJ, 1, .inr (.inl ou)))]) (w1 := (wr x a1 a2 a3 a4 a5 a6 a7 cI cJ nD nR dv r cap ti va ev ed ec ad ac now)) hP hD [0, 1, 2, 3, 4, 5, 6, 7] [8, 9, 10, 11, 12, 13, 14, 15, 16, 17, 18, 19] rfl rfl (by decide) (by decide) hk1 hFc hP1 hD1
      generalize H1 = H at hP hS ⊢
      have hP := hP.sub (ws' := (wlw x a1 a2 a3 a4 a5 a6 a7 y b1 b2 b3 b4 b5 b6 b7 b8 b9 b10 q cI cJ cZ nD nR dv r cap ti va ev ed ec ad ac now th vs mac now o mt mw zs.length nv dl ec rt rv mk ou)) [12, 13, 14, 15, 16, 17, 18, 19, 0, 1, 2, 3, 4, 5, 6, 7, 8, 9, 10, 11] rfl
      have hD := hD.sub (ws' := (wlw x a1 a2 a3 a4 a5 a6 a7 y b1 b2 b3 b4 b5 b6 b7 b8 b9 b10 q cI cJ cZ nD nR dv r cap ti va ev ed ec ad ac now th vs mac now o mt mw zs.length nv dl ec rt rv mk ou)) [12, 13, 14, 15, 16, 17, 18, 19, 0, 1, 2, 3, 4, 5, 6, 7, 8, 9, 10, 11] (by decide) rfl
      obtain rfl : v_2 = nI 1 := hw
      refine lv_istore (lv' := [(5, .int (nI 1)), (0, .ref b), (1, .ref x), (2, .ref y), (3, .ref q), (4, .int (nI i))]) hx hb dL_law_744 hl (by decide) rfl (fun ls hl => ?_)
      refine lv_aload_n hx hb dL_law_746 rfl (lv_at hl 3 rfl) ?_
      refine lv_aload_n hx hb dL_law_747 rfl (lv_at hl 1 rfl) ?_
      refine lv_iload hx hb dL_law_748 (lv_at hl 5 rfl) ?_
      refine lv_iconst (v := 1) hx hb dL_law_750 (by decide) ?_
      refine lv_iadd hx hb dL_law_751 ?_
      refine tp_i (y := nI (i + 1)) (nI_add i 1) ?_
      refine va_sld hx hb hX hbl hbA hS (vp_in_nI (show i + 1 < L by omega) (by omega)) dL_law_752 ?_
      refine tp_i (y := d0) (by rw [nI_clamp (by omega)]; exact E_d0.symm) ?_
      refine lv_aload_n hx hb dL_law_753 rfl (lv_at hl 1 rfl) ?_
      refine lv_iload hx hb dL_law_754 (lv_at hl 5 rfl) ?_
      refine lv_iconst (v := 2) hx hb dL_law_756 (by decide) ?_
      refine lv_iadd hx hb dL_law_757 ?_
      refine tp_i (y := nI (i + 2)) (nI_add i 2) ?_
      refine va_sld hx hb hX hbl hbA hS (vp_in_nI (show i + 2 < L by omega) (by omega)) dL_law_758 ?_
      refine tp_i (y := j0) (by rw [nI_clamp (by omega)]; exact E_j0.symm) ?_
      refine lv_aload_n hx hb dL_law_759 rfl (lv_at hl 1 rfl) ?_
      refine lv_iload hx hb dL_law_760 (lv_at hl 5 rfl) ?_
      refine lv_iconst (v := 3) hx hb dL_law_762 (by decide) ?_
      refine lv_iadd hx hb dL_law_763 ?_
      refine tp_i (y := nI (i + 3)) (nI_add i 3) ?_
      refine va_sld hx hb hX hbl hbA hS (vp_in_nI (show i + 3 < L by omega) (by omega)) dL_law_764 ?_
      refine tp_i (y := xs (i + 3)) (by rw [nI_clamp (by omega)]) ?_
      refine lv_if_eq (tgt := 772) hx hb dL_law_765 (by decide) (fun c_3 => ?_) (fun c_3 => ?_)
      · exact absurd c_3 hz
      · refine lv_iconst (v := 1) hx hb dL_law_768 (by decide) ?_
        refine lv_goto (tgt := 773) hx hb dL_law_769 (by decide) ?_
        have hPc := hP.sub (ws' := (wm y b1 b2 b3 b4 b5 b6 b7 b8 b9 b10 cI cJ cZ th nD nR vs mac now o mt mw zs.length nv dl ec rt rv mk)) [8, 9, 10, 11, 12, 13, 14, 15, 16, 17, 18] rfl
        have hDc := hD.sub (ws' := (wm y b1 b2 b3 b4 b5 b6 b7 b8 b9 b10 cI cJ cZ th nD nR vs mac now o mt mw zs.length nv dl ec rt rv mk)) [8, 9, 10, 11, 12, 13, 14, 15, 16, 17, 18] (by decide) rfl
        have hFc := va_free (wc := (wm y b1 b2 b3 b4 b5 b6 b7 b8 b9 b10 cI cJ cZ th nD nR vs mac now o mt mw zs.length nv dl ec rt rv mk)) hD hS hA [8, 9, 10, 11, 12, 13, 14, 15, 16, 17, 18] rfl
        refine va_calll (va_runV (As := [.int d0, .int j0, .int 1]) (rest := []) ⟨hx, hb, hml, hown, hall⟩ (m_at1 l dC dI y b1 b2 b3 b4 b5 b6 b7 b8 b9 b10 cI cJ cZ th nD nR vs mac now o mt mw nv dl ec rt rv mk zs H.size d0 c1 j0 1) (cwV 3 hall gL_108 rfl rfl rfl (by decide +kernel) ⟨Nat.le_of_ble_eq_true rfl, Nat.le_of_ble_eq_true rfl⟩) ⟨xu_blind, va_recv hK hPc (ci := 1) (q0 := 0) rfl rfl, fun U hU hW => ⟨rfl, by rw [hU], by rw [hU]; exact hPc, va_K.moved hW.alike hK, hDc.weaken (fun _ _ _ _ => trivial)⟩⟩ rfl rfl hl.1 rfl (lv_room (Nat.le_of_ble_eq_true rfl)) dL_law_773 ⟨by show _ ≤ 601024; omega, by show _ ≤ 7293000; omega⟩) hS (fun q _ h => hFc q h) hFc (fun v_4 u9 t9 H1 locs ht hvm hw hB hz1 hk1 hS => ?_)
        obtain ⟨hP1, hK1, hD1⟩ := hB
        rw [ht] at hP1
        obtain ⟨hP, hD⟩ := va_join (wr := (wr x a1 a2 a3 a4 a5 a6 a7 cI cJ nD nR dv r cap ti va ev ed ec ad ac now) ++ [(q, .inl (cJ, 1, .inr (.inl ou)))]) (w1 := (wm y b1 b2 b3 b4 b5 b6 b7 b8 b9 b10 cI cJ cZ 1 nD nR vs mac now o mt mw zs.length nv dl ec rt rv mk)) hP hD [8, 9, 10, 11, 12, 13, 14, 15, 16, 17, 18] [0, 1, 2, 3, 4, 5, 6, 7, 19] rfl rfl (by decide) (by decide) hk1 hFc hP1 hD1
        generalize H1 = H at hP hS ⊢
        have hP := hP.sub (ws' := (wlw x a1 a2 a3 a4 a5 a6 a7 y b1 b2 b3 b4 b5 b6 b7 b8 b9 b10 q cI cJ cZ nD nR dv r cap ti va ev ed ec ad ac now 1 vs mac now o mt mw zs.length nv dl ec rt rv mk ou)) [0, 1, 2, 3, 4, 5, 6, 7, 9, 10, 11, 12, 13, 14, 15, 16, 17, 18, 19, 8] rfl
        have hD := hD.sub (ws' := (wlw x a1 a2 a3 a4 a5 a6 a7 y b1 b2 b3 b4 b5 b6 b7 b8 b9 b10 q cI cJ cZ nD nR dv r cap ti va ev ed ec ad ac now 1 vs mac now o mt mw zs.length nv dl ec rt rv mk ou)) [0, 1, 2, 3, 4, 5, 6, 7, 9, 10, 11, 12, 13, 14, 15, 16, 17, 18, 19, 8] (by decide) rfl
        refine lv_lstore (lv' := [(6, .long v_4), (5, .int (nI 1)), (0, .ref b), (1, .ref x), (2, .ref y), (3, .ref q), (4, .int (nI i))]) hx hb dL_law_776 hl (by decide) rfl (fun ls hl => ?_)
        refine lv_aload_n hx hb dL_law_778 rfl (lv_at hl 4 rfl) ?_
        have hPc := hP.sub (ws' := (wm y b1 b2 b3 b4 b5 b6 b7 b8 b9 b10 cI cJ cZ 1 nD nR vs mac now o mt mw zs.length nv dl ec rt rv mk)) [8, 9, 10, 11, 12, 13, 14, 15, 16, 17, 18] rfl
        refine vp_callSi (W.runV (As := []) (rest := []) ⟨hx, hb, hml, hown, hall⟩ (m_thrown l dC dI y b1 b2 b3 b4 b5 b6 b7 b8 b9 b10 cI cJ cZ 1 nD nR vs mac now o mt mw nv dl ec rt rv mk zs) (cwV 0 hall gL_65 rfl rfl rfl (by decide +kernel) ⟨Nat.le_of_ble_eq_true rfl, Nat.le_of_ble_eq_true rfl⟩) ⟨xr_blind, va_recv hK hPc (ci := 1) (q0 := 0) rfl rfl, fun U hU hW => ⟨rfl, by rw [hU]; exact hPc, va_K.moved hW.alike hK⟩⟩ rfl rfl hl.1 rfl (lv_room (Nat.le_of_ble_eq_true rfl)) dL_law_779 ⟨by show _ ≤ 601024; omega, by show _ ≤ 7293000; omega⟩) (fun v_5 hv_6 => ?_)
        obtain rfl : v_5 = nI 1 := hv_6
        refine lv_iload hx hb dL_law_782 (lv_at hl 1 rfl) ?_
        refine lv_icmp_eq (tgt := 789) hx hb dL_law_784 (by decide) (fun c_7 => ?_) (fun c_7 => ?_)
        · refine lv_iload hx hb dL_law_789 (lv_at hl 1 rfl) ?_
          refine lv_if_ne (tgt := 805) hx hb dL_law_791 (by decide) (fun c_8 => ?_) (fun c_8 => ?_)
          · refine lv_goto (tgt := 920) hx hb dL_law_805 (by decide) ?_
            refine W.widen (k := 20 + 2 * i + 2) (n := 70000 + 6 * i + 6 + G) (by omega) (by omega) ?_
            exact KK a3 a4 dv r cap ti va ev ed ec ad ac now 1 vs mac o mt mw zs nv dl rt rv mk ou G H locs hR hZ hG hP hD hS ls (lv_sub hl [2, 3, 4, 5, 6] rfl)
          · exact absurd c_8 (by decide)
        · exact absurd rfl c_7
  obtain ⟨d, hd, rfl⟩ : ∃ d : Nat, d < nD ∧ d0 = nI d := xw_d (by omega) c1
  by_cases c2 : j0 < 0
  · refine lv_aload_n hx hb dL_law_713 rfl (lv_at hl 1 rfl) ?_
    refine lv_aload_n hx hb dL_law_714 rfl (lv_at hl 0 rfl) ?_
    refine lv_iload hx hb dL_law_715 (lv_at hl 4 rfl) ?_
    refine lv_iconst (v := 1) hx hb dL_law_717 (by decide) ?_
    refine lv_iadd hx hb dL_law_718 ?_
    refine tp_i (y := nI (i + 1)) (nI_add i 1) ?_
    refine va_sld hx hb hX hbl hbA hS (vp_in_nI (show i + 1 < L by omega) (by omega)) dL_law_719 ?_
    refine tp_i (y := nI d) (by rw [nI_clamp (by omega)]; exact E_d0.symm) ?_
    refine lv_aload_n hx hb dL_law_720 rfl (lv_at hl 0 rfl) ?_
    refine lv_iload hx hb dL_law_721 (lv_at hl 4 rfl) ?_
    refine lv_iconst (v := 2) hx hb dL_law_723 (by decide) ?_
    refine lv_iadd hx hb dL_law_724 ?_
    refine tp_i (y := nI (i + 2)) (nI_add i 2) ?_
    refine va_sld hx hb hX hbl hbA hS (vp_in_nI (show i + 2 < L by omega) (by omega)) dL_law_725 ?_
    refine tp_i (y := j0) (by rw [nI_clamp (by omega)]; exact E_j0.symm) ?_
    refine lv_aload_n hx hb dL_law_726 rfl (lv_at hl 0 rfl) ?_
    refine lv_iload hx hb dL_law_727 (lv_at hl 4 rfl) ?_
    refine lv_iconst (v := 3) hx hb dL_law_729 (by decide) ?_
    refine lv_iadd hx hb dL_law_730 ?_
    refine tp_i (y := nI (i + 3)) (nI_add i 3) ?_
    refine va_sld hx hb hX hbl hbA hS (vp_in_nI (show i + 3 < L by omega) (by omega)) dL_law_731 ?_
    refine tp_i (y := xs (i + 3)) (by rw [nI_clamp (by omega)]) ?_
    refine lv_if_eq (tgt := 739) hx hb dL_law_732 (by decide) (fun c_1 => ?_) (fun c_1 => ?_)
    · exact absurd c_1 hz
    · refine lv_iconst (v := 1) hx hb dL_law_735 (by decide) ?_
      refine lv_goto (tgt := 740) hx hb dL_law_736 (by decide) ?_
      refine lv_aload_n hx hb dL_law_740 rfl (lv_at hl 3 rfl) ?_
      have hPc := hP.sub (ws' := (wr x a1 a2 a3 a4 a5 a6 a7 cI cJ nD nR dv r cap ti va ev ed ec ad ac now)) [0, 1, 2, 3, 4, 5, 6, 7] rfl
      have hDc := hD.sub (ws' := (wr x a1 a2 a3 a4 a5 a6 a7 cI cJ nD nR dv r cap ti va ev ed ec ad ac now)) [0, 1, 2, 3, 4, 5, 6, 7] (by decide) rfl
      have hKc := hK.sub (tys' := [(cI, .int), (cJ, .long)]) [0, 1] rfl
      have hFc := va_free (wc := (wr x a1 a2 a3 a4 a5 a6 a7 cI cJ nD nR dv r cap ti va ev ed ec ad ac now)) hD hS hA [0, 1, 2, 3, 4, 5, 6, 7] rfl
      refine va_calli (xt_runSW (n := 5) (As := [.ref x, .int (nI d), .int j0, .int 1, .ref q]) (rest := []) ⟨hx, hb, hml, hown, hall⟩ (h_at2 l dC dI x a1 a2 a3 a4 a5 a6 a7 cI cJ nD nR dv r cap ti va ev ed ec ad ac now hst q H.size hI d j0 1 hd (Or.inl c2)) gL_105 rfl rfl rfl (by decide +kernel) ⟨Nat.le_of_ble_eq_true rfl, Nat.le_of_ble_eq_true rfl⟩ ⟨xh_blind, fun U hU hW => ⟨rfl, by rw [hU], by rw [hU]; exact hPc, va_K.moved hW.alike hKc, hDc.weaken (fun _ _ _ _ => trivial), xt_move hW (fun z hz => by rw [hU]; exact hS.2.1 z hz (Nat.not_le.mpr hz)) hok, xt_nk_move hW.alike hnk⟩⟩ rfl rfl hl.1 rfl (lv_room (Nat.le_of_ble_eq_true rfl)) dL_law_741 ⟨by show _ ≤ 601024; omega, by show _ ≤ 7293000; omega⟩) hS (fun q _ h => hFc q h) hFc (fun v_2 u t9 H1 locs ht hvm hw hB hz1 hk1 hS => ?_)
      obtain ⟨hP1, hK1, hD1⟩ := hB
      rw [ht] at hP1
      obtain ⟨hP, hD⟩ := va_join (wr := (wm y b1 b2 b3 b4 b5 b6 b7 b8 b9 b10 cI cJ cZ th nD nR vs mac now o mt mw zs.length nv dl ec rt rv mk) ++ [(q, .inl (cJ, 1, .inr (.inl ou)))]) (w1 := (wr x a1 a2 a3 a4 a5 a6 a7 cI cJ nD nR dv r cap ti va ev ed ec ad ac now)) hP hD [0, 1, 2, 3, 4, 5, 6, 7] [8, 9, 10, 11, 12, 13, 14, 15, 16, 17, 18, 19] rfl rfl (by decide) (by decide) hk1 hFc hP1 hD1
      generalize H1 = H at hP hS ⊢
      have hP := hP.sub (ws' := (wlw x a1 a2 a3 a4 a5 a6 a7 y b1 b2 b3 b4 b5 b6 b7 b8 b9 b10 q cI cJ cZ nD nR dv r cap ti va ev ed ec ad ac now th vs mac now o mt mw zs.length nv dl ec rt rv mk ou)) [12, 13, 14, 15, 16, 17, 18, 19, 0, 1, 2, 3, 4, 5, 6, 7, 8, 9, 10, 11] rfl
      have hD := hD.sub (ws' := (wlw x a1 a2 a3 a4 a5 a6 a7 y b1 b2 b3 b4 b5 b6 b7 b8 b9 b10 q cI cJ cZ nD nR dv r cap ti va ev ed ec ad ac now th vs mac now o mt mw zs.length nv dl ec rt rv mk ou)) [12, 13, 14, 15, 16, 17, 18, 19, 0, 1, 2, 3, 4, 5, 6, 7, 8, 9, 10, 11] (by decide) rfl
      obtain rfl : v_2 = nI 1 := hw
      refine lv_istore (lv' := [(5, .int (nI 1)), (0, .ref b), (1, .ref x), (2, .ref y), (3, .ref q), (4, .int (nI i))]) hx hb dL_law_744 hl (by decide) rfl (fun ls hl => ?_)
      refine lv_aload_n hx hb dL_law_746 rfl (lv_at hl 3 rfl) ?_
      refine lv_aload_n hx hb dL_law_747 rfl (lv_at hl 1 rfl) ?_
      refine lv_iload hx hb dL_law_748 (lv_at hl 5 rfl) ?_
      refine lv_iconst (v := 1) hx hb dL_law_750 (by decide) ?_
      refine lv_iadd hx hb dL_law_751 ?_
      refine tp_i (y := nI (i + 1)) (nI_add i 1) ?_
      refine va_sld hx hb hX hbl hbA hS (vp_in_nI (show i + 1 < L by omega) (by omega)) dL_law_752 ?_
      refine tp_i (y := nI d) (by rw [nI_clamp (by omega)]; exact E_d0.symm) ?_
      refine lv_aload_n hx hb dL_law_753 rfl (lv_at hl 1 rfl) ?_
      refine lv_iload hx hb dL_law_754 (lv_at hl 5 rfl) ?_
      refine lv_iconst (v := 2) hx hb dL_law_756 (by decide) ?_
      refine lv_iadd hx hb dL_law_757 ?_
      refine tp_i (y := nI (i + 2)) (nI_add i 2) ?_
      refine va_sld hx hb hX hbl hbA hS (vp_in_nI (show i + 2 < L by omega) (by omega)) dL_law_758 ?_
      refine tp_i (y := j0) (by rw [nI_clamp (by omega)]; exact E_j0.symm) ?_
      refine lv_aload_n hx hb dL_law_759 rfl (lv_at hl 1 rfl) ?_
      refine lv_iload hx hb dL_law_760 (lv_at hl 5 rfl) ?_
      refine lv_iconst (v := 3) hx hb dL_law_762 (by decide) ?_
      refine lv_iadd hx hb dL_law_763 ?_
      refine tp_i (y := nI (i + 3)) (nI_add i 3) ?_
      refine va_sld hx hb hX hbl hbA hS (vp_in_nI (show i + 3 < L by omega) (by omega)) dL_law_764 ?_
      refine tp_i (y := xs (i + 3)) (by rw [nI_clamp (by omega)]) ?_
      refine lv_if_eq (tgt := 772) hx hb dL_law_765 (by decide) (fun c_3 => ?_) (fun c_3 => ?_)
      · exact absurd c_3 hz
      · refine lv_iconst (v := 1) hx hb dL_law_768 (by decide) ?_
        refine lv_goto (tgt := 773) hx hb dL_law_769 (by decide) ?_
        have hPc := hP.sub (ws' := (wm y b1 b2 b3 b4 b5 b6 b7 b8 b9 b10 cI cJ cZ th nD nR vs mac now o mt mw zs.length nv dl ec rt rv mk)) [8, 9, 10, 11, 12, 13, 14, 15, 16, 17, 18] rfl
        have hDc := hD.sub (ws' := (wm y b1 b2 b3 b4 b5 b6 b7 b8 b9 b10 cI cJ cZ th nD nR vs mac now o mt mw zs.length nv dl ec rt rv mk)) [8, 9, 10, 11, 12, 13, 14, 15, 16, 17, 18] (by decide) rfl
        have hFc := va_free (wc := (wm y b1 b2 b3 b4 b5 b6 b7 b8 b9 b10 cI cJ cZ th nD nR vs mac now o mt mw zs.length nv dl ec rt rv mk)) hD hS hA [8, 9, 10, 11, 12, 13, 14, 15, 16, 17, 18] rfl
        refine va_calll (va_runV (As := [.int (nI d), .int j0, .int 1]) (rest := []) ⟨hx, hb, hml, hown, hall⟩ (m_at2 l dC dI y b1 b2 b3 b4 b5 b6 b7 b8 b9 b10 cI cJ cZ th nD nR vs mac now o mt mw nv dl ec rt rv mk zs H.size hIm hZ d hd j0 1 c2) (cwV 3 hall gL_108 rfl rfl rfl (by decide +kernel) ⟨Nat.le_of_ble_eq_true rfl, Nat.le_of_ble_eq_true rfl⟩) ⟨xu_blind, va_recv hK hPc (ci := 1) (q0 := 0) rfl rfl, fun U hU hW => ⟨rfl, by rw [hU], by rw [hU]; exact hPc, va_K.moved hW.alike hK, hDc.weaken (fun _ _ _ _ => trivial)⟩⟩ rfl rfl hl.1 rfl (lv_room (Nat.le_of_ble_eq_true rfl)) dL_law_773 ⟨by show _ ≤ 601024; omega, by show _ ≤ 7293000; omega⟩) hS (fun q _ h => hFc q h) hFc (fun v_4 u9 t9 H1 locs ht hvm hw hB hz1 hk1 hS => ?_)
        obtain ⟨hP1, hK1, hD1⟩ := hB
        rw [ht] at hP1
        obtain ⟨hP, hD⟩ := va_join (wr := (wr x a1 a2 a3 a4 a5 a6 a7 cI cJ nD nR dv r cap ti va ev ed ec ad ac now) ++ [(q, .inl (cJ, 1, .inr (.inl ou)))]) (w1 := (wm y b1 b2 b3 b4 b5 b6 b7 b8 b9 b10 cI cJ cZ 1 nD nR vs mac now o mt mw zs.length nv dl ec rt rv mk)) hP hD [8, 9, 10, 11, 12, 13, 14, 15, 16, 17, 18] [0, 1, 2, 3, 4, 5, 6, 7, 19] rfl rfl (by decide) (by decide) hk1 hFc hP1 hD1
        generalize H1 = H at hP hS ⊢
        have hP := hP.sub (ws' := (wlw x a1 a2 a3 a4 a5 a6 a7 y b1 b2 b3 b4 b5 b6 b7 b8 b9 b10 q cI cJ cZ nD nR dv r cap ti va ev ed ec ad ac now 1 vs mac now o mt mw zs.length nv dl ec rt rv mk ou)) [0, 1, 2, 3, 4, 5, 6, 7, 9, 10, 11, 12, 13, 14, 15, 16, 17, 18, 19, 8] rfl
        have hD := hD.sub (ws' := (wlw x a1 a2 a3 a4 a5 a6 a7 y b1 b2 b3 b4 b5 b6 b7 b8 b9 b10 q cI cJ cZ nD nR dv r cap ti va ev ed ec ad ac now 1 vs mac now o mt mw zs.length nv dl ec rt rv mk ou)) [0, 1, 2, 3, 4, 5, 6, 7, 9, 10, 11, 12, 13, 14, 15, 16, 17, 18, 19, 8] (by decide) rfl
        refine lv_lstore (lv' := [(6, .long v_4), (5, .int (nI 1)), (0, .ref b), (1, .ref x), (2, .ref y), (3, .ref q), (4, .int (nI i))]) hx hb dL_law_776 hl (by decide) rfl (fun ls hl => ?_)
        refine lv_aload_n hx hb dL_law_778 rfl (lv_at hl 4 rfl) ?_
        have hPc := hP.sub (ws' := (wm y b1 b2 b3 b4 b5 b6 b7 b8 b9 b10 cI cJ cZ 1 nD nR vs mac now o mt mw zs.length nv dl ec rt rv mk)) [8, 9, 10, 11, 12, 13, 14, 15, 16, 17, 18] rfl
        refine vp_callSi (W.runV (As := []) (rest := []) ⟨hx, hb, hml, hown, hall⟩ (m_thrown l dC dI y b1 b2 b3 b4 b5 b6 b7 b8 b9 b10 cI cJ cZ 1 nD nR vs mac now o mt mw nv dl ec rt rv mk zs) (cwV 0 hall gL_65 rfl rfl rfl (by decide +kernel) ⟨Nat.le_of_ble_eq_true rfl, Nat.le_of_ble_eq_true rfl⟩) ⟨xr_blind, va_recv hK hPc (ci := 1) (q0 := 0) rfl rfl, fun U hU hW => ⟨rfl, by rw [hU]; exact hPc, va_K.moved hW.alike hK⟩⟩ rfl rfl hl.1 rfl (lv_room (Nat.le_of_ble_eq_true rfl)) dL_law_779 ⟨by show _ ≤ 601024; omega, by show _ ≤ 7293000; omega⟩) (fun v_5 hv_6 => ?_)
        obtain rfl : v_5 = nI 1 := hv_6
        refine lv_iload hx hb dL_law_782 (lv_at hl 1 rfl) ?_
        refine lv_icmp_eq (tgt := 789) hx hb dL_law_784 (by decide) (fun c_7 => ?_) (fun c_7 => ?_)
        · refine lv_iload hx hb dL_law_789 (lv_at hl 1 rfl) ?_
          refine lv_if_ne (tgt := 805) hx hb dL_law_791 (by decide) (fun c_8 => ?_) (fun c_8 => ?_)
          · refine lv_goto (tgt := 920) hx hb dL_law_805 (by decide) ?_
            refine W.widen (k := 20 + 2 * i + 2) (n := 70000 + 6 * i + 6 + G) (by omega) (by omega) ?_
            exact KK a3 a4 dv r cap ti va ev ed ec ad ac now 1 vs mac o mt mw zs nv dl rt rv mk ou G H locs hR hZ hG hP hD hS ls (lv_sub hl [2, 3, 4, 5, 6] rfl)
          · exact absurd c_8 (by decide)
        · exact absurd rfl c_7
  obtain ⟨k, hk, rfl⟩ := nI_of c2
  rcases Nat.lt_or_ge k (r (d + 1) - r d) with c3 | c3
  rotate_left
  · refine lv_aload_n hx hb dL_law_713 rfl (lv_at hl 1 rfl) ?_
    refine lv_aload_n hx hb dL_law_714 rfl (lv_at hl 0 rfl) ?_
    refine lv_iload hx hb dL_law_715 (lv_at hl 4 rfl) ?_
    refine lv_iconst (v := 1) hx hb dL_law_717 (by decide) ?_
    refine lv_iadd hx hb dL_law_718 ?_
    refine tp_i (y := nI (i + 1)) (nI_add i 1) ?_
    refine va_sld hx hb hX hbl hbA hS (vp_in_nI (show i + 1 < L by omega) (by omega)) dL_law_719 ?_
    refine tp_i (y := nI d) (by rw [nI_clamp (by omega)]; exact E_d0.symm) ?_
    refine lv_aload_n hx hb dL_law_720 rfl (lv_at hl 0 rfl) ?_
    refine lv_iload hx hb dL_law_721 (lv_at hl 4 rfl) ?_
    refine lv_iconst (v := 2) hx hb dL_law_723 (by decide) ?_
    refine lv_iadd hx hb dL_law_724 ?_
    refine tp_i (y := nI (i + 2)) (nI_add i 2) ?_
    refine va_sld hx hb hX hbl hbA hS (vp_in_nI (show i + 2 < L by omega) (by omega)) dL_law_725 ?_
    refine tp_i (y := nI k) (by rw [nI_clamp (by omega)]; exact E_j0.symm) ?_
    refine lv_aload_n hx hb dL_law_726 rfl (lv_at hl 0 rfl) ?_
    refine lv_iload hx hb dL_law_727 (lv_at hl 4 rfl) ?_
    refine lv_iconst (v := 3) hx hb dL_law_729 (by decide) ?_
    refine lv_iadd hx hb dL_law_730 ?_
    refine tp_i (y := nI (i + 3)) (nI_add i 3) ?_
    refine va_sld hx hb hX hbl hbA hS (vp_in_nI (show i + 3 < L by omega) (by omega)) dL_law_731 ?_
    refine tp_i (y := xs (i + 3)) (by rw [nI_clamp (by omega)]) ?_
    refine lv_if_eq (tgt := 739) hx hb dL_law_732 (by decide) (fun c_1 => ?_) (fun c_1 => ?_)
    · exact absurd c_1 hz
    · refine lv_iconst (v := 1) hx hb dL_law_735 (by decide) ?_
      refine lv_goto (tgt := 740) hx hb dL_law_736 (by decide) ?_
      refine lv_aload_n hx hb dL_law_740 rfl (lv_at hl 3 rfl) ?_
      have hPc := hP.sub (ws' := (wr x a1 a2 a3 a4 a5 a6 a7 cI cJ nD nR dv r cap ti va ev ed ec ad ac now)) [0, 1, 2, 3, 4, 5, 6, 7] rfl
      have hDc := hD.sub (ws' := (wr x a1 a2 a3 a4 a5 a6 a7 cI cJ nD nR dv r cap ti va ev ed ec ad ac now)) [0, 1, 2, 3, 4, 5, 6, 7] (by decide) rfl
      have hKc := hK.sub (tys' := [(cI, .int), (cJ, .long)]) [0, 1] rfl
      have hFc := va_free (wc := (wr x a1 a2 a3 a4 a5 a6 a7 cI cJ nD nR dv r cap ti va ev ed ec ad ac now)) hD hS hA [0, 1, 2, 3, 4, 5, 6, 7] rfl
      refine va_calli (xt_runSW (n := 5) (As := [.ref x, .int (nI d), .int (nI k), .int 1, .ref q]) (rest := []) ⟨hx, hb, hml, hown, hall⟩ (h_at2 l dC dI x a1 a2 a3 a4 a5 a6 a7 cI cJ nD nR dv r cap ti va ev ed ec ad ac now hst q H.size hI d (nI k) 1 hd (Or.inr (nI_le c3 hk))) gL_105 rfl rfl rfl (by decide +kernel) ⟨Nat.le_of_ble_eq_true rfl, Nat.le_of_ble_eq_true rfl⟩ ⟨xh_blind, fun U hU hW => ⟨rfl, by rw [hU], by rw [hU]; exact hPc, va_K.moved hW.alike hKc, hDc.weaken (fun _ _ _ _ => trivial), xt_move hW (fun z hz => by rw [hU]; exact hS.2.1 z hz (Nat.not_le.mpr hz)) hok, xt_nk_move hW.alike hnk⟩⟩ rfl rfl hl.1 rfl (lv_room (Nat.le_of_ble_eq_true rfl)) dL_law_741 ⟨by show _ ≤ 601024; omega, by show _ ≤ 7293000; omega⟩) hS (fun q _ h => hFc q h) hFc (fun v_2 u t9 H1 locs ht hvm hw hB hz1 hk1 hS => ?_)
      obtain ⟨hP1, hK1, hD1⟩ := hB
      rw [ht] at hP1
      obtain ⟨hP, hD⟩ := va_join (wr := (wm y b1 b2 b3 b4 b5 b6 b7 b8 b9 b10 cI cJ cZ th nD nR vs mac now o mt mw zs.length nv dl ec rt rv mk) ++ [(q, .inl (cJ, 1, .inr (.inl ou)))]) (w1 := (wr x a1 a2 a3 a4 a5 a6 a7 cI cJ nD nR dv r cap ti va ev ed ec ad ac now)) hP hD [0, 1, 2, 3, 4, 5, 6, 7] [8, 9, 10, 11, 12, 13, 14, 15, 16, 17, 18, 19] rfl rfl (by decide) (by decide) hk1 hFc hP1 hD1
      generalize H1 = H at hP hS ⊢
      have hP := hP.sub (ws' := (wlw x a1 a2 a3 a4 a5 a6 a7 y b1 b2 b3 b4 b5 b6 b7 b8 b9 b10 q cI cJ cZ nD nR dv r cap ti va ev ed ec ad ac now th vs mac now o mt mw zs.length nv dl ec rt rv mk ou)) [12, 13, 14, 15, 16, 17, 18, 19, 0, 1, 2, 3, 4, 5, 6, 7, 8, 9, 10, 11] rfl
      have hD := hD.sub (ws' := (wlw x a1 a2 a3 a4 a5 a6 a7 y b1 b2 b3 b4 b5 b6 b7 b8 b9 b10 q cI cJ cZ nD nR dv r cap ti va ev ed ec ad ac now th vs mac now o mt mw zs.length nv dl ec rt rv mk ou)) [12, 13, 14, 15, 16, 17, 18, 19, 0, 1, 2, 3, 4, 5, 6, 7, 8, 9, 10, 11] (by decide) rfl
      obtain rfl : v_2 = nI 1 := hw
      refine lv_istore (lv' := [(5, .int (nI 1)), (0, .ref b), (1, .ref x), (2, .ref y), (3, .ref q), (4, .int (nI i))]) hx hb dL_law_744 hl (by decide) rfl (fun ls hl => ?_)
      refine lv_aload_n hx hb dL_law_746 rfl (lv_at hl 3 rfl) ?_
      refine lv_aload_n hx hb dL_law_747 rfl (lv_at hl 1 rfl) ?_
      refine lv_iload hx hb dL_law_748 (lv_at hl 5 rfl) ?_
      refine lv_iconst (v := 1) hx hb dL_law_750 (by decide) ?_
      refine lv_iadd hx hb dL_law_751 ?_
      refine tp_i (y := nI (i + 1)) (nI_add i 1) ?_
      refine va_sld hx hb hX hbl hbA hS (vp_in_nI (show i + 1 < L by omega) (by omega)) dL_law_752 ?_
      refine tp_i (y := nI d) (by rw [nI_clamp (by omega)]; exact E_d0.symm) ?_
      refine lv_aload_n hx hb dL_law_753 rfl (lv_at hl 1 rfl) ?_
      refine lv_iload hx hb dL_law_754 (lv_at hl 5 rfl) ?_
      refine lv_iconst (v := 2) hx hb dL_law_756 (by decide) ?_
      refine lv_iadd hx hb dL_law_757 ?_
      refine tp_i (y := nI (i + 2)) (nI_add i 2) ?_
      refine va_sld hx hb hX hbl hbA hS (vp_in_nI (show i + 2 < L by omega) (by omega)) dL_law_758 ?_
      refine tp_i (y := nI k) (by rw [nI_clamp (by omega)]; exact E_j0.symm) ?_
      refine lv_aload_n hx hb dL_law_759 rfl (lv_at hl 1 rfl) ?_
      refine lv_iload hx hb dL_law_760 (lv_at hl 5 rfl) ?_
      refine lv_iconst (v := 3) hx hb dL_law_762 (by decide) ?_
      refine lv_iadd hx hb dL_law_763 ?_
      refine tp_i (y := nI (i + 3)) (nI_add i 3) ?_
      refine va_sld hx hb hX hbl hbA hS (vp_in_nI (show i + 3 < L by omega) (by omega)) dL_law_764 ?_
      refine tp_i (y := xs (i + 3)) (by rw [nI_clamp (by omega)]) ?_
      refine lv_if_eq (tgt := 772) hx hb dL_law_765 (by decide) (fun c_3 => ?_) (fun c_3 => ?_)
      · exact absurd c_3 hz
      · refine lv_iconst (v := 1) hx hb dL_law_768 (by decide) ?_
        refine lv_goto (tgt := 773) hx hb dL_law_769 (by decide) ?_
        have hPc := hP.sub (ws' := (wm y b1 b2 b3 b4 b5 b6 b7 b8 b9 b10 cI cJ cZ th nD nR vs mac now o mt mw zs.length nv dl ec rt rv mk)) [8, 9, 10, 11, 12, 13, 14, 15, 16, 17, 18] rfl
        have hDc := hD.sub (ws' := (wm y b1 b2 b3 b4 b5 b6 b7 b8 b9 b10 cI cJ cZ th nD nR vs mac now o mt mw zs.length nv dl ec rt rv mk)) [8, 9, 10, 11, 12, 13, 14, 15, 16, 17, 18] (by decide) rfl
        have hFc := va_free (wc := (wm y b1 b2 b3 b4 b5 b6 b7 b8 b9 b10 cI cJ cZ th nD nR vs mac now o mt mw zs.length nv dl ec rt rv mk)) hD hS hA [8, 9, 10, 11, 12, 13, 14, 15, 16, 17, 18] rfl
        refine va_calll (va_runV (As := [.int (nI d), .int (nI k), .int 1]) (rest := []) ⟨hx, hb, hml, hown, hall⟩ (m_at3 l dC dI y b1 b2 b3 b4 b5 b6 b7 b8 b9 b10 cI cJ cZ th nD nR vs mac now o mt mw nv dl ec rt rv mk zs H.size hIm hZ d hd k 1 hk (wrel_atn hR hd c3)) (cwV 3 hall gL_108 rfl rfl rfl (by decide +kernel) ⟨Nat.le_of_ble_eq_true rfl, Nat.le_of_ble_eq_true rfl⟩) ⟨xu_blind, va_recv hK hPc (ci := 1) (q0 := 0) rfl rfl, fun U hU hW => ⟨rfl, by rw [hU], by rw [hU]; exact hPc, va_K.moved hW.alike hK, hDc.weaken (fun _ _ _ _ => trivial)⟩⟩ rfl rfl hl.1 rfl (lv_room (Nat.le_of_ble_eq_true rfl)) dL_law_773 ⟨by show _ ≤ 601024; omega, by show _ ≤ 7293000; omega⟩) hS (fun q _ h => hFc q h) hFc (fun v_4 u9 t9 H1 locs ht hvm hw hB hz1 hk1 hS => ?_)
        obtain ⟨hP1, hK1, hD1⟩ := hB
        rw [ht] at hP1
        obtain ⟨hP, hD⟩ := va_join (wr := (wr x a1 a2 a3 a4 a5 a6 a7 cI cJ nD nR dv r cap ti va ev ed ec ad ac now) ++ [(q, .inl (cJ, 1, .inr (.inl ou)))]) (w1 := (wm y b1 b2 b3 b4 b5 b6 b7 b8 b9 b10 cI cJ cZ 1 nD nR vs mac now o mt mw zs.length nv dl ec rt rv mk)) hP hD [8, 9, 10, 11, 12, 13, 14, 15, 16, 17, 18] [0, 1, 2, 3, 4, 5, 6, 7, 19] rfl rfl (by decide) (by decide) hk1 hFc hP1 hD1
        generalize H1 = H at hP hS ⊢
        have hP := hP.sub (ws' := (wlw x a1 a2 a3 a4 a5 a6 a7 y b1 b2 b3 b4 b5 b6 b7 b8 b9 b10 q cI cJ cZ nD nR dv r cap ti va ev ed ec ad ac now 1 vs mac now o mt mw zs.length nv dl ec rt rv mk ou)) [0, 1, 2, 3, 4, 5, 6, 7, 9, 10, 11, 12, 13, 14, 15, 16, 17, 18, 19, 8] rfl
        have hD := hD.sub (ws' := (wlw x a1 a2 a3 a4 a5 a6 a7 y b1 b2 b3 b4 b5 b6 b7 b8 b9 b10 q cI cJ cZ nD nR dv r cap ti va ev ed ec ad ac now 1 vs mac now o mt mw zs.length nv dl ec rt rv mk ou)) [0, 1, 2, 3, 4, 5, 6, 7, 9, 10, 11, 12, 13, 14, 15, 16, 17, 18, 19, 8] (by decide) rfl
        refine lv_lstore (lv' := [(6, .long v_4), (5, .int (nI 1)), (0, .ref b), (1, .ref x), (2, .ref y), (3, .ref q), (4, .int (nI i))]) hx hb dL_law_776 hl (by decide) rfl (fun ls hl => ?_)
        refine lv_aload_n hx hb dL_law_778 rfl (lv_at hl 4 rfl) ?_
        have hPc := hP.sub (ws' := (wm y b1 b2 b3 b4 b5 b6 b7 b8 b9 b10 cI cJ cZ 1 nD nR vs mac now o mt mw zs.length nv dl ec rt rv mk)) [8, 9, 10, 11, 12, 13, 14, 15, 16, 17, 18] rfl
        refine vp_callSi (W.runV (As := []) (rest := []) ⟨hx, hb, hml, hown, hall⟩ (m_thrown l dC dI y b1 b2 b3 b4 b5 b6 b7 b8 b9 b10 cI cJ cZ 1 nD nR vs mac now o mt mw nv dl ec rt rv mk zs) (cwV 0 hall gL_65 rfl rfl rfl (by decide +kernel) ⟨Nat.le_of_ble_eq_true rfl, Nat.le_of_ble_eq_true rfl⟩) ⟨xr_blind, va_recv hK hPc (ci := 1) (q0 := 0) rfl rfl, fun U hU hW => ⟨rfl, by rw [hU]; exact hPc, va_K.moved hW.alike hK⟩⟩ rfl rfl hl.1 rfl (lv_room (Nat.le_of_ble_eq_true rfl)) dL_law_779 ⟨by show _ ≤ 601024; omega, by show _ ≤ 7293000; omega⟩) (fun v_5 hv_6 => ?_)
        obtain rfl : v_5 = nI 1 := hv_6
        refine lv_iload hx hb dL_law_782 (lv_at hl 1 rfl) ?_
        refine lv_icmp_eq (tgt := 789) hx hb dL_law_784 (by decide) (fun c_7 => ?_) (fun c_7 => ?_)
        · refine lv_iload hx hb dL_law_789 (lv_at hl 1 rfl) ?_
          refine lv_if_ne (tgt := 805) hx hb dL_law_791 (by decide) (fun c_8 => ?_) (fun c_8 => ?_)
          · refine lv_goto (tgt := 920) hx hb dL_law_805 (by decide) ?_
            refine W.widen (k := 20 + 2 * i + 2) (n := 70000 + 6 * i + 6 + G) (by omega) (by omega) ?_
            exact KK a3 a4 dv r cap ti va ev ed ec ad ac now 1 vs mac o mt mw zs nv dl rt rv mk ou G H locs hR hZ hG hP hD hS ls (lv_sub hl [2, 3, 4, 5, 6] rfl)
          · exact absurd c_8 (by decide)
        · exact absurd rfl c_7
  obtain ⟨k0, hf, hk0, hm1, hm2⟩ := wrel_at hR hZ hd c3
  refine lv_aload_n hx hb dL_law_713 rfl (lv_at hl 1 rfl) ?_
  refine lv_aload_n hx hb dL_law_714 rfl (lv_at hl 0 rfl) ?_
  refine lv_iload hx hb dL_law_715 (lv_at hl 4 rfl) ?_
  refine lv_iconst (v := 1) hx hb dL_law_717 (by decide) ?_
  refine lv_iadd hx hb dL_law_718 ?_
  refine tp_i (y := nI (i + 1)) (nI_add i 1) ?_
  refine va_sld hx hb hX hbl hbA hS (vp_in_nI (show i + 1 < L by omega) (by omega)) dL_law_719 ?_
  refine tp_i (y := nI d) (by rw [nI_clamp (by omega)]; exact E_d0.symm) ?_
  refine lv_aload_n hx hb dL_law_720 rfl (lv_at hl 0 rfl) ?_
  refine lv_iload hx hb dL_law_721 (lv_at hl 4 rfl) ?_
  refine lv_iconst (v := 2) hx hb dL_law_723 (by decide) ?_
  refine lv_iadd hx hb dL_law_724 ?_
  refine tp_i (y := nI (i + 2)) (nI_add i 2) ?_
  refine va_sld hx hb hX hbl hbA hS (vp_in_nI (show i + 2 < L by omega) (by omega)) dL_law_725 ?_
  refine tp_i (y := nI k) (by rw [nI_clamp (by omega)]; exact E_j0.symm) ?_
  refine lv_aload_n hx hb dL_law_726 rfl (lv_at hl 0 rfl) ?_
  refine lv_iload hx hb dL_law_727 (lv_at hl 4 rfl) ?_
  refine lv_iconst (v := 3) hx hb dL_law_729 (by decide) ?_
  refine lv_iadd hx hb dL_law_730 ?_
  refine tp_i (y := nI (i + 3)) (nI_add i 3) ?_
  refine va_sld hx hb hX hbl hbA hS (vp_in_nI (show i + 3 < L by omega) (by omega)) dL_law_731 ?_
  refine tp_i (y := xs (i + 3)) (by rw [nI_clamp (by omega)]) ?_
  refine lv_if_eq (tgt := 739) hx hb dL_law_732 (by decide) (fun c_1 => ?_) (fun c_1 => ?_)
  · exact absurd c_1 hz
  · refine lv_iconst (v := 1) hx hb dL_law_735 (by decide) ?_
    refine lv_goto (tgt := 740) hx hb dL_law_736 (by decide) ?_
    refine lv_aload_n hx hb dL_law_740 rfl (lv_at hl 3 rfl) ?_
    have hPc := hP.sub (ws' := (wr x a1 a2 a3 a4 a5 a6 a7 cI cJ nD nR dv r cap ti va ev ed ec ad ac now) ++ [(q, .inl (cJ, 1, .inr (.inl ou)))]) [0, 1, 2, 3, 4, 5, 6, 7, 19] rfl
    have hDc := hD.sub (ws' := (wr x a1 a2 a3 a4 a5 a6 a7 cI cJ nD nR dv r cap ti va ev ed ec ad ac now) ++ [(q, .inl (cJ, 1, .inr (.inl ou)))]) [0, 1, 2, 3, 4, 5, 6, 7, 19] (by decide) rfl
    have hKc := hK.sub (tys' := [(cI, .int), (cJ, .long)]) [0, 1] rfl
    have hFc := va_free (wc := (wr x a1 a2 a3 a4 a5 a6 a7 cI cJ nD nR dv r cap ti va ev ed ec ad ac now) ++ [(q, .inl (cJ, 1, .inr (.inl ou)))]) hD hS hA [0, 1, 2, 3, 4, 5, 6, 7, 19] rfl
    refine va_calli (xt_runSW (n := 5) (As := [.ref x, .int (nI d), .int (nI k), .int 1, .ref q]) (rest := []) ⟨hx, hb, hml, hown, hall⟩ (h_at0 l dC dI x a1 a2 a3 a4 a5 a6 a7 cI cJ nD nR dv r cap ti va ev ed ec ad ac now q ou H.size hI d k 1 hd c3) gL_105 rfl rfl rfl (by decide +kernel) ⟨Nat.le_of_ble_eq_true rfl, Nat.le_of_ble_eq_true rfl⟩ ⟨xu_blind, fun U hU hW => ⟨rfl, by rw [hU], by rw [hU]; exact hPc, va_K.moved hW.alike hKc, hDc.weaken (fun _ _ _ _ => trivial)⟩⟩ rfl rfl hl.1 rfl (lv_room (Nat.le_of_ble_eq_true rfl)) dL_law_741 ⟨by show _ ≤ 601024; omega, by show _ ≤ 7293000; omega⟩) hS (fun q _ h => hFc q h) hFc (fun v_2 u t9 H1 locs ht hvm hw hB hz1 hk1 hS => ?_)
    obtain ⟨hP1, hK1, hD1⟩ := hB
    rw [ht] at hP1
    obtain ⟨hP, hD⟩ := va_join (wr := (wm y b1 b2 b3 b4 b5 b6 b7 b8 b9 b10 cI cJ cZ th nD nR vs mac now o mt mw zs.length nv dl ec rt rv mk)) (w1 := (wr x a1 a2 a3 a4 a5 a6 a7 cI cJ nD nR dv r cap ti va ev ed ec ad ac now) ++ [(q, .inl (cJ, 1, .inr (.inl (vp_updL ou 0 (if (1 : Int32) = 0 then va (r d + k) else ti (r d + k))))))]) hP hD [0, 1, 2, 3, 4, 5, 6, 7, 19] [8, 9, 10, 11, 12, 13, 14, 15, 16, 17, 18] rfl rfl (by decide) (by decide) hk1 hFc hP1 hD1
    generalize H1 = H at hP hS ⊢
    have hP := hP.sub (ws' := (wlw x a1 a2 a3 a4 a5 a6 a7 y b1 b2 b3 b4 b5 b6 b7 b8 b9 b10 q cI cJ cZ nD nR dv r cap ti va ev ed ec ad ac now th vs mac now o mt mw zs.length nv dl ec rt rv mk (vp_updL ou 0 (if (1 : Int32) = 0 then va (r d + k) else ti (r d + k))))) [11, 12, 13, 14, 15, 16, 17, 18, 0, 1, 2, 3, 4, 5, 6, 7, 8, 9, 10, 19] rfl
    have hD := hD.sub (ws' := (wlw x a1 a2 a3 a4 a5 a6 a7 y b1 b2 b3 b4 b5 b6 b7 b8 b9 b10 q cI cJ cZ nD nR dv r cap ti va ev ed ec ad ac now th vs mac now o mt mw zs.length nv dl ec rt rv mk (vp_updL ou 0 (if (1 : Int32) = 0 then va (r d + k) else ti (r d + k))))) [11, 12, 13, 14, 15, 16, 17, 18, 0, 1, 2, 3, 4, 5, 6, 7, 8, 9, 10, 19] (by decide) rfl
    obtain rfl : v_2 = 0 := hw
    refine tp_i (y := nI 0) nI_0.symm ?_
    refine lv_istore (lv' := [(5, .int (nI 0)), (0, .ref b), (1, .ref x), (2, .ref y), (3, .ref q), (4, .int (nI i))]) hx hb dL_law_744 hl (by decide) rfl (fun ls hl => ?_)
    refine lv_aload_n hx hb dL_law_746 rfl (lv_at hl 3 rfl) ?_
    refine lv_aload_n hx hb dL_law_747 rfl (lv_at hl 1 rfl) ?_
    refine lv_iload hx hb dL_law_748 (lv_at hl 5 rfl) ?_
    refine lv_iconst (v := 1) hx hb dL_law_750 (by decide) ?_
    refine lv_iadd hx hb dL_law_751 ?_
    refine tp_i (y := nI (i + 1)) (nI_add i 1) ?_
    refine va_sld hx hb hX hbl hbA hS (vp_in_nI (show i + 1 < L by omega) (by omega)) dL_law_752 ?_
    refine tp_i (y := nI d) (by rw [nI_clamp (by omega)]; exact E_d0.symm) ?_
    refine lv_aload_n hx hb dL_law_753 rfl (lv_at hl 1 rfl) ?_
    refine lv_iload hx hb dL_law_754 (lv_at hl 5 rfl) ?_
    refine lv_iconst (v := 2) hx hb dL_law_756 (by decide) ?_
    refine lv_iadd hx hb dL_law_757 ?_
    refine tp_i (y := nI (i + 2)) (nI_add i 2) ?_
    refine va_sld hx hb hX hbl hbA hS (vp_in_nI (show i + 2 < L by omega) (by omega)) dL_law_758 ?_
    refine tp_i (y := nI k) (by rw [nI_clamp (by omega)]; exact E_j0.symm) ?_
    refine lv_aload_n hx hb dL_law_759 rfl (lv_at hl 1 rfl) ?_
    refine lv_iload hx hb dL_law_760 (lv_at hl 5 rfl) ?_
    refine lv_iconst (v := 3) hx hb dL_law_762 (by decide) ?_
    refine lv_iadd hx hb dL_law_763 ?_
    refine tp_i (y := nI (i + 3)) (nI_add i 3) ?_
    refine va_sld hx hb hX hbl hbA hS (vp_in_nI (show i + 3 < L by omega) (by omega)) dL_law_764 ?_
    refine tp_i (y := xs (i + 3)) (by rw [nI_clamp (by omega)]) ?_
    refine lv_if_eq (tgt := 772) hx hb dL_law_765 (by decide) (fun c_3 => ?_) (fun c_3 => ?_)
    · exact absurd c_3 hz
    · refine lv_iconst (v := 1) hx hb dL_law_768 (by decide) ?_
      refine lv_goto (tgt := 773) hx hb dL_law_769 (by decide) ?_
      have hPc := hP.sub (ws' := (wm y b1 b2 b3 b4 b5 b6 b7 b8 b9 b10 cI cJ cZ th nD nR vs mac now o mt mw zs.length nv dl ec rt rv mk)) [8, 9, 10, 11, 12, 13, 14, 15, 16, 17, 18] rfl
      have hDc := hD.sub (ws' := (wm y b1 b2 b3 b4 b5 b6 b7 b8 b9 b10 cI cJ cZ th nD nR vs mac now o mt mw zs.length nv dl ec rt rv mk)) [8, 9, 10, 11, 12, 13, 14, 15, 16, 17, 18] (by decide) rfl
      have hFc := va_free (wc := (wm y b1 b2 b3 b4 b5 b6 b7 b8 b9 b10 cI cJ cZ th nD nR vs mac now o mt mw zs.length nv dl ec rt rv mk)) hD hS hA [8, 9, 10, 11, 12, 13, 14, 15, 16, 17, 18] rfl
      refine va_calll (va_runV (As := [.int (nI d), .int (nI k), .int 1]) (rest := []) ⟨hx, hb, hml, hown, hall⟩ (m_at0 l dC dI y b1 b2 b3 b4 b5 b6 b7 b8 b9 b10 cI cJ cZ th nD nR vs mac now o mt mw nv dl ec rt rv mk zs H.size hIm hZ d hd k k0 1 hk hf hk0) (cwV 3 hall gL_108 rfl rfl rfl (by decide +kernel) ⟨Nat.le_of_ble_eq_true rfl, Nat.le_of_ble_eq_true rfl⟩) ⟨xu_blind, va_recv hK hPc (ci := 1) (q0 := 0) rfl rfl, fun U hU hW => ⟨rfl, by rw [hU], by rw [hU]; exact hPc, va_K.moved hW.alike hK, hDc.weaken (fun _ _ _ _ => trivial)⟩⟩ rfl rfl hl.1 rfl (lv_room (Nat.le_of_ble_eq_true rfl)) dL_law_773 ⟨by show _ ≤ 601024; omega, by show _ ≤ 7293000; omega⟩) hS (fun q _ h => hFc q h) hFc (fun v_4 u9 t9 H1 locs ht hvm hw hB hz1 hk1 hS => ?_)
      obtain ⟨hP1, hK1, hD1⟩ := hB
      rw [ht] at hP1
      obtain ⟨hP, hD⟩ := va_join (wr := (wr x a1 a2 a3 a4 a5 a6 a7 cI cJ nD nR dv r cap ti va ev ed ec ad ac now) ++ [(q, .inl (cJ, 1, .inr (.inl (vp_updL ou 0 (if (1 : Int32) = 0 then va (r d + k) else ti (r d + k))))))]) (w1 := (wm y b1 b2 b3 b4 b5 b6 b7 b8 b9 b10 cI cJ cZ 0 nD nR vs mac now o mt mw zs.length nv dl ec rt rv mk)) hP hD [8, 9, 10, 11, 12, 13, 14, 15, 16, 17, 18] [0, 1, 2, 3, 4, 5, 6, 7, 19] rfl rfl (by decide) (by decide) hk1 hFc hP1 hD1
      generalize H1 = H at hP hS ⊢
      have hP := hP.sub (ws' := (wlw x a1 a2 a3 a4 a5 a6 a7 y b1 b2 b3 b4 b5 b6 b7 b8 b9 b10 q cI cJ cZ nD nR dv r cap ti va ev ed ec ad ac now 0 vs mac now o mt mw zs.length nv dl ec rt rv mk (vp_updL ou 0 (if (1 : Int32) = 0 then va (r d + k) else ti (r d + k))))) [0, 1, 2, 3, 4, 5, 6, 7, 9, 10, 11, 12, 13, 14, 15, 16, 17, 18, 19, 8] rfl
      have hD := hD.sub (ws' := (wlw x a1 a2 a3 a4 a5 a6 a7 y b1 b2 b3 b4 b5 b6 b7 b8 b9 b10 q cI cJ cZ nD nR dv r cap ti va ev ed ec ad ac now 0 vs mac now o mt mw zs.length nv dl ec rt rv mk (vp_updL ou 0 (if (1 : Int32) = 0 then va (r d + k) else ti (r d + k))))) [0, 1, 2, 3, 4, 5, 6, 7, 9, 10, 11, 12, 13, 14, 15, 16, 17, 18, 19, 8] (by decide) rfl
      refine tp_l (y := if (1 : Int32) = 0 then va (r d + k) else ti (r d + k)) (hw.trans (by rw [hm1, hm2])) ?_
      refine lv_lstore (lv' := [(6, .long (if (1 : Int32) = 0 then va (r d + k) else ti (r d + k))), (5, .int (nI 0)), (0, .ref b), (1, .ref x), (2, .ref y), (3, .ref q), (4, .int (nI i))]) hx hb dL_law_776 hl (by decide) rfl (fun ls hl => ?_)
      refine lv_aload_n hx hb dL_law_778 rfl (lv_at hl 4 rfl) ?_
      have hPc := hP.sub (ws' := (wm y b1 b2 b3 b4 b5 b6 b7 b8 b9 b10 cI cJ cZ 0 nD nR vs mac now o mt mw zs.length nv dl ec rt rv mk)) [8, 9, 10, 11, 12, 13, 14, 15, 16, 17, 18] rfl
      refine vp_callSi (W.runV (As := []) (rest := []) ⟨hx, hb, hml, hown, hall⟩ (m_thrown l dC dI y b1 b2 b3 b4 b5 b6 b7 b8 b9 b10 cI cJ cZ 0 nD nR vs mac now o mt mw nv dl ec rt rv mk zs) (cwV 0 hall gL_65 rfl rfl rfl (by decide +kernel) ⟨Nat.le_of_ble_eq_true rfl, Nat.le_of_ble_eq_true rfl⟩) ⟨xr_blind, va_recv hK hPc (ci := 1) (q0 := 0) rfl rfl, fun U hU hW => ⟨rfl, by rw [hU]; exact hPc, va_K.moved hW.alike hK⟩⟩ rfl rfl hl.1 rfl (lv_room (Nat.le_of_ble_eq_true rfl)) dL_law_779 ⟨by show _ ≤ 601024; omega, by show _ ≤ 7293000; omega⟩) (fun v_5 hv_6 => ?_)
      obtain rfl : v_5 = nI 0 := hv_6
      refine lv_iload hx hb dL_law_782 (lv_at hl 1 rfl) ?_
      refine lv_icmp_eq (tgt := 789) hx hb dL_law_784 (by decide) (fun c_7 => ?_) (fun c_7 => ?_)
      · refine lv_iload hx hb dL_law_789 (lv_at hl 1 rfl) ?_
        refine lv_if_ne (tgt := 805) hx hb dL_law_791 (by decide) (fun c_8 => ?_) (fun c_8 => ?_)
        · exact absurd nI_0 c_8
        · refine lv_aload_n hx hb dL_law_794 rfl (lv_at hl 5 rfl) ?_
          refine lv_iconst (v := 0) hx hb dL_law_795 (by decide) ?_
          refine tp_i (y := nI 0) nI_0.symm ?_
          refine xa_lald hx hb hK hP 19 1 rfl rfl (Nat.lt_succ_self 0) (by omega) dL_law_796 ?_
          refine tp_l (y := if (1 : Int32) = 0 then va (r d + k) else ti (r d + k)) pk_uLs ?_
          refine lv_lload hx hb dL_law_797 (lv_at hl 0 rfl) ?_
          refine xl_eq (tgt := 805) hx hb dL_law_799 dL_law_800 (by decide) (fun c_9 => ?_) (fun c_9 => ?_)
          · refine lv_goto (tgt := 920) hx hb dL_law_805 (by decide) ?_
            refine W.widen (k := 20 + 2 * i + 2) (n := 70000 + 6 * i + 6 + G) (by omega) (by omega) ?_
            exact KK a3 a4 dv r cap ti va ev ed ec ad ac now 0 vs mac o mt mw zs nv dl rt rv mk (vp_updL ou 0 (if (1 : Int32) = 0 then va (r d + k) else ti (r d + k))) G H locs hR hZ hG hP hD hS ls (lv_sub hl [2, 3, 4, 5, 6] rfl)
          · exact absurd rfl c_9
      · exact absurd rfl c_7
