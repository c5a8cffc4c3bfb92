set_option maxHeartbeats 4000000 in
set_option maxRecDepth 100000 in
theorem c_rowLength (l : Launch) (dC : Nat → ClassId) (dI : Nat → Nat → Nat) (x a1 a2 a3 a4 a5 a6 a7 : Nat) (cI cJ : ClassId) (nD nR : Nat) (dv : Nat → Int64) (r : Nat → Nat) (cap : Nat) (ti va ev ed : Nat → Int64) (ec : Nat) (ad : Nat → Int32) (ac : Nat) (now : Int64) (hI : wf_R nD nR cap ec ac r) (d : Nat) (hd : d < nD) : Met l yX0_rowLength wsX0_rowLength ({ frames := 0, cells := 0, slots := 0, locals := 0 }) (va_Pc [.ref x, .int (nI d)] (fun U => va_P (dC, dI) vwCl (wr x a1 a2 a3 a4 a5 a6 a7 cI cJ nD nR dv r cap ti va ev ed ec ad ac now) U.heap ∧ va_K (dC, dI) vwCl [(cI, .int), (cJ, .long)] U)) (vp_Si (fun v => v = nI (r (d + 1) - r d))) 0 0 (fun _ => False) := by
  refine Met.ofW (cc := cX0_rowLength) (maxL := 2) (ret := (some .int)) (by decide) rfl ?_
  intro p e s m args below meth c s₁ B hml hv
  obtain ⟨rfl, hP, hK⟩ := hv
  have hx := B.exec
  have hb := B.bytes
  have hr := B.returns
  have hts := atoms_spec (ws := wsX0_rowLength) B.pre
  have hown : s.vm.findClass RX0 = some m.cls := findClass_of_methodNamed B.named
  have hlocks := B.notSynchronized
  have hall := fun (w : Cond) (h : w ∈ allw) => hts w (List.mem_cons_of_mem _ h)
  have hl := lv_entry ([.ref x, .int (nI d)]) (n := 2) (Nat.le_of_ble_eq_true rfl)
  rw [lg_entry_eq]
  generalize (lg_sl ([.ref x, .int (nI d)]) ++ List.replicate (2 - (lg_sl ([.ref x, .int (nI d)])).length) Slot.unset).toArray = ls at hl ⊢
  have hl : lv_has ls 2 [(0, .ref x), (1, .int (nI d))] := hl
  obtain ⟨hnD1, hnD, hnR1, hnR, hcap, hrc, hrR, hr0, hmo, hec, hac⟩ := hI
  refine lv_aload_n hx hb dX0_rowLength_0 rfl (lv_at hl 0 rfl) ?_
  refine va_get (D := (dC, dI)) (ci := 0) (v := .ref a2) (C := RX0) (T := TX0) (N := 12) hx hb hall inX0 hown hK hP 0 rfl rfl 3 (by decide) (hall _ kw_26) (fun _ h9 => h9) rfl dX0_rowLength_1 ?_
  refine lv_iload_n hx hb dX0_rowLength_4 rfl (lv_at hl 1 rfl) ?_
  refine lv_iconst (v := 1) hx hb dX0_rowLength_5 (by decide) ?_
  refine lv_iadd hx hb dX0_rowLength_6 ?_
  refine tp_i (y := nI (d + 1)) (nI_1 d) ?_
  refine xa_iald hx hb hK hP 2 0 rfl rfl (by omega) (by omega) dX0_rowLength_7 ?_
  refine lv_aload_n hx hb dX0_rowLength_8 rfl (lv_at hl 0 rfl) ?_
  refine va_get (D := (dC, dI)) (ci := 0) (v := .ref a2) (C := RX0) (T := TX0) (N := 12) hx hb hall inX0 hown hK hP 0 rfl rfl 3 (by decide) (hall _ kw_26) (fun _ h9 => h9) rfl dX0_rowLength_9 ?_
  refine lv_iload_n hx hb dX0_rowLength_12 rfl (lv_at hl 1 rfl) ?_
  refine xa_iald hx hb hK hP 2 0 rfl rfl (by omega) (by omega) dX0_rowLength_13 ?_
  refine lv_isub hx hb dX0_rowLength_14 ?_
  refine tp_i (y := nI (r (d + 1) - r d)) (pk_sub (hmo d hd)) ?_
  exact W.iret (v := nI (r (d + 1) - r d)) hx hb hr (fun t9 ht hW => ⟨nI (r (d + 1) - r d), rfl, rfl, ht⟩) (fun q hq => nomatch hq) dX0_rowLength_15
set_option maxHeartbeats 4000000 in
set_option maxRecDepth 100000 in
theorem c_firstBehind (l : Launch) (dC : Nat → ClassId) (dI : Nat → Nat → Nat) (x a1 a2 a3 a4 a5 a6 a7 : Nat) (cI cJ : ClassId) (nD nR : Nat) (dv : Nat → Int64) (r : Nat → Nat) (cap : Nat) (ti va ev ed : Nat → Int64) (ec : Nat) (ad : Nat → Int32) (ac : Nat) (now : Int64) (a b : Nat) (t : Int64) (hab : a ≤ b) (hbc : b ≤ cap) (hcap : cap ≤ 8192) : Met l yX0_firstBehind wsX0_firstBehind ({ frames := 0, cells := 0, slots := 0, locals := 0 }) (va_Pc [.ref x, .int (nI a), .int (nI b), .long t] (fun U => va_P (dC, dI) vwCl (wr x a1 a2 a3 a4 a5 a6 a7 cI cJ nD nR dv r cap ti va ev ed ec ad ac now) U.heap ∧ va_K (dC, dI) vwCl [(cI, .int), (cJ, .long)] U)) (vp_Si (fun v => v = nI (wf_fb ti t (b - a) a))) 0 0 (fun _ => False) := by
  refine Met.ofW (cc := cX0_firstBehind) (maxL := 6) (ret := (some .int)) (by decide) rfl ?_
  intro p e s m args below meth c s₁ B hml hv
  obtain ⟨rfl, hP, hK⟩ := hv
  have hx := B.exec
  have hb := B.bytes
  have hr := B.returns
  have hts := atoms_spec (ws := wsX0_firstBehind) B.pre
  have hown : s.vm.findClass RX0 = some m.cls := findClass_of_methodNamed B.named
  have hlocks := B.notSynchronized
  have hall := fun (w : Cond) (h : w ∈ allw) => hts w (List.mem_cons_of_mem _ h)
  have hl := lv_entry ([.ref x, .int (nI a), .int (nI b), .long t]) (n := 6) (Nat.le_of_ble_eq_true rfl)
  rw [lg_entry_eq]
  generalize (lg_sl ([.ref x, .int (nI a), .int (nI b), .long t]) ++ List.replicate (6 - (lg_sl ([.ref x, .int (nI a), .int (nI b), .long t])).length) Slot.unset).toArray = ls at hl ⊢
  have hl : lv_has ls 6 [(0, .ref x), (1, .int (nI a)), (2, .int (nI b)), (3, .long t)] := hl
  refine lv_iload_n hx hb dX0_firstBehind_0 rfl (lv_at hl 1 rfl) ?_
  refine lv_istore (lv' := [(5, .int (nI a)), (0, .ref x), (1, .int (nI a)), (2, .int (nI b)), (3, .long t)]) hx hb dX0_firstBehind_1 hl (by decide) rfl (fun ls hl => ?_)
  have hloop : ∀ (n k : Nat) (ls : Array Slot), k + n = b → wf_fb ti t n k = wf_fb ti t (b - a) a → lv_has ls 6 [(0, .ref x), (2, .int (nI b)), (3, .long t), (5, .int (nI k))] → W p l e (headSpec wsX0_firstBehind ({ frames := 0, cells := 0, slots := 0, locals := 0 })).room s m (([.ref x, .int (nI a), .int (nI b), .long t] : List Value).toArray) below meth c s.heap [] 0 0 (MQ below (vp_Si (fun v => v = nI (wf_fb ti t (b - a) a))) (([.ref x, .int (nI a), .int (nI b), .long t] : List Value).toArray) s 0 0 (fun _ => False)) (F0 m 3 ls []) := by
    intro n
    induction n with
    | zero =>
      intro k ls hk hw hl
      refine lv_iload hx hb dX0_firstBehind_3 (lv_at hl 3 rfl) ?_
      refine lv_iload_n hx hb dX0_firstBehind_5 rfl (lv_at hl 1 rfl) ?_
      refine xc_ge (tgt := 27) hx hb (by omega) (by omega) dX0_firstBehind_6 (by decide) (fun c_1 => ?_) (fun c_1 => ?_)
      · refine lv_iload hx hb dX0_firstBehind_27 (lv_at hl 3 rfl) ?_
        exact W.iret (v := nI k) hx hb hr (fun t9 ht hW => ⟨nI k, rfl, by rw [← hw]; rfl, ht⟩) (fun q hq => nomatch hq) dX0_firstBehind_29
      · exact absurd c_1 (by omega)
    | succ n ih =>
      intro k ls hk hw hl
      refine lv_iload hx hb dX0_firstBehind_3 (lv_at hl 3 rfl) ?_
      refine lv_iload_n hx hb dX0_firstBehind_5 rfl (lv_at hl 1 rfl) ?_
      refine xc_ge (tgt := 27) hx hb (by omega) (by omega) dX0_firstBehind_6 (by decide) (fun c_2 => ?_) (fun c_2 => ?_)
      · exact absurd c_2 (by omega)
      · refine lv_aload_n hx hb dX0_firstBehind_9 rfl (lv_at hl 0 rfl) ?_
        refine va_get (D := (dC, dI)) (ci := 0) (v := .ref a3) (C := RX0) (T := TX0) (N := 12) hx hb hall inX0 hown hK hP 0 rfl rfl 4 (by decide) (hall _ kw_27) (fun _ h9 => h9) rfl dX0_firstBehind_10 ?_
        refine lv_iload hx hb dX0_firstBehind_13 (lv_at hl 3 rfl) ?_
        refine xa_lald hx hb hK hP 3 1 rfl rfl (by omega) (by omega) dX0_firstBehind_15 ?_
        refine lv_lload_n hx hb dX0_firstBehind_16 rfl (lv_at hl 2 rfl) ?_
        refine xl_gt (tgt := 27) hx hb dX0_firstBehind_17 dX0_firstBehind_18 (by decide) (fun c_3 => ?_) (fun c_3 => ?_)
        · have c_L := c_3
          refine lv_iload hx hb dX0_firstBehind_27 (lv_at hl 3 rfl) ?_
          exact W.iret (v := nI k) hx hb hr (fun t9 ht hW => ⟨nI k, rfl, by rw [← hw]; exact (congrArg nI (if_neg (Int64.not_le.mpr c_L))).symm, ht⟩) (fun q hq => nomatch hq) dX0_firstBehind_29
        · have c_L := c_3
          refine lv_iinc (v := nI (k + 1)) (lv' := [(5, .int (nI (k + 1))), (0, .ref x), (2, .int (nI b)), (3, .long t)]) hx hb dX0_firstBehind_21 hl (k := 3) rfl (nI_1 k) (by decide) rfl (fun ls hl => ?_)
          refine lv_goto (tgt := 3) hx hb dX0_firstBehind_24 (by decide) ?_
          exact ih (k + 1) ls (by omega) (by rw [← hw]; exact (if_pos (Int64.not_lt.mp c_L)).symm) (lv_sub hl [1, 2, 3, 0] rfl)
  exact hloop (b - a) a ls (by omega) rfl (lv_sub hl [1, 3, 4, 0] rfl)
set_option maxHeartbeats 4000000 in
set_option maxRecDepth 100000 in
theorem c_startOfSameValues (l : Launch) (dC : Nat → ClassId) (dI : Nat → Nat → Nat) (x a1 a2 a3 a4 a5 a6 a7 : Nat) (cI cJ : ClassId) (nD nR : Nat) (dv : Nat → Int64) (r : Nat → Nat) (cap : Nat) (ti va ev ed : Nat → Int64) (ec : Nat) (ad : Nat → Int32) (ac : Nat) (now : Int64) (a b : Nat) (v0 : Int64) (hab : a ≤ b) (hbc : b ≤ cap) (hcap : cap ≤ 8192) : Met l yX0_startOfSameValues wsX0_startOfSameValues ({ frames := 0, cells := 0, slots := 0, locals := 0 }) (va_Pc [.ref x, .int (nI a), .int (nI b), .long v0] (fun U => va_P (dC, dI) vwCl (wr x a1 a2 a3 a4 a5 a6 a7 cI cJ nD nR dv r cap ti va ev ed ec ad ac now) U.heap ∧ va_K (dC, dI) vwCl [(cI, .int), (cJ, .long)] U)) (vp_Si (fun v => v = nI (wf_ss va v0 a (b - a)))) 0 0 (fun _ => False) := by
  refine Met.ofW (cc := cX0_startOfSameValues) (maxL := 6) (ret := (some .int)) (by decide) rfl ?_
  intro p e s m args below meth c s₁ B hml hv
  obtain ⟨rfl, hP, hK⟩ := hv
  have hx := B.exec
  have hb := B.bytes
  have hr := B.returns
  have hts := atoms_spec (ws := wsX0_startOfSameValues) B.pre
  have hown : s.vm.findClass RX0 = some m.cls := findClass_of_methodNamed B.named
  have hlocks := B.notSynchronized
  have hall := fun (w : Cond) (h : w ∈ allw) => hts w (List.mem_cons_of_mem _ h)
  have hl := lv_entry ([.ref x, .int (nI a), .int (nI b), .long v0]) (n := 6) (Nat.le_of_ble_eq_true rfl)
  rw [lg_entry_eq]
  generalize (lg_sl ([.ref x, .int (nI a), .int (nI b), .long v0]) ++ List.replicate (6 - (lg_sl ([.ref x, .int (nI a), .int (nI b), .long v0])).length) Slot.unset).toArray = ls at hl ⊢
  have hl : lv_has ls 6 [(0, .ref x), (1, .int (nI a)), (2, .int (nI b)), (3, .long v0)] := hl
  refine lv_iload_n hx hb dX0_startOfSameValues_0 rfl (lv_at hl 2 rfl) ?_
  refine lv_istore (lv' := [(5, .int (nI b)), (0, .ref x), (1, .int (nI a)), (2, .int (nI b)), (3, .long v0)]) hx hb dX0_startOfSameValues_1 hl (by decide) rfl (fun ls hl => ?_)
  have hloop : ∀ (n k : Nat) (ls : Array Slot), a + n = k → k ≤ b → wf_ss va v0 a n = wf_ss va v0 a (b - a) → lv_has ls 6 [(0, .ref x), (1, .int (nI a)), (3, .long v0), (5, .int (nI k))] → W p l e (headSpec wsX0_startOfSameValues ({ frames := 0, cells := 0, slots := 0, locals := 0 })).room s m (([.ref x, .int (nI a), .int (nI b), .long v0] : List Value).toArray) below meth c s.heap [] 0 0 (MQ below (vp_Si (fun v => v = nI (wf_ss va v0 a (b - a)))) (([.ref x, .int (nI a), .int (nI b), .long v0] : List Value).toArray) s 0 0 (fun _ => False)) (F0 m 3 ls []) := by
    intro n
    induction n with
    | zero =>
      intro k ls hk hkb hw hl
      refine lv_iload hx hb dX0_startOfSameValues_3 (lv_at hl 3 rfl) ?_
      refine lv_iload_n hx hb dX0_startOfSameValues_5 rfl (lv_at hl 1 rfl) ?_
      refine xc_le (tgt := 29) hx hb (by omega) (by omega) dX0_startOfSameValues_6 (by decide) (fun c_1 => ?_) (fun c_1 => ?_)
      · refine lv_iload hx hb dX0_startOfSameValues_29 (lv_at hl 3 rfl) ?_
        exact W.iret (v := nI k) hx hb hr (fun t9 ht hW => ⟨nI k, rfl, by rw [← hw, ← hk]; rfl, ht⟩) (fun q hq => nomatch hq) dX0_startOfSameValues_31
      · exact absurd c_1 (by omega)
    | succ n ih =>
      intro k ls hk hkb hw hl
      refine lv_iload hx hb dX0_startOfSameValues_3 (lv_at hl 3 rfl) ?_
      refine lv_iload_n hx hb dX0_startOfSameValues_5 rfl (lv_at hl 1 rfl) ?_
      refine xc_le (tgt := 29) hx hb (by omega) (by omega) dX0_startOfSameValues_6 (by decide) (fun c_2 => ?_) (fun c_2 => ?_)
      · exact absurd c_2 (by omega)
      · refine lv_aload_n hx hb dX0_startOfSameValues_9 rfl (lv_at hl 0 rfl) ?_
        refine va_get (D := (dC, dI)) (ci := 0) (v := .ref a4) (C := RX0) (T := TX0) (N := 12) hx hb hall inX0 hown hK hP 0 rfl rfl 5 (by decide) (hall _ kw_28) (fun _ h9 => h9) rfl dX0_startOfSameValues_10 ?_
        refine lv_iload hx hb dX0_startOfSameValues_13 (lv_at hl 3 rfl) ?_
        refine lv_iconst (v := 1) hx hb dX0_startOfSameValues_15 (by decide) ?_
        refine lv_isub hx hb dX0_startOfSameValues_16 ?_
        refine tp_i (y := nI (a + n)) (by rw [← hk]; exact nI_pred (a + n)) ?_
        refine xa_lald hx hb hK hP 4 1 rfl rfl (by omega) (by omega) dX0_startOfSameValues_17 ?_
        refine lv_lload_n hx hb dX0_startOfSameValues_18 rfl (lv_at hl 2 rfl) ?_
        refine xl_ne (tgt := 29) hx hb dX0_startOfSameValues_19 dX0_startOfSameValues_20 (by decide) (fun c_3 => ?_) (fun c_3 => ?_)
        · have c_L := c_3
          refine lv_iload hx hb dX0_startOfSameValues_29 (lv_at hl 3 rfl) ?_
          exact W.iret (v := nI k) hx hb hr (fun t9 ht hW => ⟨nI k, rfl, by rw [← hw, ← hk]; exact (congrArg nI (if_neg c_L)).symm, ht⟩) (fun q hq => nomatch hq) dX0_startOfSameValues_31
        · have c_L := c_3
          refine lv_iinc (v := nI (a + n)) (lv' := [(5, .int (nI (a + n))), (0, .ref x), (1, .int (nI a)), (3, .long v0)]) hx hb dX0_startOfSameValues_23 hl (k := 3) rfl (by rw [← hk, show Int32.ofInt (-1) = (-1 : Int32) from by decide]; exact pk_m1 (a + n)) (by decide) rfl (fun ls hl => ?_)
          refine lv_goto (tgt := 3) hx hb dX0_startOfSameValues_26 (by decide) ?_
          exact ih (a + n) ls rfl (by omega) (by rw [← hw]; exact (if_pos c_L).symm) (lv_sub hl [1, 2, 3, 0] rfl)
  exact hloop (b - a) b ls (by omega) (Nat.le_refl b) rfl (lv_sub hl [1, 2, 4, 0] rfl)
set_option maxHeartbeats 4000000 in
set_option maxRecDepth 100000 in
theorem c_requireDriver (l : Launch) (dC : Nat → ClassId) (dI : Nat → Nat → Nat) (x a1 a2 a3 a4 a5 a6 a7 : Nat) (cI cJ : ClassId) (nD nR : Nat) (dv : Nat → Int64) (r : Nat → Nat) (cap : Nat) (ti va ev ed : Nat → Int64) (ec : Nat) (ad : Nat → Int32) (ac : Nat) (now : Int64) (hI : wf_R nD nR cap ec ac r) (d : Nat) (hd : d < nD) : Met l yX0_requireDriver wsX0_requireDriver ({ frames := 0, cells := 0, slots := 0, locals := 0 }) (va_Pc [.ref x, .int (nI d)] (fun U => va_P (dC, dI) vwCl (wr x a1 a2 a3 a4 a5 a6 a7 cI cJ nD nR dv r cap ti va ev ed ec ad ac now) U.heap ∧ va_K (dC, dI) vwCl [(cI, .int), (cJ, .long)] U)) (xv_S (True)) 0 0 (fun _ => False) := by
  refine Met.ofW (cc := cX0_requireDriver) (maxL := 2) (ret := none) (by decide) rfl ?_
  intro p e s m args below meth c s₁ B hml hv
  obtain ⟨rfl, hP, hK⟩ := hv
  have hx := B.exec
  have hb := B.bytes
  have hr := B.returns
  have hts := atoms_spec (ws := wsX0_requireDriver) B.pre
  have hown : s.vm.findClass RX0 = some m.cls := findClass_of_methodNamed B.named
  have hlocks := B.notSynchronized
  have hall := fun (w : Cond) (h : w ∈ allw) => hts w (List.mem_cons_of_mem _ h)
  have hl := lv_entry ([.ref x, .int (nI d)]) (n := 2) (Nat.le_of_ble_eq_true rfl)
  rw [lg_entry_eq]
  generalize (lg_sl ([.ref x, .int (nI d)]) ++ List.replicate (2 - (lg_sl ([.ref x, .int (nI d)])).length) Slot.unset).toArray = ls at hl ⊢
  have hl : lv_has ls 2 [(0, .ref x), (1, .int (nI d))] := hl
  obtain ⟨hnD1, hnD, hnR1, hnR, hcap, hrc, hrR, hr0, hmo, hec, hac⟩ := hI
  refine lv_iload_n hx hb dX0_requireDriver_0 rfl (lv_at hl 1 rfl) ?_
  refine lv_if_lt (tgt := 12) hx hb dX0_requireDriver_1 (by decide) (fun c_1 => ?_) (fun c_1 => ?_)
  · exact absurd c_1 (nI_pos (by omega))
  · refine lv_iload_n hx hb dX0_requireDriver_4 rfl (lv_at hl 1 rfl) ?_
    refine lv_aload_n hx hb dX0_requireDriver_5 rfl (lv_at hl 0 rfl) ?_
    refine va_get (D := (dC, dI)) (ci := 0) (v := .int (nI nD)) (C := RX0) (T := TX0) (N := 12) hx hb hall inX0 hown hK hP 0 rfl rfl 0 (by decide) (hall _ kw_23) (fun _ h9 => h9) rfl dX0_requireDriver_6 ?_
    refine xc_lt (tgt := 22) hx hb (by omega) (by omega) dX0_requireDriver_9 (by decide) (fun c_2 => ?_) (fun c_2 => ?_)
    · exact W.vret hx hb hr (fun t9 ht hW => ⟨rfl, trivial, ht⟩) (fun q hq => nomatch hq) dX0_requireDriver_22
    · exact absurd c_2 (by omega)
set_option maxHeartbeats 4000000 in
set_option maxRecDepth 100000 in
theorem x_requireDriver (l : Launch) (dC : Nat → ClassId) (dI : Nat → Nat → Nat) (x a1 a2 a3 a4 a5 a6 a7 : Nat) (cI cJ : ClassId) (nD nR : Nat) (dv : Nat → Int64) (r : Nat → Nat) (cap : Nat) (ti va ev ed : Nat → Int64) (ec : Nat) (ad : Nat → Int32) (ac : Nat) (now : Int64) (hst : l.stackTraces = false) (i : Int32) (hbad : i < 0 ∨ nI nD ≤ i) : xt_Met l yX0_requireDriver wsX0_requireDriver ({ frames := 6, cells := 1, slots := 6, locals := 82 }) (va_Pc [.ref x, .int i] (fun U => va_P (dC, dI) vwCl (wr x a1 a2 a3 a4 a5 a6 a7 cI cJ nD nR dv r cap ti va ev ed ec ad ac now) U.heap ∧ va_K (dC, dI) vwCl [(cI, .int), (cJ, .long)] U ∧ xt_ok U)) "java/lang/IndexOutOfBoundsException" := by
  refine xt_ofW (cc := cX0_requireDriver) (maxL := 2) (ret := none) (by decide) rfl ?_
  intro p e s m args below meth c s₁ B hml hout hv
  obtain ⟨rfl, hP, hK, hok⟩ := hv
  have hx := B.exec
  have hb := B.bytes
  have hr := B.returns
  have hts := atoms_spec (ws := wsX0_requireDriver) B.pre
  have hown : s.vm.findClass RX0 = some m.cls := findClass_of_methodNamed B.named
  have hlocks := B.notSynchronized
  have hall := fun (w : Cond) (h : w ∈ allw) => hts w (List.mem_cons_of_mem _ h)
  have hl := lv_entry ([.ref x, .int i]) (n := 2) (Nat.le_of_ble_eq_true rfl)
  rw [lg_entry_eq]
  generalize (lg_sl ([.ref x, .int i]) ++ List.replicate (2 - (lg_sl ([.ref x, .int i])).length) Slot.unset).toArray = ls at hl ⊢
  have hl : lv_has ls 2 [(0, .ref x), (1, .int i)] := hl
  refine lv_iload_n hx hb dX0_requireDriver_0 rfl (lv_at hl 1 rfl) ?_
  refine lv_if_lt (tgt := 12) hx hb dX0_requireDriver_1 (by decide) (fun c_1 => ?_) (fun c_1 => ?_)
  · obtain ⟨sa, hsa⟩ := hok.2 (127, "there is no such driver") (by decide)
    exact xt_throw (own := RX0) (cls := "java/lang/IndexOutOfBoundsException") (text := "there is no such driver") (names := xt_rt) (ik := 120) (is := 127) (ic := 124) hx hb hst hown (by decide) (by decide) (xt_at hok _ (by decide +kernel)) (xt_at hok _ (by decide +kernel)) hsa (fun w hw => xt_at hok w (xt_in3 w hw)) (hl.1.trans hml.symm) dX0_requireDriver_12 dX0_requireDriver_15 dX0_requireDriver_16 dX0_requireDriver_18 dX0_requireDriver_21 hout (by decide) (by decide) (by decide) (by decide) hlocks
  · refine lv_iload_n hx hb dX0_requireDriver_4 rfl (lv_at hl 1 rfl) ?_
    refine lv_aload_n hx hb dX0_requireDriver_5 rfl (lv_at hl 0 rfl) ?_
    refine va_get (D := (dC, dI)) (ci := 0) (v := .int (nI nD)) (C := RX0) (T := TX0) (N := 12) hx hb hall inX0 hown hK hP 0 rfl rfl 0 (by decide) (hall _ kw_23) (fun _ h9 => h9) rfl dX0_requireDriver_6 ?_
    refine lv_icmp_lt (tgt := 22) hx hb dX0_requireDriver_9 (by decide) (fun c_2 => ?_) (fun c_2 => ?_)
    · exact absurd hbad (fun q => q.elim c_1 (fun q => absurd c_2 (Int32.not_lt.mpr q)))
    · obtain ⟨sa, hsa⟩ := hok.2 (127, "there is no such driver") (by decide)
      exact xt_throw (own := RX0) (cls := "java/lang/IndexOutOfBoundsException") (text := "there is no such driver") (names := xt_rt) (ik := 120) (is := 127) (ic := 124) hx hb hst hown (by decide) (by decide) (xt_at hok _ (by decide +kernel)) (xt_at hok _ (by decide +kernel)) hsa (fun w hw => xt_at hok w (xt_in3 w hw)) (hl.1.trans hml.symm) dX0_requireDriver_12 dX0_requireDriver_15 dX0_requireDriver_16 dX0_requireDriver_18 dX0_requireDriver_21 hout (by decide) (by decide) (by decide) (by decide) hlocks
set_option maxHeartbeats 4000000 in
set_option maxRecDepth 100000 in
theorem c_now (l : Launch) (dC : Nat → ClassId) (dI : Nat → Nat → Nat) (x a1 a2 a3 a4 a5 a6 a7 : Nat) (cI cJ : ClassId) (nD nR : Nat) (dv : Nat → Int64) (r : Nat → Nat) (cap : Nat) (ti va ev ed : Nat → Int64) (ec : Nat) (ad : Nat → Int32) (ac : Nat) (now : Int64)  : Met l yX0_now wsX0_now ({ frames := 0, cells := 0, slots := 0, locals := 0 }) (va_Pc [.ref x] (fun U => va_P (dC, dI) vwCl (wr x a1 a2 a3 a4 a5 a6 a7 cI cJ nD nR dv r cap ti va ev ed ec ad ac now) U.heap ∧ va_K (dC, dI) vwCl [(cI, .int), (cJ, .long)] U)) (vp_Sl (fun v => v = now)) 0 0 (fun _ => False) := by
  refine Met.ofW (cc := cX0_now) (maxL := 1) (ret := (some .long)) (by decide) rfl ?_
  intro p e s m args below meth c s₁ B hml hv
  obtain ⟨rfl, hP, hK⟩ := hv
  have hx := B.exec
  have hb := B.bytes
  have hr := B.returns
  have hts := atoms_spec (ws := wsX0_now) B.pre
  have hown : s.vm.findClass RX0 = some m.cls := findClass_of_methodNamed B.named
  have hlocks := B.notSynchronized
  have hall := fun (w : Cond) (h : w ∈ allw) => hts w (List.mem_cons_of_mem _ h)
  have hl := lv_entry ([.ref x]) (n := 1) (Nat.le_of_ble_eq_true rfl)
  rw [lg_entry_eq]
  generalize (lg_sl ([.ref x]) ++ List.replicate (1 - (lg_sl ([.ref x])).length) Slot.unset).toArray = ls at hl ⊢
  have hl : lv_has ls 1 [(0, .ref x)] := hl
  refine lv_aload_n hx hb dX0_now_0 rfl (lv_at hl 0 rfl) ?_
  refine va_get (D := (dC, dI)) (ci := 0) (v := .long now) (C := RX0) (T := TX0) (N := 12) hx hb hall inX0 hown hK hP 0 rfl rfl 11 (by decide) (hall _ kw_34) (fun _ h9 => h9) rfl dX0_now_1 ?_
  exact W.lret (v := now) hx hb hr (fun t9 ht hW => ⟨now, rfl, rfl, ht⟩) (fun q hq => nomatch hq) dX0_now_4
set_option maxHeartbeats 4000000 in
set_option maxRecDepth 100000 in
theorem c_total (l : Launch) (dC : Nat → ClassId) (dI : Nat → Nat → Nat) (x a1 a2 a3 a4 a5 a6 a7 : Nat) (cI cJ : ClassId) (nD nR : Nat) (dv : Nat → Int64) (r : Nat → Nat) (cap : Nat) (ti va ev ed : Nat → Int64) (ec : Nat) (ad : Nat → Int32) (ac : Nat) (now : Int64) (hI : wf_R nD nR cap ec ac r) : Met l yX0_total wsX0_total ({ frames := 0, cells := 0, slots := 0, locals := 0 }) (va_Pc [.ref x] (fun U => va_P (dC, dI) vwCl (wr x a1 a2 a3 a4 a5 a6 a7 cI cJ nD nR dv r cap ti va ev ed ec ad ac now) U.heap ∧ va_K (dC, dI) vwCl [(cI, .int), (cJ, .long)] U)) (vp_Si (fun v => v = nI (r nD))) 0 0 (fun _ => False) := by
  refine Met.ofW (cc := cX0_total) (maxL := 1) (ret := (some .int)) (by decide) rfl ?_
  intro p e s m args below meth c s₁ B hml hv
  obtain ⟨rfl, hP, hK⟩ := hv
  have hx := B.exec
  have hb := B.bytes
  have hr := B.returns
  have hts := atoms_spec (ws := wsX0_total) B.pre
  have hown : s.vm.findClass RX0 = some m.cls := findClass_of_methodNamed B.named
  have hlocks := B.notSynchronized
  have hall := fun (w : Cond) (h : w ∈ allw) => hts w (List.mem_cons_of_mem _ h)
  have hl := lv_entry ([.ref x]) (n := 1) (Nat.le_of_ble_eq_true rfl)
  rw [lg_entry_eq]
  generalize (lg_sl ([.ref x]) ++ List.replicate (1 - (lg_sl ([.ref x])).length) Slot.unset).toArray = ls at hl ⊢
  have hl : lv_has ls 1 [(0, .ref x)] := hl
  obtain ⟨hnD1, hnD, hnR1, hnR, hcap, hrc, hrR, hr0, hmo, hec, hac⟩ := hI
  refine lv_aload_n hx hb dX0_total_0 rfl (lv_at hl 0 rfl) ?_
  refine va_get (D := (dC, dI)) (ci := 0) (v := .ref a2) (C := RX0) (T := TX0) (N := 12) hx hb hall inX0 hown hK hP 0 rfl rfl 3 (by decide) (hall _ kw_26) (fun _ h9 => h9) rfl dX0_total_1 ?_
  refine lv_aload_n hx hb dX0_total_4 rfl (lv_at hl 0 rfl) ?_
  refine va_get (D := (dC, dI)) (ci := 0) (v := .int (nI nD)) (C := RX0) (T := TX0) (N := 12) hx hb hall inX0 hown hK hP 0 rfl rfl 0 (by decide) (hall _ kw_23) (fun _ h9 => h9) rfl dX0_total_5 ?_
  refine xa_iald hx hb hK hP 2 0 rfl rfl (by omega) (by omega) dX0_total_8 ?_
  exact W.iret (v := nI (r nD)) hx hb hr (fun t9 ht hW => ⟨nI (r nD), rfl, rfl, ht⟩) (fun q hq => nomatch hq) dX0_total_9
set_option maxHeartbeats 4000000 in
set_option maxRecDepth 100000 in
theorem c_active (l : Launch) (dC : Nat → ClassId) (dI : Nat → Nat → Nat) (x a1 a2 a3 a4 a5 a6 a7 : Nat) (cI cJ : ClassId) (nD nR : Nat) (dv : Nat → Int64) (r : Nat → Nat) (cap : Nat) (ti va ev ed : Nat → Int64) (ec : Nat) (ad : Nat → Int32) (ac : Nat) (now : Int64) (hI : wf_R nD nR cap ec ac r) (i : Int32) : Met l yX0_active wsX0_active ({ frames := 0, cells := 0, slots := 0, locals := 0 }) (va_Pc [.ref x, .int i] (fun U => va_P (dC, dI) vwCl (wr x a1 a2 a3 a4 a5 a6 a7 cI cJ nD nR dv r cap ti va ev ed ec ad ac now) U.heap ∧ va_K (dC, dI) vwCl [(cI, .int), (cJ, .long)] U)) (vp_Si (fun v => v = wf_act ad ac i)) 0 0 (fun _ => False) := by
  refine Met.ofW (cc := cX0_active) (maxL := 2) (ret := (some .int)) (by decide) rfl ?_
  intro p e s m args below meth c s₁ B hml hv
  obtain ⟨rfl, hP, hK⟩ := hv
  have hx := B.exec
  have hb := B.bytes
  have hr := B.returns
  have hts := atoms_spec (ws := wsX0_active) B.pre
  have hown : s.vm.findClass RX0 = some m.cls := findClass_of_methodNamed B.named
  have hlocks := B.notSynchronized
  have hall := fun (w : Cond) (h : w ∈ allw) => hts w (List.mem_cons_of_mem _ h)
  have hl := lv_entry ([.ref x, .int i]) (n := 2) (Nat.le_of_ble_eq_true rfl)
  rw [lg_entry_eq]
  generalize (lg_sl ([.ref x, .int i]) ++ List.replicate (2 - (lg_sl ([.ref x, .int i])).length) Slot.unset).toArray = ls at hl ⊢
  have hl : lv_has ls 2 [(0, .ref x), (1, .int i)] := hl
  obtain ⟨hnD1, hnD, hnR1, hnR, hcap, hrc, hrR, hr0, hmo, hec, hac⟩ := hI
  refine lv_iload_n hx hb dX0_active_0 rfl (lv_at hl 1 rfl) ?_
  refine lv_if_lt (tgt := 21) hx hb dX0_active_1 (by decide) (fun c_1 => ?_) (fun c_1 => ?_)
  · have c_A := c_1
    refine lv_iconst (v := (-1)) hx hb dX0_active_21 (by decide) ?_
    exact W.iret (v := (-1)) hx hb hr (fun t9 ht hW => ⟨(-1), rfl, by unfold wf_act; exact (if_neg (fun q => by first | exact q.1 c_A | exact q.2 c_B)).symm, ht⟩) (fun q hq => nomatch hq) dX0_active_22
  · have c_A := c_1
    refine lv_iload_n hx hb dX0_active_4 rfl (lv_at hl 1 rfl) ?_
    refine lv_aload_n hx hb dX0_active_5 rfl (lv_at hl 0 rfl) ?_
    refine va_get (D := (dC, dI)) (ci := 0) (v := .int (nI ac)) (C := RX0) (T := TX0) (N := 12) hx hb hall inX0 hown hK hP 0 rfl rfl 10 (by decide) (hall _ kw_33) (fun _ h9 => h9) rfl dX0_active_6 ?_
    refine lv_icmp_ge (tgt := 21) hx hb dX0_active_9 (by decide) (fun c_2 => ?_) (fun c_2 => ?_)
    · have c_B := c_2
      refine lv_iconst (v := (-1)) hx hb dX0_active_21 (by decide) ?_
      exact W.iret (v := (-1)) hx hb hr (fun t9 ht hW => ⟨(-1), rfl, by unfold wf_act; exact (if_neg (fun q => by first | exact q.1 c_A | exact q.2 c_B)).symm, ht⟩) (fun q hq => nomatch hq) dX0_active_22
    · have c_B := c_2
      obtain ⟨j, hj, hij, -, -, -⟩ := pk_mu c_A c_B (by omega)
      refine lv_aload_n hx hb dX0_active_12 rfl (lv_at hl 0 rfl) ?_
      refine va_get (D := (dC, dI)) (ci := 0) (v := .ref a7) (C := RX0) (T := TX0) (N := 12) hx hb hall inX0 hown hK hP 0 rfl rfl 9 (by decide) (hall _ kw_32) (fun _ h9 => h9) rfl dX0_active_13 ?_
      refine lv_iload_n hx hb dX0_active_16 rfl (lv_at hl 1 rfl) ?_
      refine tp_i (y := nI j) hij ?_
      refine xa_iald hx hb hK hP 7 0 rfl rfl (by omega) (by omega) dX0_active_17 ?_
      refine lv_goto (tgt := 22) hx hb dX0_active_18 (by decide) ?_
      exact W.iret (v := ad j) hx hb hr (fun t9 ht hW => ⟨ad j, rfl, by unfold wf_act; rw [if_pos ⟨c_A, c_B⟩, hij, nI_clamp (by omega)], ht⟩) (fun q hq => nomatch hq) dX0_active_22
set_option maxHeartbeats 4000000 in
set_option maxRecDepth 100000 in
theorem c_value (l : Launch) (dC : Nat → ClassId) (dI : Nat → Nat → Nat) (x a1 a2 a3 a4 a5 a6 a7 : Nat) (cI cJ : ClassId) (nD nR : Nat) (dv : Nat → Int64) (r : Nat → Nat) (cap : Nat) (ti va ev ed : Nat → Int64) (ec : Nat) (ad : Nat → Int32) (ac : Nat) (now : Int64) (hI : wf_R nD nR cap ec ac r) (d : Nat) (hd : d < nD) : Met l yX0_value wsX0_value ({ frames := 1, cells := 0, slots := 0, locals := 21 }) (va_Pc [.ref x, .int (nI d)] (fun U => va_P (dC, dI) vwCl (wr x a1 a2 a3 a4 a5 a6 a7 cI cJ nD nR dv r cap ti va ev ed ec ad ac now) U.heap ∧ va_K (dC, dI) vwCl [(cI, .int), (cJ, .long)] U)) (vp_Sl (fun v => v = dv d)) 0 0 (fun _ => False) := by
  refine Met.ofW (cc := cX0_value) (maxL := 2) (ret := (some .long)) (by decide) rfl ?_
  intro p e s m args below meth c s₁ B hml hv
  obtain ⟨rfl, hP, hK⟩ := hv
  have hx := B.exec
  have hb := B.bytes
  have hr := B.returns
  have hts := atoms_spec (ws := wsX0_value) B.pre
  have hown : s.vm.findClass RX0 = some m.cls := findClass_of_methodNamed B.named
  have hlocks := B.notSynchronized
  have hall := fun (w : Cond) (h : w ∈ allw) => hts w (List.mem_cons_of_mem _ h)
  have hl := lv_entry ([.ref x, .int (nI d)]) (n := 2) (Nat.le_of_ble_eq_true rfl)
  rw [lg_entry_eq]
  generalize (lg_sl ([.ref x, .int (nI d)]) ++ List.replicate (2 - (lg_sl ([.ref x, .int (nI d)])).length) Slot.unset).toArray = ls at hl ⊢
  have hl : lv_has ls 2 [(0, .ref x), (1, .int (nI d))] := hl
  have hI0 := hI
  obtain ⟨hnD1, hnD, hnR1, hnR, hcap, hrc, hrR, hr0, hmo, hec, hac⟩ := hI
  refine lv_aload_n hx hb dX0_value_0 rfl (lv_at hl 0 rfl) ?_
  refine lv_iload_n hx hb dX0_value_1 rfl (lv_at hl 1 rfl) ?_
  refine xv_call (W.runV (As := [.int (nI d)]) (rest := []) ⟨hx, hb, hml, hown, hall⟩ (c_requireDriver l dC dI x a1 a2 a3 a4 a5 a6 a7 cI cJ nD nR dv r cap ti va ev ed ec ad ac now hI0 d hd) (cwV 1 hall gX0_62 rfl rfl rfl (by decide +kernel) ⟨Nat.le_of_ble_eq_true rfl, Nat.le_of_ble_eq_true rfl⟩) ⟨xr_blind, va_recv hK hP (ci := 0) (q0 := 0) rfl rfl, fun U hU hW => ⟨rfl, by rw [hU]; exact hP, va_K.moved hW.alike hK⟩⟩ rfl rfl hl.1 rfl (lv_room (Nat.le_of_ble_eq_true rfl)) dX0_value_2 ⟨by first | exact Nat.zero_le _ | omega, by first | exact Nat.zero_le _ | omega⟩) (fun hv_2 => ?_)
  refine lv_aload_n hx hb dX0_value_5 rfl (lv_at hl 0 rfl) ?_
  refine va_get (D := (dC, dI)) (ci := 0) (v := .ref a1) (C := RX0) (T := TX0) (N := 12) hx hb hall inX0 hown hK hP 0 rfl rfl 2 (by decide) (hall _ kw_25) (fun _ h9 => h9) rfl dX0_value_6 ?_
  refine lv_iload_n hx hb dX0_value_9 rfl (lv_at hl 1 rfl) ?_
  refine xa_lald hx hb hK hP 1 1 rfl rfl (by omega) (by omega) dX0_value_10 ?_
  exact W.lret (v := dv d) hx hb hr (fun t9 ht hW => ⟨dv d, rfl, rfl, ht⟩) (fun q hq => nomatch hq) dX0_value_11
set_option maxHeartbeats 4000000 in
set_option maxRecDepth 100000 in
theorem c_count (l : Launch) (dC : Nat → ClassId) (dI : Nat → Nat → Nat) (x a1 a2 a3 a4 a5 a6 a7 : Nat) (cI cJ : ClassId) (nD nR : Nat) (dv : Nat → Int64) (r : Nat → Nat) (cap : Nat) (ti va ev ed : Nat → Int64) (ec : Nat) (ad : Nat → Int32) (ac : Nat) (now : Int64) (hI : wf_R nD nR cap ec ac r) (d : Nat) (hd : d < nD) : Met l yX0_count wsX0_count ({ frames := 1, cells := 0, slots := 0, locals := 21 }) (va_Pc [.ref x, .int (nI d)] (fun U => va_P (dC, dI) vwCl (wr x a1 a2 a3 a4 a5 a6 a7 cI cJ nD nR dv r cap ti va ev ed ec ad ac now) U.heap ∧ va_K (dC, dI) vwCl [(cI, .int), (cJ, .long)] U)) (vp_Si (fun v => v = nI (r (d + 1) - r d))) 0 0 (fun _ => False) := by
  refine Met.ofW (cc := cX0_count) (maxL := 2) (ret := (some .int)) (by decide) rfl ?_
  intro p e s m args below meth c s₁ B hml hv
  obtain ⟨rfl, hP, hK⟩ := hv
  have hx := B.exec
  have hb := B.bytes
  have hr := B.returns
  have hts := atoms_spec (ws := wsX0_count) B.pre
  have hown : s.vm.findClass RX0 = some m.cls := findClass_of_methodNamed B.named
  have hlocks := B.notSynchronized
  have hall := fun (w : Cond) (h : w ∈ allw) => hts w (List.mem_cons_of_mem _ h)
  have hl := lv_entry ([.ref x, .int (nI d)]) (n := 2) (Nat.le_of_ble_eq_true rfl)
  rw [lg_entry_eq]
  generalize (lg_sl ([.ref x, .int (nI d)]) ++ List.replicate (2 - (lg_sl ([.ref x, .int (nI d)])).length) Slot.unset).toArray = ls at hl ⊢
  have hl : lv_has ls 2 [(0, .ref x), (1, .int (nI d))] := hl
  have hI0 := hI
  obtain ⟨hnD1, hnD, hnR1, hnR, hcap, hrc, hrR, hr0, hmo, hec, hac⟩ := hI
  refine lv_aload_n hx hb dX0_count_0 rfl (lv_at hl 0 rfl) ?_
  refine lv_iload_n hx hb dX0_count_1 rfl (lv_at hl 1 rfl) ?_
  refine xv_call (W.runV (As := [.int (nI d)]) (rest := []) ⟨hx, hb, hml, hown, hall⟩ (c_requireDriver l dC dI x a1 a2 a3 a4 a5 a6 a7 cI cJ nD nR dv r cap ti va ev ed ec ad ac now hI0 d hd) (cwV 1 hall gX0_62 rfl rfl rfl (by decide +kernel) ⟨Nat.le_of_ble_eq_true rfl, Nat.le_of_ble_eq_true rfl⟩) ⟨xr_blind, va_recv hK hP (ci := 0) (q0 := 0) rfl rfl, fun U hU hW => ⟨rfl, by rw [hU]; exact hP, va_K.moved hW.alike hK⟩⟩ rfl rfl hl.1 rfl (lv_room (Nat.le_of_ble_eq_true rfl)) dX0_count_2 ⟨by first | exact Nat.zero_le _ | omega, by first | exact Nat.zero_le _ | omega⟩) (fun hv_2 => ?_)
  refine lv_aload_n hx hb dX0_count_5 rfl (lv_at hl 0 rfl) ?_
  refine lv_iload_n hx hb dX0_count_6 rfl (lv_at hl 1 rfl) ?_
  refine vp_callSi (W.runV (As := [.int (nI d)]) (rest := []) ⟨hx, hb, hml, hown, hall⟩ (c_rowLength l dC dI x a1 a2 a3 a4 a5 a6 a7 cI cJ nD nR dv r cap ti va ev ed ec ad ac now hI0 d hd) (cwV 1 hall gX0_106 rfl rfl rfl (by decide +kernel) ⟨Nat.le_of_ble_eq_true rfl, Nat.le_of_ble_eq_true rfl⟩) ⟨xr_blind, va_recv hK hP (ci := 0) (q0 := 0) rfl rfl, fun U hU hW => ⟨rfl, by rw [hU]; exact hP, va_K.moved hW.alike hK⟩⟩ rfl rfl hl.1 rfl (lv_room (Nat.le_of_ble_eq_true rfl)) dX0_count_7 ⟨by first | exact Nat.zero_le _ | omega, by first | exact Nat.zero_le _ | omega⟩) (fun v_3 hv_4 => ?_)
  subst hv_4
  exact W.iret (v := nI (r (d + 1) - r d)) hx hb hr (fun t9 ht hW => ⟨nI (r (d + 1) - r d), rfl, rfl, ht⟩) (fun q hq => nomatch hq) dX0_count_10
set_option maxHeartbeats 4000000 in
set_option maxRecDepth 100000 in
theorem x_value (l : Launch) (dC : Nat → ClassId) (dI : Nat → Nat → Nat) (x a1 a2 a3 a4 a5 a6 a7 : Nat) (cI cJ : ClassId) (nD nR : Nat) (dv : Nat → Int64) (r : Nat → Nat) (cap : Nat) (ti va ev ed : Nat → Int64) (ec : Nat) (ad : Nat → Int32) (ac : Nat) (now : Int64) (hst : l.stackTraces = false) (i : Int32) (hbad : i < 0 ∨ nI nD ≤ i) : xt_Met l yX0_value wsX0_value ({ frames := 7, cells := 1, slots := 6, locals := 103 }) (va_Pc [.ref x, .int i] (fun U => va_P (dC, dI) vwCl (wr x a1 a2 a3 a4 a5 a6 a7 cI cJ nD nR dv r cap ti va ev ed ec ad ac now) U.heap ∧ va_K (dC, dI) vwCl [(cI, .int), (cJ, .long)] U ∧ xt_ok U)) "java/lang/IndexOutOfBoundsException" := by
  refine xt_ofW (cc := cX0_value) (maxL := 2) (ret := (some .long)) (by decide) rfl ?_
  intro p e s m args below meth c s₁ B hml hout hv
  obtain ⟨rfl, hP, hK, hok⟩ := hv
  have hx := B.exec
  have hb := B.bytes
  have hr := B.returns
  have hts := atoms_spec (ws := wsX0_value) B.pre
  have hown : s.vm.findClass RX0 = some m.cls := findClass_of_methodNamed B.named
  have hlocks := B.notSynchronized
  have hall := fun (w : Cond) (h : w ∈ allw) => hts w (List.mem_cons_of_mem _ h)
  have hl := lv_entry ([.ref x, .int i]) (n := 2) (Nat.le_of_ble_eq_true rfl)
  rw [lg_entry_eq]
  generalize (lg_sl ([.ref x, .int i]) ++ List.replicate (2 - (lg_sl ([.ref x, .int i])).length) Slot.unset).toArray = ls at hl ⊢
  have hl : lv_has ls 2 [(0, .ref x), (1, .int i)] := hl
  refine lv_aload_n hx hb dX0_value_0 rfl (lv_at hl 0 rfl) ?_
  refine lv_iload_n hx hb dX0_value_1 rfl (lv_at hl 1 rfl) ?_
  exact xt_callV (As := [.int i]) (rest := []) ⟨hx, hb, hml, hown, hall⟩ (x_requireDriver l dC dI x a1 a2 a3 a4 a5 a6 a7 cI cJ nD nR dv r cap ti va ev ed ec ad ac now hst i hbad) (cwV 1 hall gX0_62 rfl rfl rfl (by decide +kernel) ⟨Nat.le_of_ble_eq_true rfl, Nat.le_of_ble_eq_true rfl⟩) ⟨xk_blind, va_recv hK hP (ci := 0) (q0 := 0) rfl rfl, fun U hU hW => ⟨rfl, by rw [hU]; exact hP, va_K.moved hW.alike hK, xt_move hW (fun q _ => by rw [hU]) hok⟩⟩ rfl hl.1 rfl (lv_room (Nat.le_of_ble_eq_true rfl)) dX0_value_2 ⟨Nat.le_of_ble_eq_true rfl, Nat.le_of_ble_eq_true rfl⟩ (fun q ce H1 h1 h2 h3 _ _ => xt_out hout hlocks h1 h2 h3)
set_option maxHeartbeats 4000000 in
set_option maxRecDepth 100000 in
theorem x_count (l : Launch) (dC : Nat → ClassId) (dI : Nat → Nat → Nat) (x a1 a2 a3 a4 a5 a6 a7 : Nat) (cI cJ : ClassId) (nD nR : Nat) (dv : Nat → Int64) (r : Nat → Nat) (cap : Nat) (ti va ev ed : Nat → Int64) (ec : Nat) (ad : Nat → Int32) (ac : Nat) (now : Int64) (hst : l.stackTraces = false) (i : Int32) (hbad : i < 0 ∨ nI nD ≤ i) : xt_Met l yX0_count wsX0_count ({ frames := 7, cells := 1, slots := 6, locals := 103 }) (va_Pc [.ref x, .int i] (fun U => va_P (dC, dI) vwCl (wr x a1 a2 a3 a4 a5 a6 a7 cI cJ nD nR dv r cap ti va ev ed ec ad ac now) U.heap ∧ va_K (dC, dI) vwCl [(cI, .int), (cJ, .long)] U ∧ xt_ok U)) "java/lang/IndexOutOfBoundsException" := by
  refine xt_ofW (cc := cX0_count) (maxL := 2) (ret := (some .int)) (by decide) rfl ?_
  intro p e s m args below meth c s₁ B hml hout hv
  obtain ⟨rfl, hP, hK, hok⟩ := hv
  have hx := B.exec
  have hb := B.bytes
  have hr := B.returns
  have hts := atoms_spec (ws := wsX0_count) B.pre
  have hown : s.vm.findClass RX0 = some m.cls := findClass_of_methodNamed B.named
  have hlocks := B.notSynchronized
  have hall := fun (w : Cond) (h : w ∈ allw) => hts w (List.mem_cons_of_mem _ h)
  have hl := lv_entry ([.ref x, .int i]) (n := 2) (Nat.le_of_ble_eq_true rfl)
  rw [lg_entry_eq]
  generalize (lg_sl ([.ref x, .int i]) ++ List.replicate (2 - (lg_sl ([.ref x, .int i])).length) Slot.unset).toArray = ls at hl ⊢
  have hl : lv_has ls 2 [(0, .ref x), (1, .int i)] := hl
  refine lv_aload_n hx hb dX0_count_0 rfl (lv_at hl 0 rfl) ?_
  refine lv_iload_n hx hb dX0_count_1 rfl (lv_at hl 1 rfl) ?_
  exact xt_callV (As := [.int i]) (rest := []) ⟨hx, hb, hml, hown, hall⟩ (x_requireDriver l dC dI x a1 a2 a3 a4 a5 a6 a7 cI cJ nD nR dv r cap ti va ev ed ec ad ac now hst i hbad) (cwV 1 hall gX0_62 rfl rfl rfl (by decide +kernel) ⟨Nat.le_of_ble_eq_true rfl, Nat.le_of_ble_eq_true rfl⟩) ⟨xk_blind, va_recv hK hP (ci := 0) (q0 := 0) rfl rfl, fun U hU hW => ⟨rfl, by rw [hU]; exact hP, va_K.moved hW.alike hK, xt_move hW (fun q _ => by rw [hU]) hok⟩⟩ rfl hl.1 rfl (lv_room (Nat.le_of_ble_eq_true rfl)) dX0_count_2 ⟨Nat.le_of_ble_eq_true rfl, Nat.le_of_ble_eq_true rfl⟩ (fun q ce H1 h1 h2 h3 _ _ => xt_out hout hlocks h1 h2 h3)
set_option maxHeartbeats 4000000 in
set_option maxRecDepth 100000 in
theorem x_at (l : Launch) (dC : Nat → ClassId) (dI : Nat → Nat → Nat) (x a1 a2 a3 a4 a5 a6 a7 : Nat) (cI cJ : ClassId) (nD nR : Nat) (dv : Nat → Int64) (r : Nat → Nat) (cap : Nat) (ti va ev ed : Nat → Int64) (ec : Nat) (ad : Nat → Int32) (ac : Nat) (now : Int64) (hst : l.stackTraces = false) (i : Int32) (hbad : i < 0 ∨ nI nD ≤ i) (j z : Int32) : xt_Met l yX0_at wsX0_at ({ frames := 7, cells := 1, slots := 6, locals := 103 }) (va_Pc [.ref x, .int i, .int j, .int z] (fun U => va_P (dC, dI) vwCl (wr x a1 a2 a3 a4 a5 a6 a7 cI cJ nD nR dv r cap ti va ev ed ec ad ac now) U.heap ∧ va_K (dC, dI) vwCl [(cI, .int), (cJ, .long)] U ∧ xt_ok U)) "java/lang/IndexOutOfBoundsException" := by
  refine xt_ofW (cc := cX0_at) (maxL := 5) (ret := (some .long)) (by decide) rfl ?_
  intro p e s m args below meth c s₁ B hml hout hv
  obtain ⟨rfl, hP, hK, hok⟩ := hv
  have hx := B.exec
  have hb := B.bytes
  have hr := B.returns
  have hts := atoms_spec (ws := wsX0_at) B.pre
  have hown : s.vm.findClass RX0 = some m.cls := findClass_of_methodNamed B.named
  have hlocks := B.notSynchronized
  have hall := fun (w : Cond) (h : w ∈ allw) => hts w (List.mem_cons_of_mem _ h)
  have hl := lv_entry ([.ref x, .int i, .int j, .int z]) (n := 5) (Nat.le_of_ble_eq_true rfl)
  rw [lg_entry_eq]
  generalize (lg_sl ([.ref x, .int i, .int j, .int z]) ++ List.replicate (5 - (lg_sl ([.ref x, .int i, .int j, .int z])).length) Slot.unset).toArray = ls at hl ⊢
  have hl : lv_has ls 5 [(0, .ref x), (1, .int i), (2, .int j), (3, .int z)] := hl
  refine lv_aload_n hx hb dX0_at_0 rfl (lv_at hl 0 rfl) ?_
  refine lv_iload_n hx hb dX0_at_1 rfl (lv_at hl 1 rfl) ?_
  exact xt_callV (As := [.int i]) (rest := []) ⟨hx, hb, hml, hown, hall⟩ (x_requireDriver l dC dI x a1 a2 a3 a4 a5 a6 a7 cI cJ nD nR dv r cap ti va ev ed ec ad ac now hst i hbad) (cwV 1 hall gX0_62 rfl rfl rfl (by decide +kernel) ⟨Nat.le_of_ble_eq_true rfl, Nat.le_of_ble_eq_true rfl⟩) ⟨xk_blind, va_recv hK hP (ci := 0) (q0 := 0) rfl rfl, fun U hU hW => ⟨rfl, by rw [hU]; exact hP, va_K.moved hW.alike hK, xt_move hW (fun q _ => by rw [hU]) hok⟩⟩ rfl hl.1 rfl (lv_room (Nat.le_of_ble_eq_true rfl)) dX0_at_2 ⟨Nat.le_of_ble_eq_true rfl, Nat.le_of_ble_eq_true rfl⟩ (fun q ce H1 h1 h2 h3 _ _ => xt_out hout hlocks h1 h2 h3)
set_option maxHeartbeats 4000000 in
set_option maxRecDepth 100000 in
theorem x_projected (l : Launch) (dC : Nat → ClassId) (dI : Nat → Nat → Nat) (x a1 a2 a3 a4 a5 a6 a7 : Nat) (cI cJ : ClassId) (nD nR : Nat) (dv : Nat → Int64) (r : Nat → Nat) (cap : Nat) (ti va ev ed : Nat → Int64) (ec : Nat) (ad : Nat → Int32) (ac : Nat) (now : Int64) (hst : l.stackTraces = false) (i : Int32) (hbad : i < 0 ∨ nI nD ≤ i) (t : Int64) : xt_Met l yX0_projected wsX0_projected ({ frames := 7, cells := 1, slots := 6, locals := 103 }) (va_Pc [.ref x, .int i, .long t] (fun U => va_P (dC, dI) vwCl (wr x a1 a2 a3 a4 a5 a6 a7 cI cJ nD nR dv r cap ti va ev ed ec ad ac now) U.heap ∧ va_K (dC, dI) vwCl [(cI, .int), (cJ, .long)] U ∧ xt_ok U)) "java/lang/IndexOutOfBoundsException" := by
  refine xt_ofW (cc := cX0_projected) (maxL := 6) (ret := (some .long)) (by decide) rfl ?_
  intro p e s m args below meth c s₁ B hml hout hv
  obtain ⟨rfl, hP, hK, hok⟩ := hv
  have hx := B.exec
  have hb := B.bytes
  have hr := B.returns
  have hts := atoms_spec (ws := wsX0_projected) B.pre
  have hown : s.vm.findClass RX0 = some m.cls := findClass_of_methodNamed B.named
  have hlocks := B.notSynchronized
  have hall := fun (w : Cond) (h : w ∈ allw) => hts w (List.mem_cons_of_mem _ h)
  have hl := lv_entry ([.ref x, .int i, .long t]) (n := 6) (Nat.le_of_ble_eq_true rfl)
  rw [lg_entry_eq]
  generalize (lg_sl ([.ref x, .int i, .long t]) ++ List.replicate (6 - (lg_sl ([.ref x, .int i, .long t])).length) Slot.unset).toArray = ls at hl ⊢
  have hl : lv_has ls 6 [(0, .ref x), (1, .int i), (2, .long t)] := hl
  refine lv_aload_n hx hb dX0_projected_0 rfl (lv_at hl 0 rfl) ?_
  refine lv_iload_n hx hb dX0_projected_1 rfl (lv_at hl 1 rfl) ?_
  exact xt_callV (As := [.int i]) (rest := []) ⟨hx, hb, hml, hown, hall⟩ (x_requireDriver l dC dI x a1 a2 a3 a4 a5 a6 a7 cI cJ nD nR dv r cap ti va ev ed ec ad ac now hst i hbad) (cwV 1 hall gX0_62 rfl rfl rfl (by decide +kernel) ⟨Nat.le_of_ble_eq_true rfl, Nat.le_of_ble_eq_true rfl⟩) ⟨xk_blind, va_recv hK hP (ci := 0) (q0 := 0) rfl rfl, fun U hU hW => ⟨rfl, by rw [hU]; exact hP, va_K.moved hW.alike hK, xt_move hW (fun q _ => by rw [hU]) hok⟩⟩ rfl hl.1 rfl (lv_room (Nat.le_of_ble_eq_true rfl)) dX0_projected_2 ⟨Nat.le_of_ble_eq_true rfl, Nat.le_of_ble_eq_true rfl⟩ (fun q ce H1 h1 h2 h3 _ _ => xt_out hout hlocks h1 h2 h3)
set_option maxHeartbeats 4000000 in
set_option maxRecDepth 100000 in
theorem x_start (l : Launch) (dC : Nat → ClassId) (dI : Nat → Nat → Nat) (x a1 a2 a3 a4 a5 a6 a7 : Nat) (cI cJ : ClassId) (nD nR : Nat) (dv : Nat → Int64) (r : Nat → Nat) (cap : Nat) (ti va ev ed : Nat → Int64) (ec : Nat) (ad : Nat → Int32) (ac : Nat) (now : Int64) (hst : l.stackTraces = false) (i : Int32) (hbad : i < 0 ∨ nI nD ≤ i) (t : Int64) : xt_Met l yX0_start wsX0_start ({ frames := 7, cells := 1, slots := 6, locals := 103 }) (va_Pc [.ref x, .int i, .long t] (fun U => va_P (dC, dI) vwCl (wr x a1 a2 a3 a4 a5 a6 a7 cI cJ nD nR dv r cap ti va ev ed ec ad ac now) U.heap ∧ va_K (dC, dI) vwCl [(cI, .int), (cJ, .long)] U ∧ xt_ok U)) "java/lang/IndexOutOfBoundsException" := by
  refine xt_ofW (cc := cX0_start) (maxL := 5) (ret := (some .int)) (by decide) rfl ?_
  intro p e s m args below meth c s₁ B hml hout hv
  obtain ⟨rfl, hP, hK, hok⟩ := hv
  have hx := B.exec
  have hb := B.bytes
  have hr := B.returns
  have hts := atoms_spec (ws := wsX0_start) B.pre
  have hown : s.vm.findClass RX0 = some m.cls := findClass_of_methodNamed B.named
  have hlocks := B.notSynchronized
  have hall := fun (w : Cond) (h : w ∈ allw) => hts w (List.mem_cons_of_mem _ h)
  have hl := lv_entry ([.ref x, .int i, .long t]) (n := 5) (Nat.le_of_ble_eq_true rfl)
  rw [lg_entry_eq]
  generalize (lg_sl ([.ref x, .int i, .long t]) ++ List.replicate (5 - (lg_sl ([.ref x, .int i, .long t])).length) Slot.unset).toArray = ls at hl ⊢
  have hl : lv_has ls 5 [(0, .ref x), (1, .int i), (2, .long t)] := hl
  refine lv_aload_n hx hb dX0_start_0 rfl (lv_at hl 0 rfl) ?_
  refine lv_iload_n hx hb dX0_start_1 rfl (lv_at hl 1 rfl) ?_
  exact xt_callV (As := [.int i]) (rest := []) ⟨hx, hb, hml, hown, hall⟩ (x_requireDriver l dC dI x a1 a2 a3 a4 a5 a6 a7 cI cJ nD nR dv r cap ti va ev ed ec ad ac now hst i hbad) (cwV 1 hall gX0_62 rfl rfl rfl (by decide +kernel) ⟨Nat.le_of_ble_eq_true rfl, Nat.le_of_ble_eq_true rfl⟩) ⟨xk_blind, va_recv hK hP (ci := 0) (q0 := 0) rfl rfl, fun U hU hW => ⟨rfl, by rw [hU]; exact hP, va_K.moved hW.alike hK, xt_move hW (fun q _ => by rw [hU]) hok⟩⟩ rfl hl.1 rfl (lv_room (Nat.le_of_ble_eq_true rfl)) dX0_start_2 ⟨Nat.le_of_ble_eq_true rfl, Nat.le_of_ble_eq_true rfl⟩ (fun q ce H1 h1 h2 h3 _ _ => xt_out hout hlocks h1 h2 h3)
set_option maxHeartbeats 4000000 in
set_option maxRecDepth 100000 in
theorem x_assign (l : Launch) (dC : Nat → ClassId) (dI : Nat → Nat → Nat) (x a1 a2 a3 a4 a5 a6 a7 : Nat) (cI cJ : ClassId) (nD nR : Nat) (dv : Nat → Int64) (r : Nat → Nat) (cap : Nat) (ti va ev ed : Nat → Int64) (ec : Nat) (ad : Nat → Int32) (ac : Nat) (now : Int64) (hst : l.stackTraces = false) (i : Int32) (hbad : i < 0 ∨ nI nD ≤ i) (mo : Int32) (t : Int64) : xt_Met l yX0_assign wsX0_assign ({ frames := 7, cells := 1, slots := 6, locals := 103 }) (va_Pc [.ref x, .int i, .int mo, .long t] (fun U => va_P (dC, dI) vwCl (wr x a1 a2 a3 a4 a5 a6 a7 cI cJ nD nR dv r cap ti va ev ed ec ad ac now) U.heap ∧ va_K (dC, dI) vwCl [(cI, .int), (cJ, .long)] U ∧ xt_ok U)) "java/lang/IndexOutOfBoundsException" := by
  refine xt_ofW (cc := cX0_assign) (maxL := 14) (ret := (some .int)) (by decide) rfl ?_
  intro p e s m args below meth c s₁ B hml hout hv
  obtain ⟨rfl, hP, hK, hok⟩ := hv
  have hx := B.exec
  have hb := B.bytes
  have hr := B.returns
  have hts := atoms_spec (ws := wsX0_assign) B.pre
  have hown : s.vm.findClass RX0 = some m.cls := findClass_of_methodNamed B.named
  have hlocks := B.notSynchronized
  have hall := fun (w : Cond) (h : w ∈ allw) => hts w (List.mem_cons_of_mem _ h)
  have hl := lv_entry ([.ref x, .int i, .int mo, .long t]) (n := 14) (Nat.le_of_ble_eq_true rfl)
  rw [lg_entry_eq]
  generalize (lg_sl ([.ref x, .int i, .int mo, .long t]) ++ List.replicate (14 - (lg_sl ([.ref x, .int i, .int mo, .long t])).length) Slot.unset).toArray = ls at hl ⊢
  have hl : lv_has ls 14 [(0, .ref x), (1, .int i), (2, .int mo), (3, .long t)] := hl
  refine lv_aload_n hx hb dX0_assign_0 rfl (lv_at hl 0 rfl) ?_
  refine lv_iload_n hx hb dX0_assign_1 rfl (lv_at hl 1 rfl) ?_
  exact xt_callV (As := [.int i]) (rest := []) ⟨hx, hb, hml, hown, hall⟩ (x_requireDriver l dC dI x a1 a2 a3 a4 a5 a6 a7 cI cJ nD nR dv r cap ti va ev ed ec ad ac now hst i hbad) (cwV 1 hall gX0_62 rfl rfl rfl (by decide +kernel) ⟨Nat.le_of_ble_eq_true rfl, Nat.le_of_ble_eq_true rfl⟩) ⟨xk_blind, va_recv hK hP (ci := 0) (q0 := 0) rfl rfl, fun U hU hW => ⟨rfl, by rw [hU]; exact hP, va_K.moved hW.alike hK, xt_move hW (fun q _ => by rw [hU]) hok⟩⟩ rfl hl.1 rfl (lv_room (Nat.le_of_ble_eq_true rfl)) dX0_assign_2 ⟨Nat.le_of_ble_eq_true rfl, Nat.le_of_ble_eq_true rfl⟩ (fun q ce H1 h1 h2 h3 _ _ => xt_out hout hlocks h1 h2 h3)
set_option maxHeartbeats 4000000 in
set_option maxRecDepth 100000 in
theorem c_limitOf (l : Launch) (dC : Nat → ClassId) (dI : Nat → Nat → Nat) (x a1 a2 a3 a4 a5 a6 a7 : Nat) (cI cJ : ClassId) (nD nR : Nat) (dv : Nat → Int64) (r : Nat → Nat) (cap : Nat) (ti va ev ed : Nat → Int64) (ec : Nat) (ad : Nat → Int32) (ac : Nat) (now : Int64) (mo : Int32) (t : Int64) (hm : mo = 0 ∨ mo = 1 ∨ mo = 2) : Met l yX0_limitOf wsX0_limitOf ({ frames := 0, cells := 0, slots := 0, locals := 0 }) (va_Pc [.ref x, .int mo, .long t] (fun U => va_P (dC, dI) vwCl (wr x a1 a2 a3 a4 a5 a6 a7 cI cJ nD nR dv r cap ti va ev ed ec ad ac now) U.heap ∧ va_K (dC, dI) vwCl [(cI, .int), (cJ, .long)] U)) (vp_Sl (fun v => v = wf_lim mo (ed 0) t)) 0 0 (fun _ => False) := by
  refine Met.ofW (cc := cX0_limitOf) (maxL := 4) (ret := (some .long)) (by decide) rfl ?_
  intro p e s m args below meth c s₁ B hml hv
  obtain ⟨rfl, hP, hK⟩ := hv
  have hx := B.exec
  have hb := B.bytes
  have hr := B.returns
  have hts := atoms_spec (ws := wsX0_limitOf) B.pre
  have hown : s.vm.findClass RX0 = some m.cls := findClass_of_methodNamed B.named
  have hlocks := B.notSynchronized
  have hall := fun (w : Cond) (h : w ∈ allw) => hts w (List.mem_cons_of_mem _ h)
  have hl := lv_entry ([.ref x, .int mo, .long t]) (n := 4) (Nat.le_of_ble_eq_true rfl)
  rw [lg_entry_eq]
  generalize (lg_sl ([.ref x, .int mo, .long t]) ++ List.replicate (4 - (lg_sl ([.ref x, .int mo, .long t])).length) Slot.unset).toArray = ls at hl ⊢
  have hl : lv_has ls 4 [(0, .ref x), (1, .int mo), (2, .long t)] := hl
  rcases hm with rfl | rfl | rfl
  · refine lv_iload_n hx hb dX0_limitOf_0 rfl (lv_at hl 1 rfl) ?_
    refine lv_lookup (off := 27) (tgt := 28) hx hb dX0_limitOf_1 (by decide) (by decide) (by decide) ?_
    refine lv_aload_n hx hb dX0_limitOf_28 rfl (lv_at hl 0 rfl) ?_
    refine va_get (D := (dC, dI)) (ci := 0) (v := .ref a6) (C := RX0) (T := TX0) (N := 12) hx hb hall inX0 hown hK hP 0 rfl rfl 7 (by decide) (hall _ kw_30) (fun _ h9 => h9) rfl dX0_limitOf_29 ?_
    refine lv_iconst (v := 0) hx hb dX0_limitOf_32 (by decide) ?_
    refine tp_i (y := nI 0) nI_0.symm ?_
    refine xa_lald hx hb hK hP 6 1 rfl rfl (by omega) (by omega) dX0_limitOf_33 ?_
    exact W.lret (v := ed 0) hx hb hr (fun t9 ht hW => ⟨ed 0, rfl, rfl, ht⟩) (fun q hq => nomatch hq) dX0_limitOf_34
  · refine lv_iload_n hx hb dX0_limitOf_0 rfl (lv_at hl 1 rfl) ?_
    refine lv_lookup (off := 36) (tgt := 37) hx hb dX0_limitOf_1 (by decide) (by decide) (by decide) ?_
    refine lv_lconst (v := 0) hx hb dX0_limitOf_37 (by decide) ?_
    exact W.lret (v := 0) hx hb hr (fun t9 ht hW => ⟨0, rfl, rfl, ht⟩) (fun q hq => nomatch hq) dX0_limitOf_38
  · refine lv_iload_n hx hb dX0_limitOf_0 rfl (lv_at hl 1 rfl) ?_
    refine lv_lookup (off := 34) (tgt := 35) hx hb dX0_limitOf_1 (by decide) (by decide) (by decide) ?_
    refine lv_lload_n hx hb dX0_limitOf_35 rfl (lv_at hl 2 rfl) ?_
    exact W.lret (v := t) hx hb hr (fun t9 ht hW => ⟨t, rfl, rfl, ht⟩) (fun q hq => nomatch hq) dX0_limitOf_36
set_option maxHeartbeats 4000000 in
set_option maxRecDepth 100000 in
theorem c_isLimitGood (l : Launch) (dC : Nat → ClassId) (dI : Nat → Nat → Nat) (x a1 a2 a3 a4 a5 a6 a7 : Nat) (cI cJ : ClassId) (nD nR : Nat) (dv : Nat → Int64) (r : Nat → Nat) (cap : Nat) (ti va ev ed : Nat → Int64) (ec : Nat) (ad : Nat → Int32) (ac : Nat) (now : Int64) (mo : Int32) (t : Int64) : Met l yX0_isLimitGood wsX0_isLimitGood ({ frames := 0, cells := 0, slots := 0, locals := 0 }) (va_Pc [.ref x, .int mo, .long t] (fun U => va_P (dC, dI) vwCl (wr x a1 a2 a3 a4 a5 a6 a7 cI cJ nD nR dv r cap ti va ev ed ec ad ac now) U.heap ∧ va_K (dC, dI) vwCl [(cI, .int), (cJ, .long)] U)) (vp_Si (fun v => v = 1 ∧ wf_lg mo (ed 0) t ∨ v = 0 ∧ ¬ wf_lg mo (ed 0) t)) 0 0 (fun _ => False) := by
  refine Met.ofW (cc := cX0_isLimitGood) (maxL := 4) (ret := (some .boolean)) (by decide) rfl ?_
  intro p e s m args below meth c s₁ B hml hv
  obtain ⟨rfl, hP, hK⟩ := hv
  have hx := B.exec
  have hb := B.bytes
  have hr := B.returns
  have hts := atoms_spec (ws := wsX0_isLimitGood) B.pre
  have hown : s.vm.findClass RX0 = some m.cls := findClass_of_methodNamed B.named
  have hlocks := B.notSynchronized
  have hall := fun (w : Cond) (h : w ∈ allw) => hts w (List.mem_cons_of_mem _ h)
  have hl := lv_entry ([.ref x, .int mo, .long t]) (n := 4) (Nat.le_of_ble_eq_true rfl)
  rw [lg_entry_eq]
  generalize (lg_sl ([.ref x, .int mo, .long t]) ++ List.replicate (4 - (lg_sl ([.ref x, .int mo, .long t])).length) Slot.unset).toArray = ls at hl ⊢
  have hl : lv_has ls 4 [(0, .ref x), (1, .int mo), (2, .long t)] := hl
  refine lv_iload_n hx hb dX0_isLimitGood_0 rfl (lv_at hl 1 rfl) ?_
  refine lv_iconst (v := 2) hx hb dX0_isLimitGood_1 (by decide) ?_
  refine lv_icmp_ne (tgt := 28) hx hb dX0_isLimitGood_2 (by decide) (fun c_1 => ?_) (fun c_1 => ?_)
  · have c_A := c_1
    refine lv_iload_n hx hb dX0_isLimitGood_28 rfl (lv_at hl 1 rfl) ?_
    refine lv_if_eq (tgt := 37) hx hb dX0_isLimitGood_29 (by decide) (fun c_2 => ?_) (fun c_2 => ?_)
    · have c_D := c_2
      refine lv_iconst (v := 1) hx hb dX0_isLimitGood_37 (by decide) ?_
      refine lv_goto (tgt := 42) hx hb dX0_isLimitGood_38 (by decide) ?_
      exact W.zret (v := 1) (ty := .boolean) hx hb hr narrow_b1 (fun t9 ht hW => ⟨1, rfl, Or.inl ⟨rfl, by unfold wf_lg; first | exact Or.inl ⟨c_A, c_B, c_C⟩ | exact Or.inr (Or.inl c_D) | exact Or.inr (Or.inr c_E)⟩, ht⟩) (fun q hq => nomatch hq) dX0_isLimitGood_42
    · have c_D := c_2
      refine lv_iload_n hx hb dX0_isLimitGood_32 rfl (lv_at hl 1 rfl) ?_
      refine lv_iconst (v := 1) hx hb dX0_isLimitGood_33 (by decide) ?_
      refine lv_icmp_ne (tgt := 41) hx hb dX0_isLimitGood_34 (by decide) (fun c_3 => ?_) (fun c_3 => ?_)
      · have c_E := c_3
        refine lv_iconst (v := 0) hx hb dX0_isLimitGood_41 (by decide) ?_
        exact W.zret (v := 0) (ty := .boolean) hx hb hr narrow_b0 (fun t9 ht hW => ⟨0, rfl, Or.inr ⟨rfl, fun q => by unfold wf_lg at q; first | exact q.elim (fun q => q.2.1 c_B) (fun q => q.elim (fun q => absurd (c_A.symm.trans q) (by decide)) (fun q => absurd (c_A.symm.trans q) (by decide))) | exact q.elim (fun q => q.2.2 c_C) (fun q => q.elim (fun q => absurd (c_A.symm.trans q) (by decide)) (fun q => absurd (c_A.symm.trans q) (by decide))) | exact q.elim (fun q => c_A q.1) (fun q => q.elim c_D c_E)⟩, ht⟩) (fun q hq => nomatch hq) dX0_isLimitGood_42
      · have c_E := c_3
        refine lv_iconst (v := 1) hx hb dX0_isLimitGood_37 (by decide) ?_
        refine lv_goto (tgt := 42) hx hb dX0_isLimitGood_38 (by decide) ?_
        exact W.zret (v := 1) (ty := .boolean) hx hb hr narrow_b1 (fun t9 ht hW => ⟨1, rfl, Or.inl ⟨rfl, by unfold wf_lg; first | exact Or.inl ⟨c_A, c_B, c_C⟩ | exact Or.inr (Or.inl c_D) | exact Or.inr (Or.inr c_E)⟩, ht⟩) (fun q hq => nomatch hq) dX0_isLimitGood_42
  · have c_A := c_1
    refine lv_lload_n hx hb dX0_isLimitGood_5 rfl (lv_at hl 2 rfl) ?_
    refine lv_lconst (v := 0) hx hb dX0_isLimitGood_6 (by decide) ?_
    refine xl_lt (tgt := 26) hx hb dX0_isLimitGood_7 dX0_isLimitGood_8 (by decide) (fun c_4 => ?_) (fun c_4 => ?_)
    · have c_B := c_4
      refine lv_iconst (v := 0) hx hb dX0_isLimitGood_26 (by decide) ?_
      exact W.zret (v := 0) (ty := .boolean) hx hb hr narrow_b0 (fun t9 ht hW => ⟨0, rfl, Or.inr ⟨rfl, fun q => by unfold wf_lg at q; first | exact q.elim (fun q => q.2.1 c_B) (fun q => q.elim (fun q => absurd (c_A.symm.trans q) (by decide)) (fun q => absurd (c_A.symm.trans q) (by decide))) | exact q.elim (fun q => q.2.2 c_C) (fun q => q.elim (fun q => absurd (c_A.symm.trans q) (by decide)) (fun q => absurd (c_A.symm.trans q) (by decide))) | exact q.elim (fun q => c_A q.1) (fun q => q.elim c_D c_E)⟩, ht⟩) (fun q hq => nomatch hq) dX0_isLimitGood_27
    · have c_B := c_4
      refine lv_lload_n hx hb dX0_isLimitGood_11 rfl (lv_at hl 2 rfl) ?_
      refine lv_aload_n hx hb dX0_isLimitGood_12 rfl (lv_at hl 0 rfl) ?_
      refine va_get (D := (dC, dI)) (ci := 0) (v := .ref a6) (C := RX0) (T := TX0) (N := 12) hx hb hall inX0 hown hK hP 0 rfl rfl 7 (by decide) (hall _ kw_30) (fun _ h9 => h9) rfl dX0_isLimitGood_13 ?_
      refine lv_iconst (v := 0) hx hb dX0_isLimitGood_16 (by decide) ?_
      refine tp_i (y := nI 0) nI_0.symm ?_
      refine xa_lald hx hb hK hP 6 1 rfl rfl (by omega) (by omega) dX0_isLimitGood_17 ?_
      refine xl_gt (tgt := 26) hx hb dX0_isLimitGood_18 dX0_isLimitGood_19 (by decide) (fun c_5 => ?_) (fun c_5 => ?_)
      · have c_C := c_5
        refine lv_iconst (v := 0) hx hb dX0_isLimitGood_26 (by decide) ?_
        exact W.zret (v := 0) (ty := .boolean) hx hb hr narrow_b0 (fun t9 ht hW => ⟨0, rfl, Or.inr ⟨rfl, fun q => by unfold wf_lg at q; first | exact q.elim (fun q => q.2.1 c_B) (fun q => q.elim (fun q => absurd (c_A.symm.trans q) (by decide)) (fun q => absurd (c_A.symm.trans q) (by decide))) | exact q.elim (fun q => q.2.2 c_C) (fun q => q.elim (fun q => absurd (c_A.symm.trans q) (by decide)) (fun q => absurd (c_A.symm.trans q) (by decide))) | exact q.elim (fun q => c_A q.1) (fun q => q.elim c_D c_E)⟩, ht⟩) (fun q hq => nomatch hq) dX0_isLimitGood_27
      · have c_C := c_5
        refine lv_iconst (v := 1) hx hb dX0_isLimitGood_22 (by decide) ?_
        refine lv_goto (tgt := 27) hx hb dX0_isLimitGood_23 (by decide) ?_
        exact W.zret (v := 1) (ty := .boolean) hx hb hr narrow_b1 (fun t9 ht hW => ⟨1, rfl, Or.inl ⟨rfl, by unfold wf_lg; first | exact Or.inl ⟨c_A, c_B, c_C⟩ | exact Or.inr (Or.inl c_D) | exact Or.inr (Or.inr c_E)⟩, ht⟩) (fun q hq => nomatch hq) dX0_isLimitGood_27
set_option maxHeartbeats 4000000 in
set_option maxRecDepth 100000 in
theorem c_areDelaysGood (l : Launch) (dC : Nat → ClassId) (dI : Nat → Nat → Nat) (x a1 a2 a3 a4 a5 a6 a7 : Nat) (cI cJ : ClassId) (nD nR : Nat) (dv : Nat → Int64) (r : Nat → Nat) (cap : Nat) (ti va ev ed : Nat → Int64) (ec : Nat) (ad : Nat → Int32) (ac : Nat) (now : Int64) (hI : wf_R nD nR cap ec ac r) : Met l yX0_areDelaysGood wsX0_areDelaysGood ({ frames := 0, cells := 0, slots := 0, locals := 0 }) (va_Pc [.ref x] (fun U => va_P (dC, dI) vwCl (wr x a1 a2 a3 a4 a5 a6 a7 cI cJ nD nR dv r cap ti va ev ed ec ad ac now) U.heap ∧ va_K (dC, dI) vwCl [(cI, .int), (cJ, .long)] U)) (vp_Si (fun v => v = 1 ∧ wf_dg ed now ec 0 (-1) ∨ v = 0 ∧ ¬ wf_dg ed now ec 0 (-1))) 0 0 (fun _ => False) := by
  refine Met.ofW (cc := cX0_areDelaysGood) (maxL := 4) (ret := (some .boolean)) (by decide) rfl ?_
  intro p e s m args below meth c s₁ B hml hv
  obtain ⟨rfl, hP, hK⟩ := hv
  have hx := B.exec
  have hb := B.bytes
  have hr := B.returns
  have hts := atoms_spec (ws := wsX0_areDelaysGood) B.pre
  have hown : s.vm.findClass RX0 = some m.cls := findClass_of_methodNamed B.named
  have hlocks := B.notSynchronized
  have hall := fun (w : Cond) (h : w ∈ allw) => hts w (List.mem_cons_of_mem _ h)
  have hl := lv_entry ([.ref x]) (n := 4) (Nat.le_of_ble_eq_true rfl)
  rw [lg_entry_eq]
  generalize (lg_sl ([.ref x]) ++ List.replicate (4 - (lg_sl ([.ref x])).length) Slot.unset).toArray = ls at hl ⊢
  have hl : lv_has ls 4 [(0, .ref x)] := hl
  obtain ⟨hnD1, hnD, hnR1, hnR, hcap, hrc, hrR, hr0, hmo, hec, hac⟩ := hI
  refine lv_ldc2 (v := (-1)) hx hb hown (hall _ kw_78) dX0_areDelaysGood_0 ?_
  refine lv_lstore_n (lv' := [(1, .long (-1)), (0, .ref x)]) hx hb dX0_areDelaysGood_3 rfl hl (by decide) rfl (fun ls hl => ?_)
  refine lv_iconst (v := 0) hx hb dX0_areDelaysGood_4 (by decide) ?_
  refine tp_i (y := nI 0) nI_0.symm ?_
  refine lv_istore_n (lv' := [(3, .int (nI 0)), (1, .long (-1)), (0, .ref x)]) hx hb dX0_areDelaysGood_5 rfl hl (by decide) rfl (fun ls hl => ?_)
  have hloop : ∀ (n k : Nat) (b : Int64) (ls : Array Slot), k + n = ec → (wf_dg ed now n k b ↔ wf_dg ed now ec 0 (-1)) → lv_has ls 4 [(0, .ref x), (1, .long b), (3, .int (nI k))] → W p l e (headSpec wsX0_areDelaysGood ({ frames := 0, cells := 0, slots := 0, locals := 0 })).room s m (([.ref x] : List Value).toArray) below meth c s.heap [] 0 0 (MQ below (vp_Si (fun v => v = 1 ∧ wf_dg ed now ec 0 (-1) ∨ v = 0 ∧ ¬ wf_dg ed now ec 0 (-1))) (([.ref x] : List Value).toArray) s 0 0 (fun _ => False)) (F0 m 6 ls []) := by
    intro n
    induction n with
    | zero =>
      intro k b ls hk hw hl
      refine lv_iload_n hx hb dX0_areDelaysGood_6 rfl (lv_at hl 2 rfl) ?_
      refine lv_aload_n hx hb dX0_areDelaysGood_7 rfl (lv_at hl 0 rfl) ?_
      refine va_get (D := (dC, dI)) (ci := 0) (v := .int (nI ec)) (C := RX0) (T := TX0) (N := 12) hx hb hall inX0 hown hK hP 0 rfl rfl 8 (by decide) (hall _ kw_31) (fun _ h9 => h9) rfl dX0_areDelaysGood_8 ?_
      refine xc_ge (tgt := 58) hx hb (by omega) (by omega) dX0_areDelaysGood_11 (by decide) (fun c_1 => ?_) (fun c_1 => ?_)
      · refine lv_iconst (v := 1) hx hb dX0_areDelaysGood_58 (by decide) ?_
        exact W.zret (v := 1) (ty := .boolean) hx hb hr narrow_b1 (fun t9 ht hW => ⟨1, rfl, Or.inl ⟨rfl, hw.mp trivial⟩, ht⟩) (fun q hq => nomatch hq) dX0_areDelaysGood_59
      · exact absurd c_1 (by omega)
    | succ n ih =>
      intro k b ls hk hw hl
      refine lv_iload_n hx hb dX0_areDelaysGood_6 rfl (lv_at hl 2 rfl) ?_
      refine lv_aload_n hx hb dX0_areDelaysGood_7 rfl (lv_at hl 0 rfl) ?_
      refine va_get (D := (dC, dI)) (ci := 0) (v := .int (nI ec)) (C := RX0) (T := TX0) (N := 12) hx hb hall inX0 hown hK hP 0 rfl rfl 8 (by decide) (hall _ kw_31) (fun _ h9 => h9) rfl dX0_areDelaysGood_8 ?_
      refine xc_ge (tgt := 58) hx hb (by omega) (by omega) dX0_areDelaysGood_11 (by decide) (fun c_2 => ?_) (fun c_2 => ?_)
      · exact absurd c_2 (by omega)
      · refine lv_aload_n hx hb dX0_areDelaysGood_14 rfl (lv_at hl 0 rfl) ?_
        refine va_get (D := (dC, dI)) (ci := 0) (v := .ref a6) (C := RX0) (T := TX0) (N := 12) hx hb hall inX0 hown hK hP 0 rfl rfl 7 (by decide) (hall _ kw_30) (fun _ h9 => h9) rfl dX0_areDelaysGood_15 ?_
        refine lv_iload_n hx hb dX0_areDelaysGood_18 rfl (lv_at hl 2 rfl) ?_
        refine xa_lald hx hb hK hP 6 1 rfl rfl (by omega) (by omega) dX0_areDelaysGood_19 ?_
        refine lv_lload_n hx hb dX0_areDelaysGood_20 rfl (lv_at hl 1 rfl) ?_
        refine xl_le (tgt := 43) hx hb dX0_areDelaysGood_21 dX0_areDelaysGood_22 (by decide) (fun c_3 => ?_) (fun c_3 => ?_)
        · have c_A := c_3
          refine lv_iconst (v := 0) hx hb dX0_areDelaysGood_43 (by decide) ?_
          exact W.zret (v := 0) (ty := .boolean) hx hb hr narrow_b0 (fun t9 ht hW => ⟨0, rfl, Or.inr ⟨rfl, fun q => by first | exact (hw.mpr q).1 c_A | exact c_B (hw.mpr q).2.1⟩, ht⟩) (fun q hq => nomatch hq) dX0_areDelaysGood_44
        · have c_A := c_3
          refine lv_aload_n hx hb dX0_areDelaysGood_25 rfl (lv_at hl 0 rfl) ?_
          refine va_get (D := (dC, dI)) (ci := 0) (v := .long now) (C := RX0) (T := TX0) (N := 12) hx hb hall inX0 hown hK hP 0 rfl rfl 11 (by decide) (hall _ kw_34) (fun _ h9 => h9) rfl dX0_areDelaysGood_26 ?_
          refine lv_aload_n hx hb dX0_areDelaysGood_29 rfl (lv_at hl 0 rfl) ?_
          refine va_get (D := (dC, dI)) (ci := 0) (v := .ref a6) (C := RX0) (T := TX0) (N := 12) hx hb hall inX0 hown hK hP 0 rfl rfl 7 (by decide) (hall _ kw_30) (fun _ h9 => h9) rfl dX0_areDelaysGood_30 ?_
          refine lv_iload_n hx hb dX0_areDelaysGood_33 rfl (lv_at hl 2 rfl) ?_
          refine xa_lald hx hb hK hP 6 1 rfl rfl (by omega) (by omega) dX0_areDelaysGood_34 ?_
          refine lv_ladd hx hb dX0_areDelaysGood_35 ?_
          refine lv_ldc2 (v := 1152921504606846976) hx hb hown (hall _ kw_102) dX0_areDelaysGood_36 ?_
          refine xl_le (tgt := 45) hx hb dX0_areDelaysGood_39 dX0_areDelaysGood_40 (by decide) (fun c_4 => ?_) (fun c_4 => ?_)
          · have c_B := c_4
            refine lv_aload_n hx hb dX0_areDelaysGood_45 rfl (lv_at hl 0 rfl) ?_
            refine va_get (D := (dC, dI)) (ci := 0) (v := .ref a6) (C := RX0) (T := TX0) (N := 12) hx hb hall inX0 hown hK hP 0 rfl rfl 7 (by decide) (hall _ kw_30) (fun _ h9 => h9) rfl dX0_areDelaysGood_46 ?_
            refine lv_iload_n hx hb dX0_areDelaysGood_49 rfl (lv_at hl 2 rfl) ?_
            refine xa_lald hx hb hK hP 6 1 rfl rfl (by omega) (by omega) dX0_areDelaysGood_50 ?_
            refine lv_lstore_n (lv' := [(1, .long (ed k)), (0, .ref x), (3, .int (nI k))]) hx hb dX0_areDelaysGood_51 rfl hl (by decide) rfl (fun ls hl => ?_)
            refine lv_iinc (v := nI (k + 1)) (lv' := [(3, .int (nI (k + 1))), (1, .long (ed k)), (0, .ref x)]) hx hb dX0_areDelaysGood_52 hl (k := 2) rfl (nI_1 k) (by decide) rfl (fun ls hl => ?_)
            refine lv_goto (tgt := 6) hx hb dX0_areDelaysGood_55 (by decide) ?_
            exact ih (k + 1) (ed k) ls (by omega) ⟨fun q => hw.mp ⟨c_A, c_B, q⟩, fun q => (hw.mpr q).2.2⟩ (lv_sub hl [2, 1, 0] rfl)
          · have c_B := c_4
            refine lv_iconst (v := 0) hx hb dX0_areDelaysGood_43 (by decide) ?_
            exact W.zret (v := 0) (ty := .boolean) hx hb hr narrow_b0 (fun t9 ht hW => ⟨0, rfl, Or.inr ⟨rfl, fun q => by first | exact (hw.mpr q).1 c_A | exact c_B (hw.mpr q).2.1⟩, ht⟩) (fun q hq => nomatch hq) dX0_areDelaysGood_44
  exact hloop ec 0 (-1) ls (by omega) Iff.rfl (lv_sub hl [2, 1, 0] rfl)
set_option maxHeartbeats 4000000 in
set_option maxRecDepth 100000 in
theorem c_at (l : Launch) (dC : Nat → ClassId) (dI : Nat → Nat → Nat) (x a1 a2 a3 a4 a5 a6 a7 : Nat) (cI cJ : ClassId) (nD nR : Nat) (dv : Nat → Int64) (r : Nat → Nat) (cap : Nat) (ti va ev ed : Nat → Int64) (ec : Nat) (ad : Nat → Int32) (ac : Nat) (now : Int64) (hI : wf_R nD nR cap ec ac r) (d q : Nat) (z : Int32) (hd : d < nD) (hq : q < r (d + 1) - r d) : Met l yX0_at wsX0_at ({ frames := 1, cells := 0, slots := 0, locals := 21 }) (va_Pc [.ref x, .int (nI d), .int (nI q), .int z] (fun U => va_P (dC, dI) vwCl (wr x a1 a2 a3 a4 a5 a6 a7 cI cJ nD nR dv r cap ti va ev ed ec ad ac now) U.heap ∧ va_K (dC, dI) vwCl [(cI, .int), (cJ, .long)] U)) (vp_Sl (fun v => v = if z = 0 then va (r d + q) else ti (r d + q))) 0 0 (fun _ => False) := by
  refine Met.ofW (cc := cX0_at) (maxL := 5) (ret := (some .long)) (by decide) rfl ?_
  intro p e s m args below meth c s₁ B hml hv
  obtain ⟨rfl, hP, hK⟩ := hv
  have hx := B.exec
  have hb := B.bytes
  have hr := B.returns
  have hts := atoms_spec (ws := wsX0_at) B.pre
  have hown : s.vm.findClass RX0 = some m.cls := findClass_of_methodNamed B.named
  have hlocks := B.notSynchronized
  have hall := fun (w : Cond) (h : w ∈ allw) => hts w (List.mem_cons_of_mem _ h)
  have hl := lv_entry ([.ref x, .int (nI d), .int (nI q), .int z]) (n := 5) (Nat.le_of_ble_eq_true rfl)
  rw [lg_entry_eq]
  generalize (lg_sl ([.ref x, .int (nI d), .int (nI q), .int z]) ++ List.replicate (5 - (lg_sl ([.ref x, .int (nI d), .int (nI q), .int z])).length) Slot.unset).toArray = ls at hl ⊢
  have hl : lv_has ls 5 [(0, .ref x), (1, .int (nI d)), (2, .int (nI q)), (3, .int z)] := hl
  have hI0 := hI
  obtain ⟨hnD1, hnD, hnR1, hnR, hcap, hrc, hrR, hr0, hmo, hec, hac⟩ := hI
  have hle := wf_le hmo (show d + 1 ≤ nD by omega) (Nat.le_refl nD)
  refine lv_aload_n hx hb dX0_at_0 rfl (lv_at hl 0 rfl) ?_
  refine lv_iload_n hx hb dX0_at_1 rfl (lv_at hl 1 rfl) ?_
  refine xv_call (W.runV (As := [.int (nI d)]) (rest := []) ⟨hx, hb, hml, hown, hall⟩ (c_requireDriver l dC dI x a1 a2 a3 a4 a5 a6 a7 cI cJ nD nR dv r cap ti va ev ed ec ad ac now hI0 d hd) (cwV 1 hall gX0_62 rfl rfl rfl (by decide +kernel) ⟨Nat.le_of_ble_eq_true rfl, Nat.le_of_ble_eq_true rfl⟩) ⟨xr_blind, va_recv hK hP (ci := 0) (q0 := 0) rfl rfl, fun U hU hW => ⟨rfl, by rw [hU]; exact hP, va_K.moved hW.alike hK⟩⟩ rfl rfl hl.1 rfl (lv_room (Nat.le_of_ble_eq_true rfl)) dX0_at_2 ⟨by first | exact Nat.zero_le _ | omega, by first | exact Nat.zero_le _ | omega⟩) (fun hv_2 => ?_)
  refine lv_iload_n hx hb dX0_at_5 rfl (lv_at hl 2 rfl) ?_
  refine lv_if_lt (tgt := 18) hx hb dX0_at_6 (by decide) (fun c_3 => ?_) (fun c_3 => ?_)
  · exact absurd c_3 (nI_pos (by omega))
  · refine lv_iload_n hx hb dX0_at_9 rfl (lv_at hl 2 rfl) ?_
    refine lv_aload_n hx hb dX0_at_10 rfl (lv_at hl 0 rfl) ?_
    refine lv_iload_n hx hb dX0_at_11 rfl (lv_at hl 1 rfl) ?_
    refine vp_callSi (W.runV (As := [.int (nI d)]) (rest := [.int (nI q)]) ⟨hx, hb, hml, hown, hall⟩ (c_rowLength l dC dI x a1 a2 a3 a4 a5 a6 a7 cI cJ nD nR dv r cap ti va ev ed ec ad ac now hI0 d hd) (cwV 1 hall gX0_106 rfl rfl rfl (by decide +kernel) ⟨Nat.le_of_ble_eq_true rfl, Nat.le_of_ble_eq_true rfl⟩) ⟨xr_blind, va_recv hK hP (ci := 0) (q0 := 0) rfl rfl, fun U hU hW => ⟨rfl, by rw [hU]; exact hP, va_K.moved hW.alike hK⟩⟩ rfl rfl hl.1 rfl (lv_room (Nat.le_of_ble_eq_true rfl)) dX0_at_12 ⟨by first | exact Nat.zero_le _ | omega, by first | exact Nat.zero_le _ | omega⟩) (fun v_4 hv_5 => ?_)
    subst hv_5
    refine xc_lt (tgt := 28) hx hb (by omega) (by omega) dX0_at_15 (by decide) (fun c_6 => ?_) (fun c_6 => ?_)
    · refine lv_aload_n hx hb dX0_at_28 rfl (lv_at hl 0 rfl) ?_
      refine va_get (D := (dC, dI)) (ci := 0) (v := .ref a2) (C := RX0) (T := TX0) (N := 12) hx hb hall inX0 hown hK hP 0 rfl rfl 3 (by decide) (hall _ kw_26) (fun _ h9 => h9) rfl dX0_at_29 ?_
      refine lv_iload_n hx hb dX0_at_32 rfl (lv_at hl 1 rfl) ?_
      refine xa_iald hx hb hK hP 2 0 rfl rfl (by omega) (by omega) dX0_at_33 ?_
      refine lv_iload_n hx hb dX0_at_34 rfl (lv_at hl 2 rfl) ?_
      refine lv_iadd hx hb dX0_at_35 ?_
      refine tp_i (y := nI (r d + q)) (nI_add (r d) q) ?_
      refine lv_istore (lv' := [(4, .int (nI (r d + q))), (0, .ref x), (1, .int (nI d)), (2, .int (nI q)), (3, .int z)]) hx hb dX0_at_36 hl (by decide) rfl (fun ls hl => ?_)
      refine lv_iload_n hx hb dX0_at_38 rfl (lv_at hl 4 rfl) ?_
      refine lv_if_eq (tgt := 52) hx hb dX0_at_39 (by decide) (fun c_7 => ?_) (fun c_7 => ?_)
      · have c_A := c_7
        refine lv_aload_n hx hb dX0_at_52 rfl (lv_at hl 1 rfl) ?_
        refine va_get (D := (dC, dI)) (ci := 0) (v := .ref a4) (C := RX0) (T := TX0) (N := 12) hx hb hall inX0 hown hK hP 0 rfl rfl 5 (by decide) (hall _ kw_28) (fun _ h9 => h9) rfl dX0_at_53 ?_
        refine lv_iload hx hb dX0_at_56 (lv_at hl 0 rfl) ?_
        refine xa_lald hx hb hK hP 4 1 rfl rfl (by omega) (by omega) dX0_at_58 ?_
        exact W.lret (v := va (r d + q)) hx hb hr (fun t9 ht hW => ⟨va (r d + q), rfl, (if_pos c_A).symm, ht⟩) (fun q hq => nomatch hq) dX0_at_59
      · have c_A := c_7
        refine lv_aload_n hx hb dX0_at_42 rfl (lv_at hl 1 rfl) ?_
        refine va_get (D := (dC, dI)) (ci := 0) (v := .ref a3) (C := RX0) (T := TX0) (N := 12) hx hb hall inX0 hown hK hP 0 rfl rfl 4 (by decide) (hall _ kw_27) (fun _ h9 => h9) rfl dX0_at_43 ?_
        refine lv_iload hx hb dX0_at_46 (lv_at hl 0 rfl) ?_
        refine xa_lald hx hb hK hP 3 1 rfl rfl (by omega) (by omega) dX0_at_48 ?_
        refine lv_goto (tgt := 59) hx hb dX0_at_49 (by decide) ?_
        exact W.lret (v := ti (r d + q)) hx hb hr (fun t9 ht hW => ⟨ti (r d + q), rfl, (if_neg c_A).symm, ht⟩) (fun q hq => nomatch hq) dX0_at_59
    · exact absurd c_6 (by omega)
set_option maxHeartbeats 4000000 in
set_option maxRecDepth 100000 in
theorem x_at2 (l : Launch) (dC : Nat → ClassId) (dI : Nat → Nat → Nat) (x a1 a2 a3 a4 a5 a6 a7 : Nat) (cI cJ : ClassId) (nD nR : Nat) (dv : Nat → Int64) (r : Nat → Nat) (cap : Nat) (ti va ev ed : Nat → Int64) (ec : Nat) (ad : Nat → Int32) (ac : Nat) (now : Int64) (hst : l.stackTraces = false) (hI : wf_R nD nR cap ec ac r) (d : Nat) (j z : Int32) (hd : d < nD) (hbad : j < 0 ∨ nI (r (d + 1) - r d) ≤ j) : xt_Met l yX0_at wsX0_at ({ frames := 6, cells := 1, slots := 6, locals := 82 }) (va_Pc [.ref x, .int (nI d), .int j, .int z] (fun U => va_P (dC, dI) vwCl (wr x a1 a2 a3 a4 a5 a6 a7 cI cJ nD nR dv r cap ti va ev ed ec ad ac now) U.heap ∧ va_K (dC, dI) vwCl [(cI, .int), (cJ, .long)] U ∧ xt_ok U)) "java/lang/IndexOutOfBoundsException" := by
  refine xt_ofW (cc := cX0_at) (maxL := 5) (ret := (some .long)) (by decide) rfl ?_
  intro p e s m args below meth c s₁ B hml hout hv
  obtain ⟨rfl, hP, hK, hok⟩ := hv
  have hx := B.exec
  have hb := B.bytes
  have hr := B.returns
  have hts := atoms_spec (ws := wsX0_at) B.pre
  have hown : s.vm.findClass RX0 = some m.cls := findClass_of_methodNamed B.named
  have hlocks := B.notSynchronized
  have hall := fun (w : Cond) (h : w ∈ allw) => hts w (List.mem_cons_of_mem _ h)
  have hl := lv_entry ([.ref x, .int (nI d), .int j, .int z]) (n := 5) (Nat.le_of_ble_eq_true rfl)
  rw [lg_entry_eq]
  generalize (lg_sl ([.ref x, .int (nI d), .int j, .int z]) ++ List.replicate (5 - (lg_sl ([.ref x, .int (nI d), .int j, .int z])).length) Slot.unset).toArray = ls at hl ⊢
  have hl : lv_has ls 5 [(0, .ref x), (1, .int (nI d)), (2, .int j), (3, .int z)] := hl
  have hI0 := hI
  obtain ⟨hnD1, hnD, hnR1, hnR, hcap, hrc, hrR, hr0, hmo, hec, hac⟩ := hI
  refine lv_aload_n hx hb dX0_at_0 rfl (lv_at hl 0 rfl) ?_
  refine lv_iload_n hx hb dX0_at_1 rfl (lv_at hl 1 rfl) ?_
  refine xv_call (W.runV (As := [.int (nI d)]) (rest := []) ⟨hx, hb, hml, hown, hall⟩ (c_requireDriver l dC dI x a1 a2 a3 a4 a5 a6 a7 cI cJ nD nR dv r cap ti va ev ed ec ad ac now hI0 d hd) (cwV 1 hall gX0_62 rfl rfl rfl (by decide +kernel) ⟨Nat.le_of_ble_eq_true rfl, Nat.le_of_ble_eq_true rfl⟩) ⟨xr_blind, va_recv hK hP (ci := 0) (q0 := 0) rfl rfl, fun U hU hW => ⟨rfl, by rw [hU]; exact hP, va_K.moved hW.alike hK⟩⟩ rfl rfl hl.1 rfl (lv_room (Nat.le_of_ble_eq_true rfl)) dX0_at_2 ⟨by first | exact Nat.zero_le _ | omega, by first | exact Nat.zero_le _ | omega⟩) (fun hv_2 => ?_)
  refine lv_iload_n hx hb dX0_at_5 rfl (lv_at hl 2 rfl) ?_
  refine lv_if_lt (tgt := 18) hx hb dX0_at_6 (by decide) (fun c_3 => ?_) (fun c_3 => ?_)
  · have c_A := c_3
    obtain ⟨sa, hsa⟩ := hok.2 (122, "there is no such transaction") (by decide)
    exact xt_throw (own := RX0) (cls := "java/lang/IndexOutOfBoundsException") (text := "there is no such transaction") (names := xt_rt) (ik := 120) (is := 122) (ic := 124) hx hb hst hown (by decide) (by decide) (xt_at hok _ (by decide +kernel)) (xt_at hok _ (by decide +kernel)) hsa (fun w hw => xt_at hok w (xt_in3 w hw)) (hl.1.trans hml.symm) dX0_at_18 dX0_at_21 dX0_at_22 dX0_at_24 dX0_at_27 hout (by decide) (by decide) (by decide) (by decide) hlocks
  · have c_A := c_3
    refine lv_iload_n hx hb dX0_at_9 rfl (lv_at hl 2 rfl) ?_
    refine lv_aload_n hx hb dX0_at_10 rfl (lv_at hl 0 rfl) ?_
    refine lv_iload_n hx hb dX0_at_11 rfl (lv_at hl 1 rfl) ?_
    refine vp_callSi (W.runV (As := [.int (nI d)]) (rest := [.int j]) ⟨hx, hb, hml, hown, hall⟩ (c_rowLength l dC dI x a1 a2 a3 a4 a5 a6 a7 cI cJ nD nR dv r cap ti va ev ed ec ad ac now hI0 d hd) (cwV 1 hall gX0_106 rfl rfl rfl (by decide +kernel) ⟨Nat.le_of_ble_eq_true rfl, Nat.le_of_ble_eq_true rfl⟩) ⟨xr_blind, va_recv hK hP (ci := 0) (q0 := 0) rfl rfl, fun U hU hW => ⟨rfl, by rw [hU]; exact hP, va_K.moved hW.alike hK⟩⟩ rfl rfl hl.1 rfl (lv_room (Nat.le_of_ble_eq_true rfl)) dX0_at_12 ⟨by first | exact Nat.zero_le _ | omega, by first | exact Nat.zero_le _ | omega⟩) (fun v_4 hv_5 => ?_)
    subst hv_5
    refine lv_icmp_lt (tgt := 28) hx hb dX0_at_15 (by decide) (fun c_6 => ?_) (fun c_6 => ?_)
    · exact absurd hbad (fun q => q.elim c_A (fun q => absurd c_6 (Int32.not_lt.mpr q)))
    · obtain ⟨sa, hsa⟩ := hok.2 (122, "there is no such transaction") (by decide)
      exact xt_throw (own := RX0) (cls := "java/lang/IndexOutOfBoundsException") (text := "there is no such transaction") (names := xt_rt) (ik := 120) (is := 122) (ic := 124) hx hb hst hown (by decide) (by decide) (xt_at hok _ (by decide +kernel)) (xt_at hok _ (by decide +kernel)) hsa (fun w hw => xt_at hok w (xt_in3 w hw)) (hl.1.trans hml.symm) dX0_at_18 dX0_at_21 dX0_at_22 dX0_at_24 dX0_at_27 hout (by decide) (by decide) (by decide) (by decide) hlocks
set_option maxHeartbeats 4000000 in
set_option maxRecDepth 100000 in
theorem c_projected (l : Launch) (dC : Nat → ClassId) (dI : Nat → Nat → Nat) (x a1 a2 a3 a4 a5 a6 a7 : Nat) (cI cJ : ClassId) (nD nR : Nat) (dv : Nat → Int64) (r : Nat → Nat) (cap : Nat) (ti va ev ed : Nat → Int64) (ec : Nat) (ad : Nat → Int32) (ac : Nat) (now : Int64) (hI : wf_R nD nR cap ec ac r) (d : Nat) (t : Int64) (hd : d < nD) (ht : ¬ t < now) : Met l yX0_projected wsX0_projected ({ frames := 1, cells := 0, slots := 0, locals := 25 }) (va_Pc [.ref x, .int (nI d), .long t] (fun U => va_P (dC, dI) vwCl (wr x a1 a2 a3 a4 a5 a6 a7 cI cJ nD nR dv r cap ti va ev ed ec ad ac now) U.heap ∧ va_K (dC, dI) vwCl [(cI, .int), (cJ, .long)] U)) (vp_Sl (fun v => v = if wf_fb ti t (r (d + 1) - r d) (r d) ≤ r d then dv d else va (wf_fb ti t (r (d + 1) - r d) (r d) - 1))) 0 0 (fun _ => False) := by
  refine Met.ofW (cc := cX0_projected) (maxL := 6) (ret := (some .long)) (by decide) rfl ?_
  intro p e s m args below meth c s₁ B hml hv
  obtain ⟨rfl, hP, hK⟩ := hv
  have hx := B.exec
  have hb := B.bytes
  have hr := B.returns
  have hts := atoms_spec (ws := wsX0_projected) B.pre
  have hown : s.vm.findClass RX0 = some m.cls := findClass_of_methodNamed B.named
  have hlocks := B.notSynchronized
  have hall := fun (w : Cond) (h : w ∈ allw) => hts w (List.mem_cons_of_mem _ h)
  have hl := lv_entry ([.ref x, .int (nI d), .long t]) (n := 6) (Nat.le_of_ble_eq_true rfl)
  rw [lg_entry_eq]
  generalize (lg_sl ([.ref x, .int (nI d), .long t]) ++ List.replicate (6 - (lg_sl ([.ref x, .int (nI d), .long t])).length) Slot.unset).toArray = ls at hl ⊢
  have hl : lv_has ls 6 [(0, .ref x), (1, .int (nI d)), (2, .long t)] := hl
  have hI0 := hI
  obtain ⟨hnD1, hnD, hnR1, hnR, hcap, hrc, hrR, hr0, hmo, hec, hac⟩ := hI
  have hle := wf_le hmo (show d + 1 ≤ nD by omega) (Nat.le_refl nD)
  refine lv_aload_n hx hb dX0_projected_0 rfl (lv_at hl 0 rfl) ?_
  refine lv_iload_n hx hb dX0_projected_1 rfl (lv_at hl 1 rfl) ?_
  refine xv_call (W.runV (As := [.int (nI d)]) (rest := []) ⟨hx, hb, hml, hown, hall⟩ (c_requireDriver l dC dI x a1 a2 a3 a4 a5 a6 a7 cI cJ nD nR dv r cap ti va ev ed ec ad ac now hI0 d hd) (cwV 1 hall gX0_62 rfl rfl rfl (by decide +kernel) ⟨Nat.le_of_ble_eq_true rfl, Nat.le_of_ble_eq_true rfl⟩) ⟨xr_blind, va_recv hK hP (ci := 0) (q0 := 0) rfl rfl, fun U hU hW => ⟨rfl, by rw [hU]; exact hP, va_K.moved hW.alike hK⟩⟩ rfl rfl hl.1 rfl (lv_room (Nat.le_of_ble_eq_true rfl)) dX0_projected_2 ⟨by first | exact Nat.zero_le _ | omega, by first | exact Nat.zero_le _ | omega⟩) (fun hv_2 => ?_)
  refine lv_lload_n hx hb dX0_projected_5 rfl (lv_at hl 2 rfl) ?_
  refine lv_aload_n hx hb dX0_projected_6 rfl (lv_at hl 0 rfl) ?_
  refine va_get (D := (dC, dI)) (ci := 0) (v := .long now) (C := RX0) (T := TX0) (N := 12) hx hb hall inX0 hown hK hP 0 rfl rfl 11 (by decide) (hall _ kw_34) (fun _ h9 => h9) rfl dX0_projected_7 ?_
  refine xl_ge (tgt := 24) hx hb dX0_projected_10 dX0_projected_11 (by decide) (fun c_3 => ?_) (fun c_3 => ?_)
  · refine lv_aload_n hx hb dX0_projected_24 rfl (lv_at hl 0 rfl) ?_
    refine va_get (D := (dC, dI)) (ci := 0) (v := .ref a2) (C := RX0) (T := TX0) (N := 12) hx hb hall inX0 hown hK hP 0 rfl rfl 3 (by decide) (hall _ kw_26) (fun _ h9 => h9) rfl dX0_projected_25 ?_
    refine lv_iload_n hx hb dX0_projected_28 rfl (lv_at hl 1 rfl) ?_
    refine xa_iald hx hb hK hP 2 0 rfl rfl (by omega) (by omega) dX0_projected_29 ?_
    refine lv_istore (lv' := [(4, .int (nI (r d))), (0, .ref x), (1, .int (nI d)), (2, .long t)]) hx hb dX0_projected_30 hl (by decide) rfl (fun ls hl => ?_)
    refine lv_aload_n hx hb dX0_projected_32 rfl (lv_at hl 1 rfl) ?_
    refine lv_iload hx hb dX0_projected_33 (lv_at hl 0 rfl) ?_
    refine lv_aload_n hx hb dX0_projected_35 rfl (lv_at hl 1 rfl) ?_
    refine va_get (D := (dC, dI)) (ci := 0) (v := .ref a2) (C := RX0) (T := TX0) (N := 12) hx hb hall inX0 hown hK hP 0 rfl rfl 3 (by decide) (hall _ kw_26) (fun _ h9 => h9) rfl dX0_projected_36 ?_
    refine lv_iload_n hx hb dX0_projected_39 rfl (lv_at hl 2 rfl) ?_
    refine lv_iconst (v := 1) hx hb dX0_projected_40 (by decide) ?_
    refine lv_iadd hx hb dX0_projected_41 ?_
    refine tp_i (y := nI (d + 1)) (nI_1 d) ?_
    refine xa_iald hx hb hK hP 2 0 rfl rfl (by omega) (by omega) dX0_projected_42 ?_
    refine lv_lload_n hx hb dX0_projected_43 rfl (lv_at hl 3 rfl) ?_
    refine vp_callSi (W.runV (As := [.int (nI (r d)), .int (nI (r (d + 1))), .long t]) (rest := []) ⟨hx, hb, hml, hown, hall⟩ (c_firstBehind l dC dI x a1 a2 a3 a4 a5 a6 a7 cI cJ nD nR dv r cap ti va ev ed ec ad ac now (r d) (r (d + 1)) t (hmo d hd) (Nat.le_trans hle hrc) hcap) (cwV 3 hall gX0_82 rfl rfl rfl (by decide +kernel) ⟨Nat.le_of_ble_eq_true rfl, Nat.le_of_ble_eq_true rfl⟩) ⟨xr_blind, va_recv hK hP (ci := 0) (q0 := 0) rfl rfl, fun U hU hW => ⟨rfl, by rw [hU]; exact hP, va_K.moved hW.alike hK⟩⟩ rfl rfl hl.1 rfl (lv_room (Nat.le_of_ble_eq_true rfl)) dX0_projected_44 ⟨by first | exact Nat.zero_le _ | omega, by first | exact Nat.zero_le _ | omega⟩) (fun v_4 hv_5 => ?_)
    obtain ⟨f, hf1, hf2, hf3⟩ : ∃ f, f = wf_fb ti t (r (d + 1) - r d) (r d) ∧ r d ≤ f ∧ f ≤ r d + (r (d + 1) - r d) := ⟨_, rfl, wf_fb_le ti t _ _⟩
    have hmd := hmo d hd
    obtain rfl : v_4 = nI f := hv_5.trans (by rw [hf1])
    refine lv_istore (lv' := [(5, .int (nI f)), (4, .int (nI (r d))), (0, .ref x), (1, .int (nI d)), (2, .long t)]) hx hb dX0_projected_47 hl (by decide) rfl (fun ls hl => ?_)
    refine lv_iload hx hb dX0_projected_49 (lv_at hl 0 rfl) ?_
    refine lv_iload hx hb dX0_projected_51 (lv_at hl 1 rfl) ?_
    refine xc_le (tgt := 68) hx hb (by omega) (by omega) dX0_projected_53 (by decide) (fun c_6 => ?_) (fun c_6 => ?_)
    · have c_A := c_6
      refine lv_aload_n hx hb dX0_projected_68 rfl (lv_at hl 2 rfl) ?_
      refine va_get (D := (dC, dI)) (ci := 0) (v := .ref a1) (C := RX0) (T := TX0) (N := 12) hx hb hall inX0 hown hK hP 0 rfl rfl 2 (by decide) (hall _ kw_25) (fun _ h9 => h9) rfl dX0_projected_69 ?_
      refine lv_iload_n hx hb dX0_projected_72 rfl (lv_at hl 3 rfl) ?_
      refine xa_lald hx hb hK hP 1 1 rfl rfl (by omega) (by omega) dX0_projected_73 ?_
      exact W.lret (v := dv d) hx hb hr (fun t9 ht hW => ⟨dv d, rfl, by rw [← hf1]; exact (if_pos c_A).symm, ht⟩) (fun q hq => nomatch hq) dX0_projected_74
    · have c_A := c_6
      refine lv_aload_n hx hb dX0_projected_56 rfl (lv_at hl 2 rfl) ?_
      refine va_get (D := (dC, dI)) (ci := 0) (v := .ref a4) (C := RX0) (T := TX0) (N := 12) hx hb hall inX0 hown hK hP 0 rfl rfl 5 (by decide) (hall _ kw_28) (fun _ h9 => h9) rfl dX0_projected_57 ?_
      refine lv_iload hx hb dX0_projected_60 (lv_at hl 0 rfl) ?_
      refine lv_iconst (v := 1) hx hb dX0_projected_62 (by decide) ?_
      refine lv_isub hx hb dX0_projected_63 ?_
      refine tp_i (y := nI (f - 1)) (by rw [show f = (f - 1) + 1 by omega]; exact nI_pred (f - 1)) ?_
      refine xa_lald hx hb hK hP 4 1 rfl rfl (by omega) (by omega) dX0_projected_64 ?_
      refine lv_goto (tgt := 74) hx hb dX0_projected_65 (by decide) ?_
      exact W.lret (v := va (f - 1)) hx hb hr (fun t9 ht hW => ⟨va (f - 1), rfl, by rw [← hf1]; exact (if_neg (Nat.not_le.mpr c_A)).symm, ht⟩) (fun q hq => nomatch hq) dX0_projected_74
  · exact absurd (Int64.not_le.mp c_3) ht
set_option maxHeartbeats 4000000 in
set_option maxRecDepth 100000 in
theorem x_projected2 (l : Launch) (dC : Nat → ClassId) (dI : Nat → Nat → Nat) (x a1 a2 a3 a4 a5 a6 a7 : Nat) (cI cJ : ClassId) (nD nR : Nat) (dv : Nat → Int64) (r : Nat → Nat) (cap : Nat) (ti va ev ed : Nat → Int64) (ec : Nat) (ad : Nat → Int32) (ac : Nat) (now : Int64) (hst : l.stackTraces = false) (hI : wf_R nD nR cap ec ac r) (d : Nat) (t : Int64) (hd : d < nD) (hbad : t < now) : xt_Met l yX0_projected wsX0_projected ({ frames := 6, cells := 1, slots := 6, locals := 82 }) (va_Pc [.ref x, .int (nI d), .long t] (fun U => va_P (dC, dI) vwCl (wr x a1 a2 a3 a4 a5 a6 a7 cI cJ nD nR dv r cap ti va ev ed ec ad ac now) U.heap ∧ va_K (dC, dI) vwCl [(cI, .int), (cJ, .long)] U ∧ xt_ok U)) "java/lang/IllegalArgumentException" := by
  refine xt_ofW (cc := cX0_projected) (maxL := 6) (ret := (some .long)) (by decide) rfl ?_
  intro p e s m args below meth c s₁ B hml hout hv
  obtain ⟨rfl, hP, hK, hok⟩ := hv
  have hx := B.exec
  have hb := B.bytes
  have hr := B.returns
  have hts := atoms_spec (ws := wsX0_projected) B.pre
  have hown : s.vm.findClass RX0 = some m.cls := findClass_of_methodNamed B.named
  have hlocks := B.notSynchronized
  have hall := fun (w : Cond) (h : w ∈ allw) => hts w (List.mem_cons_of_mem _ h)
  have hl := lv_entry ([.ref x, .int (nI d), .long t]) (n := 6) (Nat.le_of_ble_eq_true rfl)
  rw [lg_entry_eq]
  generalize (lg_sl ([.ref x, .int (nI d), .long t]) ++ List.replicate (6 - (lg_sl ([.ref x, .int (nI d), .long t])).length) Slot.unset).toArray = ls at hl ⊢
  have hl : lv_has ls 6 [(0, .ref x), (1, .int (nI d)), (2, .long t)] := hl
  have hI0 := hI
  obtain ⟨hnD1, hnD, hnR1, hnR, hcap, hrc, hrR, hr0, hmo, hec, hac⟩ := hI
  refine lv_aload_n hx hb dX0_projected_0 rfl (lv_at hl 0 rfl) ?_
  refine lv_iload_n hx hb dX0_projected_1 rfl (lv_at hl 1 rfl) ?_
  refine xv_call (W.runV (As := [.int (nI d)]) (rest := []) ⟨hx, hb, hml, hown, hall⟩ (c_requireDriver l dC dI x a1 a2 a3 a4 a5 a6 a7 cI cJ nD nR dv r cap ti va ev ed ec ad ac now hI0 d hd) (cwV 1 hall gX0_62 rfl rfl rfl (by decide +kernel) ⟨Nat.le_of_ble_eq_true rfl, Nat.le_of_ble_eq_true rfl⟩) ⟨xr_blind, va_recv hK hP (ci := 0) (q0 := 0) rfl rfl, fun U hU hW => ⟨rfl, by rw [hU]; exact hP, va_K.moved hW.alike hK⟩⟩ rfl rfl hl.1 rfl (lv_room (Nat.le_of_ble_eq_true rfl)) dX0_projected_2 ⟨by first | exact Nat.zero_le _ | omega, by first | exact Nat.zero_le _ | omega⟩) (fun hv_2 => ?_)
  refine lv_lload_n hx hb dX0_projected_5 rfl (lv_at hl 2 rfl) ?_
  refine lv_aload_n hx hb dX0_projected_6 rfl (lv_at hl 0 rfl) ?_
  refine va_get (D := (dC, dI)) (ci := 0) (v := .long now) (C := RX0) (T := TX0) (N := 12) hx hb hall inX0 hown hK hP 0 rfl rfl 11 (by decide) (hall _ kw_34) (fun _ h9 => h9) rfl dX0_projected_7 ?_
  refine xl_ge (tgt := 24) hx hb dX0_projected_10 dX0_projected_11 (by decide) (fun c_3 => ?_) (fun c_3 => ?_)
  · exact absurd hbad (Int64.not_lt.mpr c_3)
  · obtain ⟨sa, hsa⟩ := hok.2 (125, "the time is before NOW") (by decide)
    exact xt_throw (own := RX0) (cls := "java/lang/IllegalArgumentException") (text := "the time is before NOW") (names := xt_rt) (ik := 47) (is := 125) (ic := 51) hx hb hst hown (by decide) (by decide) (xt_at hok _ (by decide +kernel)) (xt_at hok _ (by decide +kernel)) hsa (fun w hw => xt_at hok w (xt_in1 w hw)) (hl.1.trans hml.symm) dX0_projected_14 dX0_projected_17 dX0_projected_18 dX0_projected_20 dX0_projected_23 hout (by decide) (by decide) (by decide) (by decide) hlocks
set_option maxHeartbeats 4000000 in
set_option maxRecDepth 100000 in
theorem c_next (l : Launch) (dC : Nat → ClassId) (dI : Nat → Nat → Nat) (x a1 a2 a3 a4 a5 a6 a7 : Nat) (cI cJ : ClassId) (nD nR : Nat) (dv : Nat → Int64) (r : Nat → Nat) (cap : Nat) (ti va ev ed : Nat → Int64) (ec : Nat) (ad : Nat → Int32) (ac : Nat) (now : Int64) (hI : wf_R nD nR cap ec ac r) : Met l yX0_next wsX0_next ({ frames := 1, cells := 0, slots := 0, locals := 21 }) (va_Pc [.ref x] (fun U => va_P (dC, dI) vwCl (wr x a1 a2 a3 a4 a5 a6 a7 cI cJ nD nR dv r cap ti va ev ed ec ad ac now) U.heap ∧ va_K (dC, dI) vwCl [(cI, .int), (cJ, .long)] U)) (vp_Sl (fun v => v = wf_nx r ti nD 0 (-1))) 0 0 (fun _ => False) := by
  refine Met.ofW (cc := cX0_next) (maxL := 6) (ret := (some .long)) (by decide) rfl ?_
  intro p e s m args below meth c s₁ B hml hv
  obtain ⟨rfl, hP, hK⟩ := hv
  have hx := B.exec
  have hb := B.bytes
  have hr := B.returns
  have hts := atoms_spec (ws := wsX0_next) B.pre
  have hown : s.vm.findClass RX0 = some m.cls := findClass_of_methodNamed B.named
  have hlocks := B.notSynchronized
  have hall := fun (w : Cond) (h : w ∈ allw) => hts w (List.mem_cons_of_mem _ h)
  have hl := lv_entry ([.ref x]) (n := 6) (Nat.le_of_ble_eq_true rfl)
  rw [lg_entry_eq]
  generalize (lg_sl ([.ref x]) ++ List.replicate (6 - (lg_sl ([.ref x])).length) Slot.unset).toArray = ls at hl ⊢
  have hl : lv_has ls 6 [(0, .ref x)] := hl
  have hI0 := hI
  obtain ⟨hnD1, hnD, hnR1, hnR, hcap, hrc, hrR, hr0, hmo, hec, hac⟩ := hI
  refine lv_ldc2 (v := (-1)) hx hb hown (hall _ kw_78) dX0_next_0 ?_
  refine lv_lstore_n (lv' := [(1, .long (-1)), (0, .ref x)]) hx hb dX0_next_3 rfl hl (by decide) rfl (fun ls hl => ?_)
  refine lv_iconst (v := 0) hx hb dX0_next_4 (by decide) ?_
  refine tp_i (y := nI 0) nI_0.symm ?_
  refine lv_istore_n (lv' := [(3, .int (nI 0)), (1, .long (-1)), (0, .ref x)]) hx hb dX0_next_5 rfl hl (by decide) rfl (fun ls hl => ?_)
  have hloop : ∀ (n k : Nat) (le : Int64) (ls : Array Slot), k + n = nD → wf_nx r ti n k le = wf_nx r ti nD 0 (-1) → lv_has ls 6 [(0, .ref x), (1, .long le), (3, .int (nI k))] → W p l e (headSpec wsX0_next ({ frames := 1, cells := 0, slots := 0, locals := 21 })).room s m (([.ref x] : List Value).toArray) below meth c s.heap [] 0 0 (MQ below (vp_Sl (fun v => v = wf_nx r ti nD 0 (-1))) (([.ref x] : List Value).toArray) s 0 0 (fun _ => False)) (F0 m 6 ls []) := by
    intro n
    induction n with
    | zero =>
      intro k le ls hk hw hl
      refine lv_iload_n hx hb dX0_next_6 rfl (lv_at hl 2 rfl) ?_
      refine lv_aload_n hx hb dX0_next_7 rfl (lv_at hl 0 rfl) ?_
      refine va_get (D := (dC, dI)) (ci := 0) (v := .int (nI nD)) (C := RX0) (T := TX0) (N := 12) hx hb hall inX0 hown hK hP 0 rfl rfl 0 (by decide) (hall _ kw_23) (fun _ h9 => h9) rfl dX0_next_8 ?_
      refine xc_ge (tgt := 61) hx hb (by omega) (by omega) dX0_next_11 (by decide) (fun c_1 => ?_) (fun c_1 => ?_)
      · refine lv_lload_n hx hb dX0_next_61 rfl (lv_at hl 1 rfl) ?_
        exact W.lret (v := le) hx hb hr (fun t9 ht hW => ⟨le, rfl, hw, ht⟩) (fun q hq => nomatch hq) dX0_next_62
      · exact absurd c_1 (by omega)
    | succ n ih =>
      intro k le ls hk hw hl
      have hd : k < nD := by omega
      have hmd := hmo k hd
      have hle := wf_le hmo (show k + 1 ≤ nD by omega) (Nat.le_refl nD)
      refine lv_iload_n hx hb dX0_next_6 rfl (lv_at hl 2 rfl) ?_
      refine lv_aload_n hx hb dX0_next_7 rfl (lv_at hl 0 rfl) ?_
      refine va_get (D := (dC, dI)) (ci := 0) (v := .int (nI nD)) (C := RX0) (T := TX0) (N := 12) hx hb hall inX0 hown hK hP 0 rfl rfl 0 (by decide) (hall _ kw_23) (fun _ h9 => h9) rfl dX0_next_8 ?_
      refine xc_ge (tgt := 61) hx hb (by omega) (by omega) dX0_next_11 (by decide) (fun c_2 => ?_) (fun c_2 => ?_)
      · exact absurd c_2 (by omega)
      · refine lv_aload_n hx hb dX0_next_14 rfl (lv_at hl 0 rfl) ?_
        refine lv_iload_n hx hb dX0_next_15 rfl (lv_at hl 2 rfl) ?_
        refine vp_callSi (W.runV (As := [.int (nI k)]) (rest := []) ⟨hx, hb, hml, hown, hall⟩ (c_rowLength l dC dI x a1 a2 a3 a4 a5 a6 a7 cI cJ nD nR dv r cap ti va ev ed ec ad ac now hI0 k hd) (cwV 1 hall gX0_106 rfl rfl rfl (by decide +kernel) ⟨Nat.le_of_ble_eq_true rfl, Nat.le_of_ble_eq_true rfl⟩) ⟨xr_blind, va_recv hK hP (ci := 0) (q0 := 0) rfl rfl, fun U hU hW => ⟨rfl, by rw [hU]; exact hP, va_K.moved hW.alike hK⟩⟩ rfl rfl hl.1 rfl (lv_room (Nat.le_of_ble_eq_true rfl)) dX0_next_16 ⟨by first | exact Nat.zero_le _ | omega, by first | exact Nat.zero_le _ | omega⟩) (fun v_3 hv_4 => ?_)
        subst hv_4
        refine xz_le (tgt := 55) hx hb (by omega) dX0_next_19 (by decide) (fun c_5 => ?_) (fun c_5 => ?_)
        · have c_A := c_5
          refine lv_iinc (v := nI (k + 1)) (lv' := [(3, .int (nI (k + 1))), (0, .ref x), (1, .long le)]) hx hb dX0_next_55 hl (k := 2) rfl (nI_1 k) (by decide) rfl (fun ls hl => ?_)
          refine lv_goto (tgt := 6) hx hb dX0_next_58 (by decide) ?_
          exact ih (k + 1) le ls (by omega) ((congrArg (wf_nx r ti n (k + 1)) ((if_pos c_A).symm)).trans hw) (lv_sub hl [1, 2, 0] rfl)
        · have c_A := c_5
          refine lv_aload_n hx hb dX0_next_22 rfl (lv_at hl 0 rfl) ?_
          refine va_get (D := (dC, dI)) (ci := 0) (v := .ref a3) (C := RX0) (T := TX0) (N := 12) hx hb hall inX0 hown hK hP 0 rfl rfl 4 (by decide) (hall _ kw_27) (fun _ h9 => h9) rfl dX0_next_23 ?_
          refine lv_aload_n hx hb dX0_next_26 rfl (lv_at hl 0 rfl) ?_
          refine va_get (D := (dC, dI)) (ci := 0) (v := .ref a2) (C := RX0) (T := TX0) (N := 12) hx hb hall inX0 hown hK hP 0 rfl rfl 3 (by decide) (hall _ kw_26) (fun _ h9 => h9) rfl dX0_next_27 ?_
          refine lv_iload_n hx hb dX0_next_30 rfl (lv_at hl 2 rfl) ?_
          refine xa_iald hx hb hK hP 2 0 rfl rfl (by omega) (by omega) dX0_next_31 ?_
          refine xa_lald hx hb hK hP 3 1 rfl rfl (by omega) (by omega) dX0_next_32 ?_
          refine lv_lstore (lv' := [(4, .long (ti (r k))), (0, .ref x), (1, .long le), (3, .int (nI k))]) hx hb dX0_next_33 hl (by decide) rfl (fun ls hl => ?_)
          refine lv_lload_n hx hb dX0_next_35 rfl (lv_at hl 2 rfl) ?_
          refine lv_ldc2 (v := (-1)) hx hb hown (hall _ kw_78) dX0_next_36 ?_
          refine xl_ne (tgt := 48) hx hb dX0_next_39 dX0_next_40 (by decide) (fun c_6 => ?_) (fun c_6 => ?_)
          · have c_B := c_6
            refine lv_lload_n hx hb dX0_next_48 rfl (lv_at hl 2 rfl) ?_
            refine lv_lload hx hb dX0_next_49 (lv_at hl 0 rfl) ?_
            refine va_mmin_long hx hb (hml.trans hl.1.symm) hown (hall _ kw_83) (hall _ kw_84) (hall _ kw_2) (hall _ kw_85) (Nat.le_of_ble_eq_true rfl) (Nat.le_of_ble_eq_true rfl) (Nat.le_of_ble_eq_true rfl) (Nat.le_of_ble_eq_true rfl) dX0_next_51 ?_
            refine lv_lstore_n (lv' := [(1, .long (if ti (r k) < le then ti (r k) else le)), (4, .long (ti (r k))), (0, .ref x), (3, .int (nI k))]) hx hb dX0_next_54 rfl hl (by decide) rfl (fun ls hl => ?_)
            refine lv_iinc (v := nI (k + 1)) (lv' := [(3, .int (nI (k + 1))), (1, .long (if ti (r k) < le then ti (r k) else le)), (4, .long (ti (r k))), (0, .ref x)]) hx hb dX0_next_55 hl (k := 3) rfl (nI_1 k) (by decide) rfl (fun ls hl => ?_)
            refine lv_goto (tgt := 6) hx hb dX0_next_58 (by decide) ?_
            exact ih (k + 1) (if ti (r k) < le then ti (r k) else le) ls (by omega) ((congrArg (wf_nx r ti n (k + 1)) (((if_neg (Nat.ne_of_gt c_A)).trans (if_neg c_B)).symm)).trans hw) (lv_sub hl [3, 1, 0] rfl)
          · have c_B := c_6
            refine lv_lload hx hb dX0_next_43 (lv_at hl 0 rfl) ?_
            refine lv_goto (tgt := 54) hx hb dX0_next_45 (by decide) ?_
            refine lv_lstore_n (lv' := [(1, .long (ti (r k))), (4, .long (ti (r k))), (0, .ref x), (3, .int (nI k))]) hx hb dX0_next_54 rfl hl (by decide) rfl (fun ls hl => ?_)
            refine lv_iinc (v := nI (k + 1)) (lv' := [(3, .int (nI (k + 1))), (1, .long (ti (r k))), (4, .long (ti (r k))), (0, .ref x)]) hx hb dX0_next_55 hl (k := 3) rfl (nI_1 k) (by decide) rfl (fun ls hl => ?_)
            refine lv_goto (tgt := 6) hx hb dX0_next_58 (by decide) ?_
            exact ih (k + 1) (ti (r k)) ls (by omega) ((congrArg (wf_nx r ti n (k + 1)) (((if_neg (Nat.ne_of_gt c_A)).trans (if_pos c_B)).symm)).trans hw) (lv_sub hl [3, 1, 0] rfl)
  exact hloop nD 0 (-1) ls (by omega) rfl (lv_sub hl [2, 1, 0] rfl)
set_option maxHeartbeats 4000000 in
set_option maxRecDepth 100000 in
theorem x_element1 (l : Launch) (dC : Nat → ClassId) (dI : Nat → Nat → Nat) (x a1 a2 a3 a4 a5 a6 a7 : Nat) (cI cJ : ClassId) (nD nR : Nat) (dv : Nat → Int64) (r : Nat → Nat) (cap : Nat) (ti va ev ed : Nat → Int64) (ec : Nat) (ad : Nat → Int32) (ac : Nat) (now : Int64) (hst : l.stackTraces = false) (v0 t : Int64) (hbad : t < 0 ∨ 1152921504606846976 < t) : xt_Met l yX0_element wsX0_element ({ frames := 6, cells := 1, slots := 6, locals := 82 }) (va_Pc [.ref x, .long v0, .long t] (fun U => va_P (dC, dI) vwCl (wr x a1 a2 a3 a4 a5 a6 a7 cI cJ nD nR dv r cap ti va ev ed ec ad ac now) U.heap ∧ va_K (dC, dI) vwCl [(cI, .int), (cJ, .long)] U ∧ xt_ok U)) "java/lang/IllegalArgumentException" := by
  refine xt_ofW (cc := cX0_element) (maxL := 5) (ret := none) (by decide) rfl ?_
  intro p e s m args below meth c s₁ B hml hout hv
  obtain ⟨rfl, hP, hK, hok⟩ := hv
  have hx := B.exec
  have hb := B.bytes
  have hr := B.returns
  have hts := atoms_spec (ws := wsX0_element) B.pre
  have hown : s.vm.findClass RX0 = some m.cls := findClass_of_methodNamed B.named
  have hlocks := B.notSynchronized
  have hall := fun (w : Cond) (h : w ∈ allw) => hts w (List.mem_cons_of_mem _ h)
  have hl := lv_entry ([.ref x, .long v0, .long t]) (n := 5) (Nat.le_of_ble_eq_true rfl)
  rw [lg_entry_eq]
  generalize (lg_sl ([.ref x, .long v0, .long t]) ++ List.replicate (5 - (lg_sl ([.ref x, .long v0, .long t])).length) Slot.unset).toArray = ls at hl ⊢
  have hl : lv_has ls 5 [(0, .ref x), (1, .long v0), (3, .long t)] := hl
  refine lv_lload_n hx hb dX0_element_0 rfl (lv_at hl 2 rfl) ?_
  refine lv_lconst (v := 0) hx hb dX0_element_1 (by decide) ?_
  refine xl_lt (tgt := 14) hx hb dX0_element_2 dX0_element_3 (by decide) (fun c_1 => ?_) (fun c_1 => ?_)
  · have c_A := c_1
    obtain ⟨sa, hsa⟩ := hok.2 (49, "the delay is below 0 or above 2^60") (by decide)
    exact xt_throw (own := RX0) (cls := "java/lang/IllegalArgumentException") (text := "the delay is below 0 or above 2^60") (names := xt_rt) (ik := 47) (is := 49) (ic := 51) hx hb hst hown (by decide) (by decide) (xt_at hok _ (by decide +kernel)) (xt_at hok _ (by decide +kernel)) hsa (fun w hw => xt_at hok w (xt_in1 w hw)) (hl.1.trans hml.symm) dX0_element_14 dX0_element_17 dX0_element_18 dX0_element_20 dX0_element_23 hout (by decide) (by decide) (by decide) (by decide) hlocks
  · have c_A := c_1
    refine lv_lload_n hx hb dX0_element_6 rfl (lv_at hl 2 rfl) ?_
    refine lv_ldc2 (v := 1152921504606846976) hx hb hown (hall _ kw_102) dX0_element_7 ?_
    refine xl_le (tgt := 24) hx hb dX0_element_10 dX0_element_11 (by decide) (fun c_2 => ?_) (fun c_2 => ?_)
    · exact absurd hbad (fun q => q.elim c_A (fun q => absurd q (Int64.not_lt.mpr c_2)))
    · obtain ⟨sa, hsa⟩ := hok.2 (49, "the delay is below 0 or above 2^60") (by decide)
      exact xt_throw (own := RX0) (cls := "java/lang/IllegalArgumentException") (text := "the delay is below 0 or above 2^60") (names := xt_rt) (ik := 47) (is := 49) (ic := 51) hx hb hst hown (by decide) (by decide) (xt_at hok _ (by decide +kernel)) (xt_at hok _ (by decide +kernel)) hsa (fun w hw => xt_at hok w (xt_in1 w hw)) (hl.1.trans hml.symm) dX0_element_14 dX0_element_17 dX0_element_18 dX0_element_20 dX0_element_23 hout (by decide) (by decide) (by decide) (by decide) hlocks
set_option maxHeartbeats 4000000 in
set_option maxRecDepth 100000 in
theorem x_element2 (l : Launch) (dC : Nat → ClassId) (dI : Nat → Nat → Nat) (x a1 a2 a3 a4 a5 a6 a7 : Nat) (cI cJ : ClassId) (nD nR : Nat) (dv : Nat → Int64) (r : Nat → Nat) (cap : Nat) (ti va ev ed : Nat → Int64) (ec : Nat) (ad : Nat → Int32) (ac : Nat) (now : Int64) (hst : l.stackTraces = false) (hI : wf_R nD nR cap ec ac r) (v0 t : Int64) (h1 : ¬ t < 0) (h2 : ¬ 1152921504606846976 < t) (hfull : 16 ≤ ec) : xt_Met l yX0_element wsX0_element ({ frames := 6, cells := 1, slots := 6, locals := 82 }) (va_Pc [.ref x, .long v0, .long t] (fun U => va_P (dC, dI) vwCl (wr x a1 a2 a3 a4 a5 a6 a7 cI cJ nD nR dv r cap ti va ev ed ec ad ac now) U.heap ∧ va_K (dC, dI) vwCl [(cI, .int), (cJ, .long)] U ∧ xt_ok U)) "java/lang/IllegalStateException" := by
  refine xt_ofW (cc := cX0_element) (maxL := 5) (ret := none) (by decide) rfl ?_
  intro p e s m args below meth c s₁ B hml hout hv
  obtain ⟨rfl, hP, hK, hok⟩ := hv
  have hx := B.exec
  have hb := B.bytes
  have hr := B.returns
  have hts := atoms_spec (ws := wsX0_element) B.pre
  have hown : s.vm.findClass RX0 = some m.cls := findClass_of_methodNamed B.named
  have hlocks := B.notSynchronized
  have hall := fun (w : Cond) (h : w ∈ allw) => hts w (List.mem_cons_of_mem _ h)
  have hl := lv_entry ([.ref x, .long v0, .long t]) (n := 5) (Nat.le_of_ble_eq_true rfl)
  rw [lg_entry_eq]
  generalize (lg_sl ([.ref x, .long v0, .long t]) ++ List.replicate (5 - (lg_sl ([.ref x, .long v0, .long t])).length) Slot.unset).toArray = ls at hl ⊢
  have hl : lv_has ls 5 [(0, .ref x), (1, .long v0), (3, .long t)] := hl
  obtain ⟨hnD1, hnD, hnR1, hnR, hcap, hrc, hrR, hr0, hmo, hec, hac⟩ := hI
  refine lv_lload_n hx hb dX0_element_0 rfl (lv_at hl 2 rfl) ?_
  refine lv_lconst (v := 0) hx hb dX0_element_1 (by decide) ?_
  refine xl_lt (tgt := 14) hx hb dX0_element_2 dX0_element_3 (by decide) (fun c_1 => ?_) (fun c_1 => ?_)
  · exact absurd c_1 h1
  · refine lv_lload_n hx hb dX0_element_6 rfl (lv_at hl 2 rfl) ?_
    refine lv_ldc2 (v := 1152921504606846976) hx hb hown (hall _ kw_102) dX0_element_7 ?_
    refine xl_le (tgt := 24) hx hb dX0_element_10 dX0_element_11 (by decide) (fun c_2 => ?_) (fun c_2 => ?_)
    · refine lv_aload_n hx hb dX0_element_24 rfl (lv_at hl 0 rfl) ?_
      refine va_get (D := (dC, dI)) (ci := 0) (v := .int (nI ec)) (C := RX0) (T := TX0) (N := 12) hx hb hall inX0 hown hK hP 0 rfl rfl 8 (by decide) (hall _ kw_31) (fun _ h9 => h9) rfl dX0_element_25 ?_
      refine lv_bipush (v := 16) hx hb dX0_element_28 (by decide) ?_
      refine tp_i (y := nI 16) (by decide) ?_
      refine xc_lt (tgt := 43) hx hb (by omega) (by omega) dX0_element_30 (by decide) (fun c_3 => ?_) (fun c_3 => ?_)
      · exact absurd c_3 (by omega)
      · obtain ⟨sa, hsa⟩ := hok.2 (59, "there are 16 elements") (by decide)
        exact xt_throw (own := RX0) (cls := "java/lang/IllegalStateException") (text := "there are 16 elements") (names := xt_rt) (ik := 57) (is := 59) (ic := 61) hx hb hst hown (by decide) (by decide) (xt_at hok _ (by decide +kernel)) (xt_at hok _ (by decide +kernel)) hsa (fun w hw => xt_at hok w (xt_in2 w hw)) (hl.1.trans hml.symm) dX0_element_33 dX0_element_36 dX0_element_37 dX0_element_39 dX0_element_42 hout (by decide) (by decide) (by decide) (by decide) hlocks
    · exact absurd (Int64.not_le.mp c_2) h2
set_option maxHeartbeats 4000000 in
set_option maxRecDepth 100000 in
theorem x_advance (l : Launch) (dC : Nat → ClassId) (dI : Nat → Nat → Nat) (x a1 a2 a3 a4 a5 a6 a7 : Nat) (cI cJ : ClassId) (nD nR : Nat) (dv : Nat → Int64) (r : Nat → Nat) (cap : Nat) (ti va ev ed : Nat → Int64) (ec : Nat) (ad : Nat → Int32) (ac : Nat) (now : Int64) (hst : l.stackTraces = false) (t : Int64) (hbad : t < now ∨ 1152921504606846976 < t) : xt_Met l yX0_advance wsX0_advance ({ frames := 6, cells := 1, slots := 6, locals := 82 }) (va_Pc [.ref x, .long t] (fun U => va_P (dC, dI) vwCl (wr x a1 a2 a3 a4 a5 a6 a7 cI cJ nD nR dv r cap ti va ev ed ec ad ac now) U.heap ∧ va_K (dC, dI) vwCl [(cI, .int), (cJ, .long)] U ∧ xt_ok U)) "java/lang/IllegalArgumentException" := by
  refine xt_ofW (cc := cX0_advance) (maxL := 8) (ret := (some .int)) (by decide) rfl ?_
  intro p e s m args below meth c s₁ B hml hout hv
  obtain ⟨rfl, hP, hK, hok⟩ := hv
  have hx := B.exec
  have hb := B.bytes
  have hr := B.returns
  have hts := atoms_spec (ws := wsX0_advance) B.pre
  have hown : s.vm.findClass RX0 = some m.cls := findClass_of_methodNamed B.named
  have hlocks := B.notSynchronized
  have hall := fun (w : Cond) (h : w ∈ allw) => hts w (List.mem_cons_of_mem _ h)
  have hl := lv_entry ([.ref x, .long t]) (n := 8) (Nat.le_of_ble_eq_true rfl)
  rw [lg_entry_eq]
  generalize (lg_sl ([.ref x, .long t]) ++ List.replicate (8 - (lg_sl ([.ref x, .long t])).length) Slot.unset).toArray = ls at hl ⊢
  have hl : lv_has ls 8 [(0, .ref x), (1, .long t)] := hl
  refine lv_lload_n hx hb dX0_advance_0 rfl (lv_at hl 1 rfl) ?_
  refine lv_aload_n hx hb dX0_advance_1 rfl (lv_at hl 0 rfl) ?_
  refine va_get (D := (dC, dI)) (ci := 0) (v := .long now) (C := RX0) (T := TX0) (N := 12) hx hb hall inX0 hown hK hP 0 rfl rfl 11 (by decide) (hall _ kw_34) (fun _ h9 => h9) rfl dX0_advance_2 ?_
  refine xl_lt (tgt := 17) hx hb dX0_advance_5 dX0_advance_6 (by decide) (fun c_1 => ?_) (fun c_1 => ?_)
  · have c_A := c_1
    obtain ⟨sa, hsa⟩ := hok.2 (110, "the time is before NOW or above 2^60") (by decide)
    exact xt_throw (own := RX0) (cls := "java/lang/IllegalArgumentException") (text := "the time is before NOW or above 2^60") (names := xt_rt) (ik := 47) (is := 110) (ic := 51) hx hb hst hown (by decide) (by decide) (xt_at hok _ (by decide +kernel)) (xt_at hok _ (by decide +kernel)) hsa (fun w hw => xt_at hok w (xt_in1 w hw)) (hl.1.trans hml.symm) dX0_advance_17 dX0_advance_20 dX0_advance_21 dX0_advance_23 dX0_advance_26 hout (by decide) (by decide) (by decide) (by decide) hlocks
  · have c_A := c_1
    refine lv_lload_n hx hb dX0_advance_9 rfl (lv_at hl 1 rfl) ?_
    refine lv_ldc2 (v := 1152921504606846976) hx hb hown (hall _ kw_102) dX0_advance_10 ?_
    refine xl_le (tgt := 27) hx hb dX0_advance_13 dX0_advance_14 (by decide) (fun c_2 => ?_) (fun c_2 => ?_)
    · exact absurd hbad (fun q => q.elim c_A (fun q => absurd q (Int64.not_lt.mpr c_2)))
    · obtain ⟨sa, hsa⟩ := hok.2 (110, "the time is before NOW or above 2^60") (by decide)
      exact xt_throw (own := RX0) (cls := "java/lang/IllegalArgumentException") (text := "the time is before NOW or above 2^60") (names := xt_rt) (ik := 47) (is := 110) (ic := 51) hx hb hst hown (by decide) (by decide) (xt_at hok _ (by decide +kernel)) (xt_at hok _ (by decide +kernel)) hsa (fun w hw => xt_at hok w (xt_in1 w hw)) (hl.1.trans hml.symm) dX0_advance_17 dX0_advance_20 dX0_advance_21 dX0_advance_23 dX0_advance_26 hout (by decide) (by decide) (by decide) (by decide) hlocks
set_option maxHeartbeats 4000000 in
set_option maxRecDepth 100000 in
theorem x_assign2 (l : Launch) (dC : Nat → ClassId) (dI : Nat → Nat → Nat) (x a1 a2 a3 a4 a5 a6 a7 : Nat) (cI cJ : ClassId) (nD nR : Nat) (dv : Nat → Int64) (r : Nat → Nat) (cap : Nat) (ti va ev ed : Nat → Int64) (ec : Nat) (ad : Nat → Int32) (ac : Nat) (now : Int64) (hst : l.stackTraces = false) (hI : wf_R nD nR cap ec ac r) (d : Nat) (mo : Int32) (t : Int64) (hd : d < nD) (hz : ec = 0) : xt_Met l yX0_assign wsX0_assign ({ frames := 6, cells := 1, slots := 6, locals := 82 }) (va_Pc [.ref x, .int (nI d), .int mo, .long t] (fun U => va_P (dC, dI) vwCl (wr x a1 a2 a3 a4 a5 a6 a7 cI cJ nD nR dv r cap ti va ev ed ec ad ac now) U.heap ∧ va_K (dC, dI) vwCl [(cI, .int), (cJ, .long)] U ∧ xt_ok U)) "java/lang/IllegalStateException" := by
  refine xt_ofW (cc := cX0_assign) (maxL := 14) (ret := (some .int)) (by decide) rfl ?_
  intro p e s m args below meth c s₁ B hml hout hv
  obtain ⟨rfl, hP, hK, hok⟩ := hv
  have hx := B.exec
  have hb := B.bytes
  have hr := B.returns
  have hts := atoms_spec (ws := wsX0_assign) B.pre
  have hown : s.vm.findClass RX0 = some m.cls := findClass_of_methodNamed B.named
  have hlocks := B.notSynchronized
  have hall := fun (w : Cond) (h : w ∈ allw) => hts w (List.mem_cons_of_mem _ h)
  have hl := lv_entry ([.ref x, .int (nI d), .int mo, .long t]) (n := 14) (Nat.le_of_ble_eq_true rfl)
  rw [lg_entry_eq]
  generalize (lg_sl ([.ref x, .int (nI d), .int mo, .long t]) ++ List.replicate (14 - (lg_sl ([.ref x, .int (nI d), .int mo, .long t])).length) Slot.unset).toArray = ls at hl ⊢
  have hl : lv_has ls 14 [(0, .ref x), (1, .int (nI d)), (2, .int mo), (3, .long t)] := hl
  have hI0 := hI
  obtain ⟨hnD1, hnD, hnR1, hnR, hcap, hrc, hrR, hr0, hmo, hec, hac⟩ := hI
  refine lv_aload_n hx hb dX0_assign_0 rfl (lv_at hl 0 rfl) ?_
  refine lv_iload_n hx hb dX0_assign_1 rfl (lv_at hl 1 rfl) ?_
  refine xv_call (W.runV (As := [.int (nI d)]) (rest := []) ⟨hx, hb, hml, hown, hall⟩ (c_requireDriver l dC dI x a1 a2 a3 a4 a5 a6 a7 cI cJ nD nR dv r cap ti va ev ed ec ad ac now hI0 d hd) (cwV 1 hall gX0_62 rfl rfl rfl (by decide +kernel) ⟨Nat.le_of_ble_eq_true rfl, Nat.le_of_ble_eq_true rfl⟩) ⟨xr_blind, va_recv hK hP (ci := 0) (q0 := 0) rfl rfl, fun U hU hW => ⟨rfl, by rw [hU]; exact hP, va_K.moved hW.alike hK⟩⟩ rfl rfl hl.1 rfl (lv_room (Nat.le_of_ble_eq_true rfl)) dX0_assign_2 ⟨by first | exact Nat.zero_le _ | omega, by first | exact Nat.zero_le _ | omega⟩) (fun hv_2 => ?_)
  refine lv_aload_n hx hb dX0_assign_5 rfl (lv_at hl 0 rfl) ?_
  refine va_get (D := (dC, dI)) (ci := 0) (v := .int (nI ec)) (C := RX0) (T := TX0) (N := 12) hx hb hall inX0 hown hK hP 0 rfl rfl 8 (by decide) (hall _ kw_31) (fun _ h9 => h9) rfl dX0_assign_6 ?_
  refine xz_ne (tgt := 22) hx hb (by omega) dX0_assign_9 (by decide) (fun c_3 => ?_) (fun c_3 => ?_)
  · exact absurd c_3 (by omega)
  · obtain ⟨sa, hsa⟩ := hok.2 (66, "no element is laid down") (by decide)
    exact xt_throw (own := RX0) (cls := "java/lang/IllegalStateException") (text := "no element is laid down") (names := xt_rt) (ik := 57) (is := 66) (ic := 61) hx hb hst hown (by decide) (by decide) (xt_at hok _ (by decide +kernel)) (xt_at hok _ (by decide +kernel)) hsa (fun w hw => xt_at hok w (xt_in2 w hw)) (hl.1.trans hml.symm) dX0_assign_12 dX0_assign_15 dX0_assign_16 dX0_assign_18 dX0_assign_21 hout (by decide) (by decide) (by decide) (by decide) hlocks
set_option maxHeartbeats 4000000 in
set_option maxRecDepth 100000 in
theorem x_assign3 (l : Launch) (dC : Nat → ClassId) (dI : Nat → Nat → Nat) (x a1 a2 a3 a4 a5 a6 a7 : Nat) (cI cJ : ClassId) (nD nR : Nat) (dv : Nat → Int64) (r : Nat → Nat) (cap : Nat) (ti va ev ed : Nat → Int64) (ec : Nat) (ad : Nat → Int32) (ac : Nat) (now : Int64) (hst : l.stackTraces = false) (hI : wf_R nD nR cap ec ac r) (d : Nat) (mo : Int32) (t : Int64) (hd : d < nD) (hz : 0 < ec) (hbad : ¬ (wf_lg mo (ed 0) t ∧ wf_dg ed now ec 0 (-1))) : xt_Met l yX0_assign wsX0_assign ({ frames := 6, cells := 1, slots := 6, locals := 82 }) (va_Pc [.ref x, .int (nI d), .int mo, .long t] (fun U => va_P (dC, dI) vwCl (wr x a1 a2 a3 a4 a5 a6 a7 cI cJ nD nR dv r cap ti va ev ed ec ad ac now) U.heap ∧ va_K (dC, dI) vwCl [(cI, .int), (cJ, .long)] U ∧ xt_ok U)) "java/lang/IllegalArgumentException" := by
  refine xt_ofW (cc := cX0_assign) (maxL := 14) (ret := (some .int)) (by decide) rfl ?_
  intro p e s m args below meth c s₁ B hml hout hv
  obtain ⟨rfl, hP, hK, hok⟩ := hv
  have hx := B.exec
  have hb := B.bytes
  have hr := B.returns
  have hts := atoms_spec (ws := wsX0_assign) B.pre
  have hown : s.vm.findClass RX0 = some m.cls := findClass_of_methodNamed B.named
  have hlocks := B.notSynchronized
  have hall := fun (w : Cond) (h : w ∈ allw) => hts w (List.mem_cons_of_mem _ h)
  have hl := lv_entry ([.ref x, .int (nI d), .int mo, .long t]) (n := 14) (Nat.le_of_ble_eq_true rfl)
  rw [lg_entry_eq]
  generalize (lg_sl ([.ref x, .int (nI d), .int mo, .long t]) ++ List.replicate (14 - (lg_sl ([.ref x, .int (nI d), .int mo, .long t])).length) Slot.unset).toArray = ls at hl ⊢
  have hl : lv_has ls 14 [(0, .ref x), (1, .int (nI d)), (2, .int mo), (3, .long t)] := hl
  have hI0 := hI
  obtain ⟨hnD1, hnD, hnR1, hnR, hcap, hrc, hrR, hr0, hmo, hec, hac⟩ := hI
  refine lv_aload_n hx hb dX0_assign_0 rfl (lv_at hl 0 rfl) ?_
  refine lv_iload_n hx hb dX0_assign_1 rfl (lv_at hl 1 rfl) ?_
  refine xv_call (W.runV (As := [.int (nI d)]) (rest := []) ⟨hx, hb, hml, hown, hall⟩ (c_requireDriver l dC dI x a1 a2 a3 a4 a5 a6 a7 cI cJ nD nR dv r cap ti va ev ed ec ad ac now hI0 d hd) (cwV 1 hall gX0_62 rfl rfl rfl (by decide +kernel) ⟨Nat.le_of_ble_eq_true rfl, Nat.le_of_ble_eq_true rfl⟩) ⟨xr_blind, va_recv hK hP (ci := 0) (q0 := 0) rfl rfl, fun U hU hW => ⟨rfl, by rw [hU]; exact hP, va_K.moved hW.alike hK⟩⟩ rfl rfl hl.1 rfl (lv_room (Nat.le_of_ble_eq_true rfl)) dX0_assign_2 ⟨by first | exact Nat.zero_le _ | omega, by first | exact Nat.zero_le _ | omega⟩) (fun hv_2 => ?_)
  refine lv_aload_n hx hb dX0_assign_5 rfl (lv_at hl 0 rfl) ?_
  refine va_get (D := (dC, dI)) (ci := 0) (v := .int (nI ec)) (C := RX0) (T := TX0) (N := 12) hx hb hall inX0 hown hK hP 0 rfl rfl 8 (by decide) (hall _ kw_31) (fun _ h9 => h9) rfl dX0_assign_6 ?_
  refine xz_ne (tgt := 22) hx hb (by omega) dX0_assign_9 (by decide) (fun c_3 => ?_) (fun c_3 => ?_)
  · refine lv_aload_n hx hb dX0_assign_22 rfl (lv_at hl 0 rfl) ?_
    refine lv_iload_n hx hb dX0_assign_23 rfl (lv_at hl 2 rfl) ?_
    refine lv_lload_n hx hb dX0_assign_24 rfl (lv_at hl 3 rfl) ?_
    refine vp_callSi (W.runV (As := [.int mo, .long t]) (rest := []) ⟨hx, hb, hml, hown, hall⟩ (c_isLimitGood l dC dI x a1 a2 a3 a4 a5 a6 a7 cI cJ nD nR dv r cap ti va ev ed ec ad ac now mo t) (cwV 2 hall gX0_68 rfl rfl rfl (by decide +kernel) ⟨Nat.le_of_ble_eq_true rfl, Nat.le_of_ble_eq_true rfl⟩) ⟨xr_blind, va_recv hK hP (ci := 0) (q0 := 0) rfl rfl, fun U hU hW => ⟨rfl, by rw [hU]; exact hP, va_K.moved hW.alike hK⟩⟩ rfl rfl hl.1 rfl (lv_room (Nat.le_of_ble_eq_true rfl)) dX0_assign_25 ⟨by first | exact Nat.zero_le _ | omega, by first | exact Nat.zero_le _ | omega⟩) (fun v_4 hv_5 => ?_)
    rcases hv_5 with ⟨rfl, hg1⟩ | ⟨rfl, hg1⟩
    · refine lv_if_eq (tgt := 38) hx hb dX0_assign_28 (by decide) (fun c_6 => ?_) (fun c_6 => ?_)
      · exact absurd c_6 (by decide)
      · refine lv_aload_n hx hb dX0_assign_31 rfl (lv_at hl 0 rfl) ?_
        refine vp_callSi (W.runV (As := []) (rest := []) ⟨hx, hb, hml, hown, hall⟩ (c_areDelaysGood l dC dI x a1 a2 a3 a4 a5 a6 a7 cI cJ nD nR dv r cap ti va ev ed ec ad ac now hI0) (cwV 0 hall gX0_72 rfl rfl rfl (by decide +kernel) ⟨Nat.le_of_ble_eq_true rfl, Nat.le_of_ble_eq_true rfl⟩) ⟨xr_blind, va_recv hK hP (ci := 0) (q0 := 0) rfl rfl, fun U hU hW => ⟨rfl, by rw [hU]; exact hP, va_K.moved hW.alike hK⟩⟩ rfl rfl hl.1 rfl (lv_room (Nat.le_of_ble_eq_true rfl)) dX0_assign_32 ⟨by first | exact Nat.zero_le _ | omega, by first | exact Nat.zero_le _ | omega⟩) (fun v_7 hv_8 => ?_)
        rcases hv_8 with ⟨rfl, hg2⟩ | ⟨rfl, hg2⟩
        · refine lv_if_ne (tgt := 48) hx hb dX0_assign_35 (by decide) (fun c_9 => ?_) (fun c_9 => ?_)
          · exact absurd ⟨hg1, hg2⟩ hbad
          · exact absurd c_9 (by decide)
        · refine lv_if_ne (tgt := 48) hx hb dX0_assign_35 (by decide) (fun c_10 => ?_) (fun c_10 => ?_)
          · exact absurd rfl c_10
          · obtain ⟨sa, hsa⟩ := hok.2 (76, "the mode, the limit or the delays are wrong") (by decide)
            exact xt_throw (own := RX0) (cls := "java/lang/IllegalArgumentException") (text := "the mode, the limit or the delays are wrong") (names := xt_rt) (ik := 47) (is := 76) (ic := 51) hx hb hst hown (by decide) (by decide) (xt_at hok _ (by decide +kernel)) (xt_at hok _ (by decide +kernel)) hsa (fun w hw => xt_at hok w (xt_in1 w hw)) (hl.1.trans hml.symm) dX0_assign_38 dX0_assign_41 dX0_assign_42 dX0_assign_44 dX0_assign_47 hout (by decide) (by decide) (by decide) (by decide) hlocks
    · refine lv_if_eq (tgt := 38) hx hb dX0_assign_28 (by decide) (fun c_11 => ?_) (fun c_11 => ?_)
      · obtain ⟨sa, hsa⟩ := hok.2 (76, "the mode, the limit or the delays are wrong") (by decide)
        exact xt_throw (own := RX0) (cls := "java/lang/IllegalArgumentException") (text := "the mode, the limit or the delays are wrong") (names := xt_rt) (ik := 47) (is := 76) (ic := 51) hx hb hst hown (by decide) (by decide) (xt_at hok _ (by decide +kernel)) (xt_at hok _ (by decide +kernel)) hsa (fun w hw => xt_at hok w (xt_in1 w hw)) (hl.1.trans hml.symm) dX0_assign_38 dX0_assign_41 dX0_assign_42 dX0_assign_44 dX0_assign_47 hout (by decide) (by decide) (by decide) (by decide) hlocks
      · exact absurd rfl c_11
  · exact absurd c_3 (by omega)
