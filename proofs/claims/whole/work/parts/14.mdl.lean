set_option maxHeartbeats 4000000 in
set_option maxRecDepth 100000 in
theorem m_thrown (l : Launch) (dC : Nat → ClassId) (dI : Nat → Nat → Nat) (y b1 b2 b3 b4 b5 b6 b7 b8 b9 b10 : Nat) (cI cJ cZ : ClassId) (th nD nR : Nat) (vs : Nat → Int64) (ac : Nat → Bool) (now : Int64) (o : Nat → Nat) (mt mw : Nat → Int64) (nv dl : Nat → Int64) (el : Nat) (rt rv : Nat → Int64) (mk : Nat → Bool) (zs : List ZT)  : Met l yX1_thrown wsX1_thrown ({ frames := 0, cells := 0, slots := 0, locals := 0 }) (va_Pc [.ref y] (fun U => va_P (dC, dI) vwCl (wm y b1 b2 b3 b4 b5 b6 b7 b8 b9 b10 cI cJ cZ th nD nR vs ac now o mt mw zs.length nv dl el rt rv mk) U.heap ∧ va_K (dC, dI) vwCl [(cI, .int), (cJ, .long), (cZ, .boolean)] U)) (vp_Si (fun v => v = nI th)) 0 0 (fun _ => False) := by
  refine Met.ofW (cc := cX1_thrown) (maxL := 1) (ret := (some .int)) (by decide) rfl ?_
  intro p e s m args below meth c s₁ B hml hv
  obtain ⟨rfl, hP, hK⟩ := hv
  have hx := B.exec
  have hb := B.bytes
  have hr := B.returns
  have hts := atoms_spec (ws := wsX1_thrown) B.pre
  have hown : s.vm.findClass RX1 = some m.cls := findClass_of_methodNamed B.named
  have hlocks := B.notSynchronized
  have hall := fun (w : Cond) (h : w ∈ allw) => hts w (List.mem_cons_of_mem _ h)
  have hl := lv_entry ([.ref y]) (n := 1) (Nat.le_of_ble_eq_true rfl)
  rw [lg_entry_eq]
  generalize (lg_sl ([.ref y]) ++ List.replicate (1 - (lg_sl ([.ref y])).length) Slot.unset).toArray = ls at hl ⊢
  have hl : lv_has ls 1 [(0, .ref y)] := hl
  refine lv_aload_n hx hb dX1_thrown_0 rfl (lv_at hl 0 rfl) ?_
  refine va_get (D := (dC, dI)) (ci := 1) (v := .int (nI th)) (C := RX1) (T := TX1) (N := 16) hx hb hall inX1 hown hK hP 0 rfl rfl 0 (by decide) (hall _ kw_323) (fun _ h9 => h9) rfl dX1_thrown_1 ?_
  exact W.iret (v := nI th) hx hb hr (fun t9 ht hW => ⟨nI th, rfl, rfl, ht⟩) (fun q hq => nomatch hq) dX1_thrown_4
set_option maxHeartbeats 4000000 in
set_option maxRecDepth 100000 in
theorem m_none0 (l : Launch) (dC : Nat → ClassId) (dI : Nat → Nat → Nat) (y b1 b2 b3 b4 b5 b6 b7 b8 b9 b10 : Nat) (cI cJ cZ : ClassId) (th nD nR : Nat) (vs : Nat → Int64) (ac : Nat → Bool) (now : Int64) (o : Nat → Nat) (mt mw : Nat → Int64) (nv dl : Nat → Int64) (el : Nat) (rt rv : Nat → Int64) (mk : Nat → Bool) (zs : List ZT) (hI : wm_I nD nR el zs) (hZ : wz zs o mt mw) (d : Nat) (hd : d < nD) : Met l yX1_none wsX1_none ({ frames := 0, cells := 0, slots := 0, locals := 0 }) (va_Pc [.ref y, .int (nI d)] (fun U => va_P (dC, dI) vwCl (wm y b1 b2 b3 b4 b5 b6 b7 b8 b9 b10 cI cJ cZ th nD nR vs ac now o mt mw zs.length nv dl el rt rv mk) U.heap ∧ va_K (dC, dI) vwCl [(cI, .int), (cJ, .long), (cZ, .boolean)] U)) (vp_Si (fun v => v = 0)) 0 0 (fun _ => False) := by
  refine Met.ofW (cc := cX1_none) (maxL := 2) (ret := (some .boolean)) (by decide) rfl ?_
  intro p e s m args below meth c s₁ B hml hv
  obtain ⟨rfl, hP, hK⟩ := hv
  have hx := B.exec
  have hb := B.bytes
  have hr := B.returns
  have hts := atoms_spec (ws := wsX1_none) B.pre
  have hown : s.vm.findClass RX1 = some m.cls := findClass_of_methodNamed B.named
  have hlocks := B.notSynchronized
  have hall := fun (w : Cond) (h : w ∈ allw) => hts w (List.mem_cons_of_mem _ h)
  have hl := lv_entry ([.ref y, .int (nI d)]) (n := 2) (Nat.le_of_ble_eq_true rfl)
  rw [lg_entry_eq]
  generalize (lg_sl ([.ref y, .int (nI d)]) ++ List.replicate (2 - (lg_sl ([.ref y, .int (nI d)])).length) Slot.unset).toArray = ls at hl ⊢
  have hl : lv_has ls 2 [(0, .ref y), (1, .int (nI d))] := hl
  obtain ⟨hnD1, hnD, hnR1, hnR, hzR, hel, how⟩ := hI
  refine lv_iload_n hx hb dX1_none_0 rfl (lv_at hl 1 rfl) ?_
  refine lv_if_lt (tgt := 12) hx hb dX1_none_1 (by decide) (fun c_1 => ?_) (fun c_1 => ?_)
  · exact absurd c_1 (nI_pos (by omega))
  · refine lv_iload_n hx hb dX1_none_4 rfl (lv_at hl 1 rfl) ?_
    refine lv_aload_n hx hb dX1_none_5 rfl (lv_at hl 0 rfl) ?_
    refine va_get (D := (dC, dI)) (ci := 1) (v := .int (nI nD)) (C := RX1) (T := TX1) (N := 16) hx hb hall inX1 hown hK hP 0 rfl rfl 1 (by decide) (hall _ kw_324) (fun _ h9 => h9) rfl dX1_none_6 ?_
    refine xc_lt (tgt := 16) hx hb (by omega) (by omega) dX1_none_9 (by decide) (fun c_2 => ?_) (fun c_2 => ?_)
    · refine lv_iconst (v := 0) hx hb dX1_none_16 (by decide) ?_
      exact W.zret (v := 0) (ty := .boolean) hx hb hr narrow_b0 (fun t9 ht hW => ⟨0, rfl, rfl, ht⟩) (fun q hq => nomatch hq) dX1_none_17
    · exact absurd c_2 (by omega)
set_option maxHeartbeats 4000000 in
set_option maxRecDepth 100000 in
theorem m_none1 (l : Launch) (dC : Nat → ClassId) (dI : Nat → Nat → Nat) (y b1 b2 b3 b4 b5 b6 b7 b8 b9 b10 : Nat) (cI cJ cZ : ClassId) (th nD nR : Nat) (vs : Nat → Int64) (ac : Nat → Bool) (now : Int64) (o : Nat → Nat) (mt mw : Nat → Int64) (nv dl : Nat → Int64) (el : Nat) (rt rv : Nat → Int64) (mk : Nat → Bool) (zs : List ZT) (i : Int32) (hbad : i < 0 ∨ nI nD ≤ i) : Met l yX1_none wsX1_none ({ frames := 0, cells := 0, slots := 0, locals := 0 }) (va_Pc [.ref y, .int i] (fun U => va_P (dC, dI) vwCl (wm y b1 b2 b3 b4 b5 b6 b7 b8 b9 b10 cI cJ cZ th nD nR vs ac now o mt mw zs.length nv dl el rt rv mk) U.heap ∧ va_K (dC, dI) vwCl [(cI, .int), (cJ, .long), (cZ, .boolean)] U)) (vp_Si (fun v => v = 1)) 0 0 (fun _ => False) := by
  refine Met.ofW (cc := cX1_none) (maxL := 2) (ret := (some .boolean)) (by decide) rfl ?_
  intro p e s m args below meth c s₁ B hml hv
  obtain ⟨rfl, hP, hK⟩ := hv
  have hx := B.exec
  have hb := B.bytes
  have hr := B.returns
  have hts := atoms_spec (ws := wsX1_none) B.pre
  have hown : s.vm.findClass RX1 = some m.cls := findClass_of_methodNamed B.named
  have hlocks := B.notSynchronized
  have hall := fun (w : Cond) (h : w ∈ allw) => hts w (List.mem_cons_of_mem _ h)
  have hl := lv_entry ([.ref y, .int i]) (n := 2) (Nat.le_of_ble_eq_true rfl)
  rw [lg_entry_eq]
  generalize (lg_sl ([.ref y, .int i]) ++ List.replicate (2 - (lg_sl ([.ref y, .int i])).length) Slot.unset).toArray = ls at hl ⊢
  have hl : lv_has ls 2 [(0, .ref y), (1, .int i)] := hl
  refine lv_iload_n hx hb dX1_none_0 rfl (lv_at hl 1 rfl) ?_
  refine lv_if_lt (tgt := 12) hx hb dX1_none_1 (by decide) (fun c_1 => ?_) (fun c_1 => ?_)
  · have c_A := c_1
    refine lv_iconst (v := 1) hx hb dX1_none_12 (by decide) ?_
    refine lv_goto (tgt := 17) hx hb dX1_none_13 (by decide) ?_
    exact W.zret (v := 1) (ty := .boolean) hx hb hr narrow_b1 (fun t9 ht hW => ⟨1, rfl, rfl, ht⟩) (fun q hq => nomatch hq) dX1_none_17
  · have c_A := c_1
    refine lv_iload_n hx hb dX1_none_4 rfl (lv_at hl 1 rfl) ?_
    refine lv_aload_n hx hb dX1_none_5 rfl (lv_at hl 0 rfl) ?_
    refine va_get (D := (dC, dI)) (ci := 1) (v := .int (nI nD)) (C := RX1) (T := TX1) (N := 16) hx hb hall inX1 hown hK hP 0 rfl rfl 1 (by decide) (hall _ kw_324) (fun _ h9 => h9) rfl dX1_none_6 ?_
    refine lv_icmp_lt (tgt := 16) hx hb dX1_none_9 (by decide) (fun c_2 => ?_) (fun c_2 => ?_)
    · exact absurd hbad (fun q => q.elim c_A (fun q => absurd c_2 (Int32.not_lt.mpr q)))
    · refine lv_iconst (v := 1) hx hb dX1_none_12 (by decide) ?_
      refine lv_goto (tgt := 17) hx hb dX1_none_13 (by decide) ?_
      exact W.zret (v := 1) (ty := .boolean) hx hb hr narrow_b1 (fun t9 ht hW => ⟨1, rfl, rfl, ht⟩) (fun q hq => nomatch hq) dX1_none_17
set_option maxHeartbeats 4000000 in
set_option maxRecDepth 100000 in
theorem m_drop (l : Launch) (dC : Nat → ClassId) (dI : Nat → Nat → Nat) (y b1 b2 b3 b4 b5 b6 b7 b8 b9 b10 : Nat) (cI cJ cZ : ClassId) (th nD nR : Nat) (vs : Nat → Int64) (ac : Nat → Bool) (now : Int64) (o : Nat → Nat) (mt mw : Nat → Int64) (nv dl : Nat → Int64) (el : Nat) (rt rv : Nat → Int64) (mk : Nat → Bool) (zs : List ZT) (sz : Nat)  : Met l yX1_drop wsX1_drop ({ frames := 0, cells := 0, slots := 0, locals := 0 }) (va_Pc [.ref y] (fun U => U.heap.size = sz ∧ va_P (dC, dI) vwCl (wm y b1 b2 b3 b4 b5 b6 b7 b8 b9 b10 cI cJ cZ th nD nR vs ac now o mt mw zs.length nv dl el rt rv mk) U.heap ∧ va_K (dC, dI) vwCl [(cI, .int), (cJ, .long), (cZ, .boolean)] U ∧ va_D (fun _ => True) (wm y b1 b2 b3 b4 b5 b6 b7 b8 b9 b10 cI cJ cZ th nD nR vs ac now o mt mw zs.length nv dl el rt rv mk))) (va_Qi (fun (v : Int32) (_ : Unit) => v = nI el) (fun _ t9 => va_P (dC, dI) vwCl (wm y b1 b2 b3 b4 b5 b6 b7 b8 b9 b10 cI cJ cZ 0 nD nR vs ac now o mt mw zs.length nv dl 0 rt rv mk) t9.heap ∧ va_K (dC, dI) vwCl [(cI, .int), (cJ, .long), (cZ, .boolean)] t9 ∧ va_D (va_A (wm y b1 b2 b3 b4 b5 b6 b7 b8 b9 b10 cI cJ cZ th nD nR vs ac now o mt mw zs.length nv dl el rt rv mk) sz) (wm y b1 b2 b3 b4 b5 b6 b7 b8 b9 b10 cI cJ cZ 0 nD nR vs ac now o mt mw zs.length nv dl 0 rt rv mk)) (va_A (wm y b1 b2 b3 b4 b5 b6 b7 b8 b9 b10 cI cJ cZ th nD nR vs ac now o mt mw zs.length nv dl el rt rv mk) sz)) 0 0 (va_A (wm y b1 b2 b3 b4 b5 b6 b7 b8 b9 b10 cI cJ cZ th nD nR vs ac now o mt mw zs.length nv dl el rt rv mk) sz) := by
  refine Met.ofW (cc := cX1_drop) (maxL := 2) (ret := (some .int)) (by decide) rfl ?_
  intro p e s m args below meth c s₁ B hml hv
  obtain ⟨rfl, hsz, hP, hK, hD0⟩ := hv
  subst hsz
  have hD := hD0.self (sz := s.heap.size)
  generalize hAe : va_A (wm y b1 b2 b3 b4 b5 b6 b7 b8 b9 b10 cI cJ cZ th nD nR vs ac now o mt mw zs.length nv dl el rt rv mk) s.heap.size = A at hD ⊢
  have hA : ∀ q : Nat, s.heap.size ≤ q → A q := fun q h => by rw [← hAe]; exact Or.inr h
  have hS : va_S A s.heap s.heap [] := va_S.rf
  have hx := B.exec
  have hb := B.bytes
  have hr := B.returns
  have hts := atoms_spec (ws := wsX1_drop) B.pre
  have hown : s.vm.findClass RX1 = some m.cls := findClass_of_methodNamed B.named
  have hlocks := B.notSynchronized
  have hall := fun (w : Cond) (h : w ∈ allw) => hts w (List.mem_cons_of_mem _ h)
  have hl := lv_entry ([.ref y]) (n := 2) (Nat.le_of_ble_eq_true rfl)
  rw [lg_entry_eq]
  generalize (lg_sl ([.ref y]) ++ List.replicate (2 - (lg_sl ([.ref y])).length) Slot.unset).toArray = ls at hl ⊢
  have hl : lv_has ls 2 [(0, .ref y)] := hl
  refine lv_aload_n hx hb dX1_drop_0 rfl (lv_at hl 0 rfl) ?_
  refine lv_iconst (v := 0) hx hb dX1_drop_1 (by decide) ?_
  refine tp_i (y := nI 0) nI_0.symm ?_
  refine va_put (D := (dC, dI)) (ci := 1) (v := .int (nI 0)) (ty := .int) (C := RX1) (T := TX1) (N := 16) hx hb hall inX1 tyX1 tyX1_ok nmX1 hown hK hP hD hS 0 rfl rfl 0 (by decide) (hall _ kw_323) (fun _ h9 => h9) rfl (by decide +kernel) rfl rfl (Nat.le_of_ble_eq_true rfl) dX1_drop_2 (fun H locs hP hD hS => ?_)
  have hP : va_P (dC, dI) vwCl [(y, .inr (1, [.int (nI 0), .int (nI nD), .int (nI nR), .ref b1, .ref b2, .long now, .ref b3, .ref b4, .ref b5, .int (nI zs.length), .ref b6, .ref b7, .int (nI el), .ref b8, .ref b9, .ref b10])), (b1, .inl (cJ, 512, .inr (.inl vs))), (b2, .inl (cZ, 512, .inl (fun j => bI (ac j)))), (b3, .inl (cI, 8192, .inl (fun j => nI (o j)))), (b4, .inl (cJ, 8192, .inr (.inl mt))), (b5, .inl (cJ, 8192, .inr (.inl mw))), (b6, .inl (cJ, 16, .inr (.inl nv))), (b7, .inl (cJ, 16, .inr (.inl dl))), (b8, .inl (cJ, 8208, .inr (.inl rt))), (b9, .inl (cJ, 8208, .inr (.inl rv))), (b10, .inl (cZ, 8208, .inl (fun j => bI (mk j))))] H := hP
  have hD : va_D A [(y, .inr (1, [.int (nI 0), .int (nI nD), .int (nI nR), .ref b1, .ref b2, .long now, .ref b3, .ref b4, .ref b5, .int (nI zs.length), .ref b6, .ref b7, .int (nI el), .ref b8, .ref b9, .ref b10])), (b1, .inl (cJ, 512, .inr (.inl vs))), (b2, .inl (cZ, 512, .inl (fun j => bI (ac j)))), (b3, .inl (cI, 8192, .inl (fun j => nI (o j)))), (b4, .inl (cJ, 8192, .inr (.inl mt))), (b5, .inl (cJ, 8192, .inr (.inl mw))), (b6, .inl (cJ, 16, .inr (.inl nv))), (b7, .inl (cJ, 16, .inr (.inl dl))), (b8, .inl (cJ, 8208, .inr (.inl rt))), (b9, .inl (cJ, 8208, .inr (.inl rv))), (b10, .inl (cZ, 8208, .inl (fun j => bI (mk j))))] := hD
  refine lv_aload_n hx hb dX1_drop_5 rfl (lv_at hl 0 rfl) ?_
  refine va_get (D := (dC, dI)) (ci := 1) (v := .int (nI el)) (C := RX1) (T := TX1) (N := 16) hx hb hall inX1 hown hK hP 0 rfl rfl 12 (by decide) (hall _ kw_335) (fun _ h9 => h9) rfl dX1_drop_6 ?_
  refine lv_istore_n (lv' := [(1, .int (nI el)), (0, .ref y)]) hx hb dX1_drop_9 rfl hl (by decide) rfl (fun ls hl => ?_)
  refine lv_aload_n hx hb dX1_drop_10 rfl (lv_at hl 1 rfl) ?_
  refine lv_iconst (v := 0) hx hb dX1_drop_11 (by decide) ?_
  refine tp_i (y := nI 0) nI_0.symm ?_
  refine va_put (D := (dC, dI)) (ci := 1) (v := .int (nI 0)) (ty := .int) (C := RX1) (T := TX1) (N := 16) hx hb hall inX1 tyX1 tyX1_ok nmX1 hown hK hP hD hS 0 rfl rfl 12 (by decide) (hall _ kw_335) (fun _ h9 => h9) rfl (by decide +kernel) rfl rfl (Nat.le_of_ble_eq_true rfl) dX1_drop_12 (fun H locs hP hD hS => ?_)
  have hP : va_P (dC, dI) vwCl [(y, .inr (1, [.int (nI 0), .int (nI nD), .int (nI nR), .ref b1, .ref b2, .long now, .ref b3, .ref b4, .ref b5, .int (nI zs.length), .ref b6, .ref b7, .int (nI 0), .ref b8, .ref b9, .ref b10])), (b1, .inl (cJ, 512, .inr (.inl vs))), (b2, .inl (cZ, 512, .inl (fun j => bI (ac j)))), (b3, .inl (cI, 8192, .inl (fun j => nI (o j)))), (b4, .inl (cJ, 8192, .inr (.inl mt))), (b5, .inl (cJ, 8192, .inr (.inl mw))), (b6, .inl (cJ, 16, .inr (.inl nv))), (b7, .inl (cJ, 16, .inr (.inl dl))), (b8, .inl (cJ, 8208, .inr (.inl rt))), (b9, .inl (cJ, 8208, .inr (.inl rv))), (b10, .inl (cZ, 8208, .inl (fun j => bI (mk j))))] H := hP
  have hD : va_D A [(y, .inr (1, [.int (nI 0), .int (nI nD), .int (nI nR), .ref b1, .ref b2, .long now, .ref b3, .ref b4, .ref b5, .int (nI zs.length), .ref b6, .ref b7, .int (nI 0), .ref b8, .ref b9, .ref b10])), (b1, .inl (cJ, 512, .inr (.inl vs))), (b2, .inl (cZ, 512, .inl (fun j => bI (ac j)))), (b3, .inl (cI, 8192, .inl (fun j => nI (o j)))), (b4, .inl (cJ, 8192, .inr (.inl mt))), (b5, .inl (cJ, 8192, .inr (.inl mw))), (b6, .inl (cJ, 16, .inr (.inl nv))), (b7, .inl (cJ, 16, .inr (.inl dl))), (b8, .inl (cJ, 8208, .inr (.inl rt))), (b9, .inl (cJ, 8208, .inr (.inl rv))), (b10, .inl (cZ, 8208, .inl (fun j => bI (mk j))))] := hD
  refine lv_iload_n hx hb dX1_drop_15 rfl (lv_at hl 0 rfl) ?_
  exact W.iret (v := nI el) hx hb hr (fun t9 ht hW => ⟨⟨nI el, (), rfl, rfl, by rw [ht]; exact hP, va_K.moved hW.alike hK, hD⟩, hS.F ht⟩) hS.2.2 dX1_drop_16
set_option maxHeartbeats 4000000 in
set_option maxRecDepth 100000 in
theorem m_now (l : Launch) (dC : Nat → ClassId) (dI : Nat → Nat → Nat) (y b1 b2 b3 b4 b5 b6 b7 b8 b9 b10 : Nat) (cI cJ cZ : ClassId) (th nD nR : Nat) (vs : Nat → Int64) (ac : Nat → Bool) (now : Int64) (o : Nat → Nat) (mt mw : Nat → Int64) (nv dl : Nat → Int64) (el : Nat) (rt rv : Nat → Int64) (mk : Nat → Bool) (zs : List ZT) (sz : Nat)  : Met l yX1_now wsX1_now ({ frames := 0, cells := 0, slots := 0, locals := 0 }) (va_Pc [.ref y] (fun U => U.heap.size = sz ∧ va_P (dC, dI) vwCl (wm y b1 b2 b3 b4 b5 b6 b7 b8 b9 b10 cI cJ cZ th nD nR vs ac now o mt mw zs.length nv dl el rt rv mk) U.heap ∧ va_K (dC, dI) vwCl [(cI, .int), (cJ, .long), (cZ, .boolean)] U ∧ va_D (fun _ => True) (wm y b1 b2 b3 b4 b5 b6 b7 b8 b9 b10 cI cJ cZ th nD nR vs ac now o mt mw zs.length nv dl el rt rv mk))) (va_Ql (fun (v : Int64) (_ : Unit) => v = now) (fun _ t9 => va_P (dC, dI) vwCl (wm y b1 b2 b3 b4 b5 b6 b7 b8 b9 b10 cI cJ cZ 0 nD nR vs ac now o mt mw zs.length nv dl el rt rv mk) t9.heap ∧ va_K (dC, dI) vwCl [(cI, .int), (cJ, .long), (cZ, .boolean)] t9 ∧ va_D (va_A (wm y b1 b2 b3 b4 b5 b6 b7 b8 b9 b10 cI cJ cZ th nD nR vs ac now o mt mw zs.length nv dl el rt rv mk) sz) (wm y b1 b2 b3 b4 b5 b6 b7 b8 b9 b10 cI cJ cZ 0 nD nR vs ac now o mt mw zs.length nv dl el rt rv mk)) (va_A (wm y b1 b2 b3 b4 b5 b6 b7 b8 b9 b10 cI cJ cZ th nD nR vs ac now o mt mw zs.length nv dl el rt rv mk) sz)) 0 0 (va_A (wm y b1 b2 b3 b4 b5 b6 b7 b8 b9 b10 cI cJ cZ th nD nR vs ac now o mt mw zs.length nv dl el rt rv mk) sz) := by
  refine Met.ofW (cc := cX1_now) (maxL := 1) (ret := (some .long)) (by decide) rfl ?_
  intro p e s m args below meth c s₁ B hml hv
  obtain ⟨rfl, hsz, hP, hK, hD0⟩ := hv
  subst hsz
  have hD := hD0.self (sz := s.heap.size)
  generalize hAe : va_A (wm y b1 b2 b3 b4 b5 b6 b7 b8 b9 b10 cI cJ cZ th nD nR vs ac now o mt mw zs.length nv dl el rt rv mk) s.heap.size = A at hD ⊢
  have hA : ∀ q : Nat, s.heap.size ≤ q → A q := fun q h => by rw [← hAe]; exact Or.inr h
  have hS : va_S A s.heap s.heap [] := va_S.rf
  have hx := B.exec
  have hb := B.bytes
  have hr := B.returns
  have hts := atoms_spec (ws := wsX1_now) B.pre
  have hown : s.vm.findClass RX1 = some m.cls := findClass_of_methodNamed B.named
  have hlocks := B.notSynchronized
  have hall := fun (w : Cond) (h : w ∈ allw) => hts w (List.mem_cons_of_mem _ h)
  have hl := lv_entry ([.ref y]) (n := 1) (Nat.le_of_ble_eq_true rfl)
  rw [lg_entry_eq]
  generalize (lg_sl ([.ref y]) ++ List.replicate (1 - (lg_sl ([.ref y])).length) Slot.unset).toArray = ls at hl ⊢
  have hl : lv_has ls 1 [(0, .ref y)] := hl
  refine lv_aload_n hx hb dX1_now_0 rfl (lv_at hl 0 rfl) ?_
  refine lv_iconst (v := 0) hx hb dX1_now_1 (by decide) ?_
  refine tp_i (y := nI 0) nI_0.symm ?_
  refine va_put (D := (dC, dI)) (ci := 1) (v := .int (nI 0)) (ty := .int) (C := RX1) (T := TX1) (N := 16) hx hb hall inX1 tyX1 tyX1_ok nmX1 hown hK hP hD hS 0 rfl rfl 0 (by decide) (hall _ kw_323) (fun _ h9 => h9) rfl (by decide +kernel) rfl rfl (Nat.le_of_ble_eq_true rfl) dX1_now_2 (fun H locs hP hD hS => ?_)
  have hP : va_P (dC, dI) vwCl [(y, .inr (1, [.int (nI 0), .int (nI nD), .int (nI nR), .ref b1, .ref b2, .long now, .ref b3, .ref b4, .ref b5, .int (nI zs.length), .ref b6, .ref b7, .int (nI el), .ref b8, .ref b9, .ref b10])), (b1, .inl (cJ, 512, .inr (.inl vs))), (b2, .inl (cZ, 512, .inl (fun j => bI (ac j)))), (b3, .inl (cI, 8192, .inl (fun j => nI (o j)))), (b4, .inl (cJ, 8192, .inr (.inl mt))), (b5, .inl (cJ, 8192, .inr (.inl mw))), (b6, .inl (cJ, 16, .inr (.inl nv))), (b7, .inl (cJ, 16, .inr (.inl dl))), (b8, .inl (cJ, 8208, .inr (.inl rt))), (b9, .inl (cJ, 8208, .inr (.inl rv))), (b10, .inl (cZ, 8208, .inl (fun j => bI (mk j))))] H := hP
  have hD : va_D A [(y, .inr (1, [.int (nI 0), .int (nI nD), .int (nI nR), .ref b1, .ref b2, .long now, .ref b3, .ref b4, .ref b5, .int (nI zs.length), .ref b6, .ref b7, .int (nI el), .ref b8, .ref b9, .ref b10])), (b1, .inl (cJ, 512, .inr (.inl vs))), (b2, .inl (cZ, 512, .inl (fun j => bI (ac j)))), (b3, .inl (cI, 8192, .inl (fun j => nI (o j)))), (b4, .inl (cJ, 8192, .inr (.inl mt))), (b5, .inl (cJ, 8192, .inr (.inl mw))), (b6, .inl (cJ, 16, .inr (.inl nv))), (b7, .inl (cJ, 16, .inr (.inl dl))), (b8, .inl (cJ, 8208, .inr (.inl rt))), (b9, .inl (cJ, 8208, .inr (.inl rv))), (b10, .inl (cZ, 8208, .inl (fun j => bI (mk j))))] := hD
  refine lv_aload_n hx hb dX1_now_5 rfl (lv_at hl 0 rfl) ?_
  refine va_get (D := (dC, dI)) (ci := 1) (v := .long now) (C := RX1) (T := TX1) (N := 16) hx hb hall inX1 hown hK hP 0 rfl rfl 5 (by decide) (hall _ kw_328) (fun _ h9 => h9) rfl dX1_now_6 ?_
  exact W.lret (v := now) hx hb hr (fun t9 ht hW => ⟨⟨now, (), rfl, rfl, by rw [ht]; exact hP, va_K.moved hW.alike hK, hD⟩, hS.F ht⟩) hS.2.2 dX1_now_9
set_option maxHeartbeats 4000000 in
set_option maxRecDepth 100000 in
theorem m_total (l : Launch) (dC : Nat → ClassId) (dI : Nat → Nat → Nat) (y b1 b2 b3 b4 b5 b6 b7 b8 b9 b10 : Nat) (cI cJ cZ : ClassId) (th nD nR : Nat) (vs : Nat → Int64) (ac : Nat → Bool) (now : Int64) (o : Nat → Nat) (mt mw : Nat → Int64) (nv dl : Nat → Int64) (el : Nat) (rt rv : Nat → Int64) (mk : Nat → Bool) (zs : List ZT) (sz : Nat)  : Met l yX1_total wsX1_total ({ frames := 0, cells := 0, slots := 0, locals := 0 }) (va_Pc [.ref y] (fun U => U.heap.size = sz ∧ va_P (dC, dI) vwCl (wm y b1 b2 b3 b4 b5 b6 b7 b8 b9 b10 cI cJ cZ th nD nR vs ac now o mt mw zs.length nv dl el rt rv mk) U.heap ∧ va_K (dC, dI) vwCl [(cI, .int), (cJ, .long), (cZ, .boolean)] U ∧ va_D (fun _ => True) (wm y b1 b2 b3 b4 b5 b6 b7 b8 b9 b10 cI cJ cZ th nD nR vs ac now o mt mw zs.length nv dl el rt rv mk))) (va_Qi (fun (v : Int32) (_ : Unit) => v = nI zs.length) (fun _ t9 => va_P (dC, dI) vwCl (wm y b1 b2 b3 b4 b5 b6 b7 b8 b9 b10 cI cJ cZ 0 nD nR vs ac now o mt mw zs.length nv dl el rt rv mk) t9.heap ∧ va_K (dC, dI) vwCl [(cI, .int), (cJ, .long), (cZ, .boolean)] t9 ∧ va_D (va_A (wm y b1 b2 b3 b4 b5 b6 b7 b8 b9 b10 cI cJ cZ th nD nR vs ac now o mt mw zs.length nv dl el rt rv mk) sz) (wm y b1 b2 b3 b4 b5 b6 b7 b8 b9 b10 cI cJ cZ 0 nD nR vs ac now o mt mw zs.length nv dl el rt rv mk)) (va_A (wm y b1 b2 b3 b4 b5 b6 b7 b8 b9 b10 cI cJ cZ th nD nR vs ac now o mt mw zs.length nv dl el rt rv mk) sz)) 0 0 (va_A (wm y b1 b2 b3 b4 b5 b6 b7 b8 b9 b10 cI cJ cZ th nD nR vs ac now o mt mw zs.length nv dl el rt rv mk) sz) := by
  refine Met.ofW (cc := cX1_total) (maxL := 1) (ret := (some .int)) (by decide) rfl ?_
  intro p e s m args below meth c s₁ B hml hv
  obtain ⟨rfl, hsz, hP, hK, hD0⟩ := hv
  subst hsz
  have hD := hD0.self (sz := s.heap.size)
  generalize hAe : va_A (wm y b1 b2 b3 b4 b5 b6 b7 b8 b9 b10 cI cJ cZ th nD nR vs ac now o mt mw zs.length nv dl el rt rv mk) s.heap.size = A at hD ⊢
  have hA : ∀ q : Nat, s.heap.size ≤ q → A q := fun q h => by rw [← hAe]; exact Or.inr h
  have hS : va_S A s.heap s.heap [] := va_S.rf
  have hx := B.exec
  have hb := B.bytes
  have hr := B.returns
  have hts := atoms_spec (ws := wsX1_total) B.pre
  have hown : s.vm.findClass RX1 = some m.cls := findClass_of_methodNamed B.named
  have hlocks := B.notSynchronized
  have hall := fun (w : Cond) (h : w ∈ allw) => hts w (List.mem_cons_of_mem _ h)
  have hl := lv_entry ([.ref y]) (n := 1) (Nat.le_of_ble_eq_true rfl)
  rw [lg_entry_eq]
  generalize (lg_sl ([.ref y]) ++ List.replicate (1 - (lg_sl ([.ref y])).length) Slot.unset).toArray = ls at hl ⊢
  have hl : lv_has ls 1 [(0, .ref y)] := hl
  refine lv_aload_n hx hb dX1_total_0 rfl (lv_at hl 0 rfl) ?_
  refine lv_iconst (v := 0) hx hb dX1_total_1 (by decide) ?_
  refine tp_i (y := nI 0) nI_0.symm ?_
  refine va_put (D := (dC, dI)) (ci := 1) (v := .int (nI 0)) (ty := .int) (C := RX1) (T := TX1) (N := 16) hx hb hall inX1 tyX1 tyX1_ok nmX1 hown hK hP hD hS 0 rfl rfl 0 (by decide) (hall _ kw_323) (fun _ h9 => h9) rfl (by decide +kernel) rfl rfl (Nat.le_of_ble_eq_true rfl) dX1_total_2 (fun H locs hP hD hS => ?_)
  have hP : va_P (dC, dI) vwCl [(y, .inr (1, [.int (nI 0), .int (nI nD), .int (nI nR), .ref b1, .ref b2, .long now, .ref b3, .ref b4, .ref b5, .int (nI zs.length), .ref b6, .ref b7, .int (nI el), .ref b8, .ref b9, .ref b10])), (b1, .inl (cJ, 512, .inr (.inl vs))), (b2, .inl (cZ, 512, .inl (fun j => bI (ac j)))), (b3, .inl (cI, 8192, .inl (fun j => nI (o j)))), (b4, .inl (cJ, 8192, .inr (.inl mt))), (b5, .inl (cJ, 8192, .inr (.inl mw))), (b6, .inl (cJ, 16, .inr (.inl nv))), (b7, .inl (cJ, 16, .inr (.inl dl))), (b8, .inl (cJ, 8208, .inr (.inl rt))), (b9, .inl (cJ, 8208, .inr (.inl rv))), (b10, .inl (cZ, 8208, .inl (fun j => bI (mk j))))] H := hP
  have hD : va_D A [(y, .inr (1, [.int (nI 0), .int (nI nD), .int (nI nR), .ref b1, .ref b2, .long now, .ref b3, .ref b4, .ref b5, .int (nI zs.length), .ref b6, .ref b7, .int (nI el), .ref b8, .ref b9, .ref b10])), (b1, .inl (cJ, 512, .inr (.inl vs))), (b2, .inl (cZ, 512, .inl (fun j => bI (ac j)))), (b3, .inl (cI, 8192, .inl (fun j => nI (o j)))), (b4, .inl (cJ, 8192, .inr (.inl mt))), (b5, .inl (cJ, 8192, .inr (.inl mw))), (b6, .inl (cJ, 16, .inr (.inl nv))), (b7, .inl (cJ, 16, .inr (.inl dl))), (b8, .inl (cJ, 8208, .inr (.inl rt))), (b9, .inl (cJ, 8208, .inr (.inl rv))), (b10, .inl (cZ, 8208, .inl (fun j => bI (mk j))))] := hD
  refine lv_aload_n hx hb dX1_total_5 rfl (lv_at hl 0 rfl) ?_
  refine va_get (D := (dC, dI)) (ci := 1) (v := .int (nI zs.length)) (C := RX1) (T := TX1) (N := 16) hx hb hall inX1 hown hK hP 0 rfl rfl 9 (by decide) (hall _ kw_332) (fun _ h9 => h9) rfl dX1_total_6 ?_
  exact W.iret (v := nI zs.length) hx hb hr (fun t9 ht hW => ⟨⟨nI zs.length, (), rfl, rfl, by rw [ht]; exact hP, va_K.moved hW.alike hK, hD⟩, hS.F ht⟩) hS.2.2 dX1_total_9
set_option maxHeartbeats 4000000 in
set_option maxRecDepth 100000 in
theorem m_element1 (l : Launch) (dC : Nat → ClassId) (dI : Nat → Nat → Nat) (y b1 b2 b3 b4 b5 b6 b7 b8 b9 b10 : Nat) (cI cJ cZ : ClassId) (th nD nR : Nat) (vs : Nat → Int64) (ac : Nat → Bool) (now : Int64) (o : Nat → Nat) (mt mw : Nat → Int64) (nv dl : Nat → Int64) (el : Nat) (rt rv : Nat → Int64) (mk : Nat → Bool) (zs : List ZT) (sz : Nat) (v0 t : Int64) (hbad : t < 0 ∨ 1152921504606846976 < t) : Met l yX1_element wsX1_element ({ frames := 0, cells := 0, slots := 0, locals := 0 }) (va_Pc [.ref y, .long v0, .long t] (fun U => U.heap.size = sz ∧ va_P (dC, dI) vwCl (wm y b1 b2 b3 b4 b5 b6 b7 b8 b9 b10 cI cJ cZ th nD nR vs ac now o mt mw zs.length nv dl el rt rv mk) U.heap ∧ va_K (dC, dI) vwCl [(cI, .int), (cJ, .long), (cZ, .boolean)] U ∧ va_D (fun _ => True) (wm y b1 b2 b3 b4 b5 b6 b7 b8 b9 b10 cI cJ cZ th nD nR vs ac now o mt mw zs.length nv dl el rt rv mk))) (va_Qv (fun _ : Unit => True) (fun _ t9 => va_P (dC, dI) vwCl (wm y b1 b2 b3 b4 b5 b6 b7 b8 b9 b10 cI cJ cZ 1 nD nR vs ac now o mt mw zs.length nv dl el rt rv mk) t9.heap ∧ va_K (dC, dI) vwCl [(cI, .int), (cJ, .long), (cZ, .boolean)] t9 ∧ va_D (va_A (wm y b1 b2 b3 b4 b5 b6 b7 b8 b9 b10 cI cJ cZ th nD nR vs ac now o mt mw zs.length nv dl el rt rv mk) sz) (wm y b1 b2 b3 b4 b5 b6 b7 b8 b9 b10 cI cJ cZ 1 nD nR vs ac now o mt mw zs.length nv dl el rt rv mk)) (va_A (wm y b1 b2 b3 b4 b5 b6 b7 b8 b9 b10 cI cJ cZ th nD nR vs ac now o mt mw zs.length nv dl el rt rv mk) sz)) 0 0 (va_A (wm y b1 b2 b3 b4 b5 b6 b7 b8 b9 b10 cI cJ cZ th nD nR vs ac now o mt mw zs.length nv dl el rt rv mk) sz) := by
  refine Met.ofW (cc := cX1_element) (maxL := 5) (ret := none) (by decide) rfl ?_
  intro p e s m args below meth c s₁ B hml hv
  obtain ⟨rfl, hsz, hP, hK, hD0⟩ := hv
  subst hsz
  have hD := hD0.self (sz := s.heap.size)
  generalize hAe : va_A (wm y b1 b2 b3 b4 b5 b6 b7 b8 b9 b10 cI cJ cZ th nD nR vs ac now o mt mw zs.length nv dl el rt rv mk) s.heap.size = A at hD ⊢
  have hA : ∀ q : Nat, s.heap.size ≤ q → A q := fun q h => by rw [← hAe]; exact Or.inr h
  have hS : va_S A s.heap s.heap [] := va_S.rf
  have hx := B.exec
  have hb := B.bytes
  have hr := B.returns
  have hts := atoms_spec (ws := wsX1_element) B.pre
  have hown : s.vm.findClass RX1 = some m.cls := findClass_of_methodNamed B.named
  have hlocks := B.notSynchronized
  have hall := fun (w : Cond) (h : w ∈ allw) => hts w (List.mem_cons_of_mem _ h)
  have hl := lv_entry ([.ref y, .long v0, .long t]) (n := 5) (Nat.le_of_ble_eq_true rfl)
  rw [lg_entry_eq]
  generalize (lg_sl ([.ref y, .long v0, .long t]) ++ List.replicate (5 - (lg_sl ([.ref y, .long v0, .long t])).length) Slot.unset).toArray = ls at hl ⊢
  have hl : lv_has ls 5 [(0, .ref y), (1, .long v0), (3, .long t)] := hl
  refine lv_aload_n hx hb dX1_element_0 rfl (lv_at hl 0 rfl) ?_
  refine lv_lload_n hx hb dX1_element_1 rfl (lv_at hl 2 rfl) ?_
  refine lv_lconst (v := 0) hx hb dX1_element_2 (by decide) ?_
  refine xl_lt (tgt := 15) hx hb dX1_element_3 dX1_element_4 (by decide) (fun c_1 => ?_) (fun c_1 => ?_)
  · have c_A := c_1
    refine lv_iconst (v := 1) hx hb dX1_element_15 (by decide) ?_
    refine tp_i (y := nI 1) (by decide) ?_
    refine lv_goto (tgt := 33) hx hb dX1_element_16 (by decide) ?_
    refine va_put (D := (dC, dI)) (ci := 1) (v := .int (nI 1)) (ty := .int) (C := RX1) (T := TX1) (N := 16) hx hb hall inX1 tyX1 tyX1_ok nmX1 hown hK hP hD hS 0 rfl rfl 0 (by decide) (hall _ kw_323) (fun _ h9 => h9) rfl (by decide +kernel) rfl rfl (Nat.le_of_ble_eq_true rfl) dX1_element_33 (fun H locs hP hD hS => ?_)
    have hP : va_P (dC, dI) vwCl [(y, .inr (1, [.int (nI 1), .int (nI nD), .int (nI nR), .ref b1, .ref b2, .long now, .ref b3, .ref b4, .ref b5, .int (nI zs.length), .ref b6, .ref b7, .int (nI el), .ref b8, .ref b9, .ref b10])), (b1, .inl (cJ, 512, .inr (.inl vs))), (b2, .inl (cZ, 512, .inl (fun j => bI (ac j)))), (b3, .inl (cI, 8192, .inl (fun j => nI (o j)))), (b4, .inl (cJ, 8192, .inr (.inl mt))), (b5, .inl (cJ, 8192, .inr (.inl mw))), (b6, .inl (cJ, 16, .inr (.inl nv))), (b7, .inl (cJ, 16, .inr (.inl dl))), (b8, .inl (cJ, 8208, .inr (.inl rt))), (b9, .inl (cJ, 8208, .inr (.inl rv))), (b10, .inl (cZ, 8208, .inl (fun j => bI (mk j))))] H := hP
    have hD : va_D A [(y, .inr (1, [.int (nI 1), .int (nI nD), .int (nI nR), .ref b1, .ref b2, .long now, .ref b3, .ref b4, .ref b5, .int (nI zs.length), .ref b6, .ref b7, .int (nI el), .ref b8, .ref b9, .ref b10])), (b1, .inl (cJ, 512, .inr (.inl vs))), (b2, .inl (cZ, 512, .inl (fun j => bI (ac j)))), (b3, .inl (cI, 8192, .inl (fun j => nI (o j)))), (b4, .inl (cJ, 8192, .inr (.inl mt))), (b5, .inl (cJ, 8192, .inr (.inl mw))), (b6, .inl (cJ, 16, .inr (.inl nv))), (b7, .inl (cJ, 16, .inr (.inl dl))), (b8, .inl (cJ, 8208, .inr (.inl rt))), (b9, .inl (cJ, 8208, .inr (.inl rv))), (b10, .inl (cZ, 8208, .inl (fun j => bI (mk j))))] := hD
    refine lv_aload_n hx hb dX1_element_36 rfl (lv_at hl 0 rfl) ?_
    refine va_get (D := (dC, dI)) (ci := 1) (v := .int (nI 1)) (C := RX1) (T := TX1) (N := 16) hx hb hall inX1 hown hK hP 0 rfl rfl 0 (by decide) (hall _ kw_323) (fun _ h9 => h9) rfl dX1_element_37 ?_
    refine xz_le (tgt := 44) hx hb (by omega) dX1_element_40 (by decide) (fun c_2 => ?_) (fun c_2 => ?_)
    · exact absurd c_2 (by omega)
    · exact W.vret hx hb hr (fun t9 ht hW => ⟨⟨(), rfl, trivial, by rw [ht]; exact hP, va_K.moved hW.alike hK, hD⟩, hS.F ht⟩) hS.2.2 dX1_element_43
  · have c_A := c_1
    refine lv_lload_n hx hb dX1_element_7 rfl (lv_at hl 2 rfl) ?_
    refine lv_ldc2 (v := 1152921504606846976) hx hb hown (hall _ kw_381) dX1_element_8 ?_
    refine xl_le (tgt := 19) hx hb dX1_element_11 dX1_element_12 (by decide) (fun c_3 => ?_) (fun c_3 => ?_)
    · exact absurd hbad (fun q => q.elim c_A (fun q => absurd q (Int64.not_lt.mpr c_3)))
    · refine lv_iconst (v := 1) hx hb dX1_element_15 (by decide) ?_
      refine tp_i (y := nI 1) (by decide) ?_
      refine lv_goto (tgt := 33) hx hb dX1_element_16 (by decide) ?_
      refine va_put (D := (dC, dI)) (ci := 1) (v := .int (nI 1)) (ty := .int) (C := RX1) (T := TX1) (N := 16) hx hb hall inX1 tyX1 tyX1_ok nmX1 hown hK hP hD hS 0 rfl rfl 0 (by decide) (hall _ kw_323) (fun _ h9 => h9) rfl (by decide +kernel) rfl rfl (Nat.le_of_ble_eq_true rfl) dX1_element_33 (fun H locs hP hD hS => ?_)
      have hP : va_P (dC, dI) vwCl [(y, .inr (1, [.int (nI 1), .int (nI nD), .int (nI nR), .ref b1, .ref b2, .long now, .ref b3, .ref b4, .ref b5, .int (nI zs.length), .ref b6, .ref b7, .int (nI el), .ref b8, .ref b9, .ref b10])), (b1, .inl (cJ, 512, .inr (.inl vs))), (b2, .inl (cZ, 512, .inl (fun j => bI (ac j)))), (b3, .inl (cI, 8192, .inl (fun j => nI (o j)))), (b4, .inl (cJ, 8192, .inr (.inl mt))), (b5, .inl (cJ, 8192, .inr (.inl mw))), (b6, .inl (cJ, 16, .inr (.inl nv))), (b7, .inl (cJ, 16, .inr (.inl dl))), (b8, .inl (cJ, 8208, .inr (.inl rt))), (b9, .inl (cJ, 8208, .inr (.inl rv))), (b10, .inl (cZ, 8208, .inl (fun j => bI (mk j))))] H := hP
      have hD : va_D A [(y, .inr (1, [.int (nI 1), .int (nI nD), .int (nI nR), .ref b1, .ref b2, .long now, .ref b3, .ref b4, .ref b5, .int (nI zs.length), .ref b6, .ref b7, .int (nI el), .ref b8, .ref b9, .ref b10])), (b1, .inl (cJ, 512, .inr (.inl vs))), (b2, .inl (cZ, 512, .inl (fun j => bI (ac j)))), (b3, .inl (cI, 8192, .inl (fun j => nI (o j)))), (b4, .inl (cJ, 8192, .inr (.inl mt))), (b5, .inl (cJ, 8192, .inr (.inl mw))), (b6, .inl (cJ, 16, .inr (.inl nv))), (b7, .inl (cJ, 16, .inr (.inl dl))), (b8, .inl (cJ, 8208, .inr (.inl rt))), (b9, .inl (cJ, 8208, .inr (.inl rv))), (b10, .inl (cZ, 8208, .inl (fun j => bI (mk j))))] := hD
      refine lv_aload_n hx hb dX1_element_36 rfl (lv_at hl 0 rfl) ?_
      refine va_get (D := (dC, dI)) (ci := 1) (v := .int (nI 1)) (C := RX1) (T := TX1) (N := 16) hx hb hall inX1 hown hK hP 0 rfl rfl 0 (by decide) (hall _ kw_323) (fun _ h9 => h9) rfl dX1_element_37 ?_
      refine xz_le (tgt := 44) hx hb (by omega) dX1_element_40 (by decide) (fun c_4 => ?_) (fun c_4 => ?_)
      · exact absurd c_4 (by omega)
      · exact W.vret hx hb hr (fun t9 ht hW => ⟨⟨(), rfl, trivial, by rw [ht]; exact hP, va_K.moved hW.alike hK, hD⟩, hS.F ht⟩) hS.2.2 dX1_element_43
set_option maxHeartbeats 4000000 in
set_option maxRecDepth 100000 in
theorem m_element2 (l : Launch) (dC : Nat → ClassId) (dI : Nat → Nat → Nat) (y b1 b2 b3 b4 b5 b6 b7 b8 b9 b10 : Nat) (cI cJ cZ : ClassId) (th nD nR : Nat) (vs : Nat → Int64) (ac : Nat → Bool) (now : Int64) (o : Nat → Nat) (mt mw : Nat → Int64) (nv dl : Nat → Int64) (el : Nat) (rt rv : Nat → Int64) (mk : Nat → Bool) (zs : List ZT) (sz : Nat) (v0 t : Int64) (h1 : ¬ t < 0) (h2 : ¬ 1152921504606846976 < t) (hfull : el = 16) : Met l yX1_element wsX1_element ({ frames := 0, cells := 0, slots := 0, locals := 0 }) (va_Pc [.ref y, .long v0, .long t] (fun U => U.heap.size = sz ∧ va_P (dC, dI) vwCl (wm y b1 b2 b3 b4 b5 b6 b7 b8 b9 b10 cI cJ cZ th nD nR vs ac now o mt mw zs.length nv dl el rt rv mk) U.heap ∧ va_K (dC, dI) vwCl [(cI, .int), (cJ, .long), (cZ, .boolean)] U ∧ va_D (fun _ => True) (wm y b1 b2 b3 b4 b5 b6 b7 b8 b9 b10 cI cJ cZ th nD nR vs ac now o mt mw zs.length nv dl el rt rv mk))) (va_Qv (fun _ : Unit => True) (fun _ t9 => va_P (dC, dI) vwCl (wm y b1 b2 b3 b4 b5 b6 b7 b8 b9 b10 cI cJ cZ 2 nD nR vs ac now o mt mw zs.length nv dl el rt rv mk) t9.heap ∧ va_K (dC, dI) vwCl [(cI, .int), (cJ, .long), (cZ, .boolean)] t9 ∧ va_D (va_A (wm y b1 b2 b3 b4 b5 b6 b7 b8 b9 b10 cI cJ cZ th nD nR vs ac now o mt mw zs.length nv dl el rt rv mk) sz) (wm y b1 b2 b3 b4 b5 b6 b7 b8 b9 b10 cI cJ cZ 2 nD nR vs ac now o mt mw zs.length nv dl el rt rv mk)) (va_A (wm y b1 b2 b3 b4 b5 b6 b7 b8 b9 b10 cI cJ cZ th nD nR vs ac now o mt mw zs.length nv dl el rt rv mk) sz)) 0 0 (va_A (wm y b1 b2 b3 b4 b5 b6 b7 b8 b9 b10 cI cJ cZ th nD nR vs ac now o mt mw zs.length nv dl el rt rv mk) sz) := by
  refine Met.ofW (cc := cX1_element) (maxL := 5) (ret := none) (by decide) rfl ?_
  intro p e s m args below meth c s₁ B hml hv
  obtain ⟨rfl, hsz, hP, hK, hD0⟩ := hv
  subst hsz
  have hD := hD0.self (sz := s.heap.size)
  generalize hAe : va_A (wm y b1 b2 b3 b4 b5 b6 b7 b8 b9 b10 cI cJ cZ th nD nR vs ac now o mt mw zs.length nv dl el rt rv mk) s.heap.size = A at hD ⊢
  have hA : ∀ q : Nat, s.heap.size ≤ q → A q := fun q h => by rw [← hAe]; exact Or.inr h
  have hS : va_S A s.heap s.heap [] := va_S.rf
  have hx := B.exec
  have hb := B.bytes
  have hr := B.returns
  have hts := atoms_spec (ws := wsX1_element) B.pre
  have hown : s.vm.findClass RX1 = some m.cls := findClass_of_methodNamed B.named
  have hlocks := B.notSynchronized
  have hall := fun (w : Cond) (h : w ∈ allw) => hts w (List.mem_cons_of_mem _ h)
  have hl := lv_entry ([.ref y, .long v0, .long t]) (n := 5) (Nat.le_of_ble_eq_true rfl)
  rw [lg_entry_eq]
  generalize (lg_sl ([.ref y, .long v0, .long t]) ++ List.replicate (5 - (lg_sl ([.ref y, .long v0, .long t])).length) Slot.unset).toArray = ls at hl ⊢
  have hl : lv_has ls 5 [(0, .ref y), (1, .long v0), (3, .long t)] := hl
  refine lv_aload_n hx hb dX1_element_0 rfl (lv_at hl 0 rfl) ?_
  refine lv_lload_n hx hb dX1_element_1 rfl (lv_at hl 2 rfl) ?_
  refine lv_lconst (v := 0) hx hb dX1_element_2 (by decide) ?_
  refine xl_lt (tgt := 15) hx hb dX1_element_3 dX1_element_4 (by decide) (fun c_1 => ?_) (fun c_1 => ?_)
  · exact absurd c_1 h1
  · refine lv_lload_n hx hb dX1_element_7 rfl (lv_at hl 2 rfl) ?_
    refine lv_ldc2 (v := 1152921504606846976) hx hb hown (hall _ kw_381) dX1_element_8 ?_
    refine xl_le (tgt := 19) hx hb dX1_element_11 dX1_element_12 (by decide) (fun c_2 => ?_) (fun c_2 => ?_)
    · refine lv_aload_n hx hb dX1_element_19 rfl (lv_at hl 0 rfl) ?_
      refine va_get (D := (dC, dI)) (ci := 1) (v := .int (nI el)) (C := RX1) (T := TX1) (N := 16) hx hb hall inX1 hown hK hP 0 rfl rfl 12 (by decide) (hall _ kw_335) (fun _ h9 => h9) rfl dX1_element_20 ?_
      refine lv_bipush (v := 16) hx hb dX1_element_23 (by decide) ?_
      refine tp_i (y := nI 16) (by decide) ?_
      refine xc_ne (tgt := 32) hx hb (by omega) (by omega) dX1_element_25 (by decide) (fun c_3 => ?_) (fun c_3 => ?_)
      · exact absurd c_3 (by omega)
      · refine lv_iconst (v := 2) hx hb dX1_element_28 (by decide) ?_
        refine tp_i (y := nI 2) (by decide) ?_
        refine lv_goto (tgt := 33) hx hb dX1_element_29 (by decide) ?_
        refine va_put (D := (dC, dI)) (ci := 1) (v := .int (nI 2)) (ty := .int) (C := RX1) (T := TX1) (N := 16) hx hb hall inX1 tyX1 tyX1_ok nmX1 hown hK hP hD hS 0 rfl rfl 0 (by decide) (hall _ kw_323) (fun _ h9 => h9) rfl (by decide +kernel) rfl rfl (Nat.le_of_ble_eq_true rfl) dX1_element_33 (fun H locs hP hD hS => ?_)
        have hP : va_P (dC, dI) vwCl [(y, .inr (1, [.int (nI 2), .int (nI nD), .int (nI nR), .ref b1, .ref b2, .long now, .ref b3, .ref b4, .ref b5, .int (nI zs.length), .ref b6, .ref b7, .int (nI el), .ref b8, .ref b9, .ref b10])), (b1, .inl (cJ, 512, .inr (.inl vs))), (b2, .inl (cZ, 512, .inl (fun j => bI (ac j)))), (b3, .inl (cI, 8192, .inl (fun j => nI (o j)))), (b4, .inl (cJ, 8192, .inr (.inl mt))), (b5, .inl (cJ, 8192, .inr (.inl mw))), (b6, .inl (cJ, 16, .inr (.inl nv))), (b7, .inl (cJ, 16, .inr (.inl dl))), (b8, .inl (cJ, 8208, .inr (.inl rt))), (b9, .inl (cJ, 8208, .inr (.inl rv))), (b10, .inl (cZ, 8208, .inl (fun j => bI (mk j))))] H := hP
        have hD : va_D A [(y, .inr (1, [.int (nI 2), .int (nI nD), .int (nI nR), .ref b1, .ref b2, .long now, .ref b3, .ref b4, .ref b5, .int (nI zs.length), .ref b6, .ref b7, .int (nI el), .ref b8, .ref b9, .ref b10])), (b1, .inl (cJ, 512, .inr (.inl vs))), (b2, .inl (cZ, 512, .inl (fun j => bI (ac j)))), (b3, .inl (cI, 8192, .inl (fun j => nI (o j)))), (b4, .inl (cJ, 8192, .inr (.inl mt))), (b5, .inl (cJ, 8192, .inr (.inl mw))), (b6, .inl (cJ, 16, .inr (.inl nv))), (b7, .inl (cJ, 16, .inr (.inl dl))), (b8, .inl (cJ, 8208, .inr (.inl rt))), (b9, .inl (cJ, 8208, .inr (.inl rv))), (b10, .inl (cZ, 8208, .inl (fun j => bI (mk j))))] := hD
        refine lv_aload_n hx hb dX1_element_36 rfl (lv_at hl 0 rfl) ?_
        refine va_get (D := (dC, dI)) (ci := 1) (v := .int (nI 2)) (C := RX1) (T := TX1) (N := 16) hx hb hall inX1 hown hK hP 0 rfl rfl 0 (by decide) (hall _ kw_323) (fun _ h9 => h9) rfl dX1_element_37 ?_
        refine xz_le (tgt := 44) hx hb (by omega) dX1_element_40 (by decide) (fun c_4 => ?_) (fun c_4 => ?_)
        · exact absurd c_4 (by omega)
        · exact W.vret hx hb hr (fun t9 ht hW => ⟨⟨(), rfl, trivial, by rw [ht]; exact hP, va_K.moved hW.alike hK, hD⟩, hS.F ht⟩) hS.2.2 dX1_element_43
    · exact absurd (Int64.not_le.mp c_2) h2
set_option maxHeartbeats 4000000 in
set_option maxRecDepth 100000 in
theorem m_element0 (l : Launch) (dC : Nat → ClassId) (dI : Nat → Nat → Nat) (y b1 b2 b3 b4 b5 b6 b7 b8 b9 b10 : Nat) (cI cJ cZ : ClassId) (th nD nR : Nat) (vs : Nat → Int64) (ac : Nat → Bool) (now : Int64) (o : Nat → Nat) (mt mw : Nat → Int64) (nv dl : Nat → Int64) (el : Nat) (rt rv : Nat → Int64) (mk : Nat → Bool) (zs : List ZT) (sz : Nat) (v0 t : Int64) (h1 : ¬ t < 0) (h2 : ¬ 1152921504606846976 < t) (h3 : el < 16) : Met l yX1_element wsX1_element ({ frames := 0, cells := 0, slots := 0, locals := 0 }) (va_Pc [.ref y, .long v0, .long t] (fun U => U.heap.size = sz ∧ va_P (dC, dI) vwCl (wm y b1 b2 b3 b4 b5 b6 b7 b8 b9 b10 cI cJ cZ th nD nR vs ac now o mt mw zs.length nv dl el rt rv mk) U.heap ∧ va_K (dC, dI) vwCl [(cI, .int), (cJ, .long), (cZ, .boolean)] U ∧ va_D (fun _ => True) (wm y b1 b2 b3 b4 b5 b6 b7 b8 b9 b10 cI cJ cZ th nD nR vs ac now o mt mw zs.length nv dl el rt rv mk))) (va_Qv (fun _ : Unit => True) (fun _ t9 => va_P (dC, dI) vwCl (wm y b1 b2 b3 b4 b5 b6 b7 b8 b9 b10 cI cJ cZ 0 nD nR vs ac now o mt mw zs.length (vp_updL nv el v0) (vp_updL dl el t) (el + 1) rt rv mk) t9.heap ∧ va_K (dC, dI) vwCl [(cI, .int), (cJ, .long), (cZ, .boolean)] t9 ∧ va_D (va_A (wm y b1 b2 b3 b4 b5 b6 b7 b8 b9 b10 cI cJ cZ th nD nR vs ac now o mt mw zs.length nv dl el rt rv mk) sz) (wm y b1 b2 b3 b4 b5 b6 b7 b8 b9 b10 cI cJ cZ 0 nD nR vs ac now o mt mw zs.length (vp_updL nv el v0) (vp_updL dl el t) (el + 1) rt rv mk)) (va_A (wm y b1 b2 b3 b4 b5 b6 b7 b8 b9 b10 cI cJ cZ th nD nR vs ac now o mt mw zs.length nv dl el rt rv mk) sz)) 0 0 (va_A (wm y b1 b2 b3 b4 b5 b6 b7 b8 b9 b10 cI cJ cZ th nD nR vs ac now o mt mw zs.length nv dl el rt rv mk) sz) := by
  refine Met.ofW (cc := cX1_element) (maxL := 5) (ret := none) (by decide) rfl ?_
  intro p e s m args below meth c s₁ B hml hv
  obtain ⟨rfl, hsz, hP, hK, hD0⟩ := hv
  subst hsz
  have hD := hD0.self (sz := s.heap.size)
  generalize hAe : va_A (wm y b1 b2 b3 b4 b5 b6 b7 b8 b9 b10 cI cJ cZ th nD nR vs ac now o mt mw zs.length nv dl el rt rv mk) s.heap.size = A at hD ⊢
  have hA : ∀ q : Nat, s.heap.size ≤ q → A q := fun q h => by rw [← hAe]; exact Or.inr h
  have hS : va_S A s.heap s.heap [] := va_S.rf
  have hx := B.exec
  have hb := B.bytes
  have hr := B.returns
  have hts := atoms_spec (ws := wsX1_element) B.pre
  have hown : s.vm.findClass RX1 = some m.cls := findClass_of_methodNamed B.named
  have hlocks := B.notSynchronized
  have hall := fun (w : Cond) (h : w ∈ allw) => hts w (List.mem_cons_of_mem _ h)
  have hl := lv_entry ([.ref y, .long v0, .long t]) (n := 5) (Nat.le_of_ble_eq_true rfl)
  rw [lg_entry_eq]
  generalize (lg_sl ([.ref y, .long v0, .long t]) ++ List.replicate (5 - (lg_sl ([.ref y, .long v0, .long t])).length) Slot.unset).toArray = ls at hl ⊢
  have hl : lv_has ls 5 [(0, .ref y), (1, .long v0), (3, .long t)] := hl
  refine lv_aload_n hx hb dX1_element_0 rfl (lv_at hl 0 rfl) ?_
  refine lv_lload_n hx hb dX1_element_1 rfl (lv_at hl 2 rfl) ?_
  refine lv_lconst (v := 0) hx hb dX1_element_2 (by decide) ?_
  refine xl_lt (tgt := 15) hx hb dX1_element_3 dX1_element_4 (by decide) (fun c_1 => ?_) (fun c_1 => ?_)
  · exact absurd c_1 h1
  · refine lv_lload_n hx hb dX1_element_7 rfl (lv_at hl 2 rfl) ?_
    refine lv_ldc2 (v := 1152921504606846976) hx hb hown (hall _ kw_381) dX1_element_8 ?_
    refine xl_le (tgt := 19) hx hb dX1_element_11 dX1_element_12 (by decide) (fun c_2 => ?_) (fun c_2 => ?_)
    · refine lv_aload_n hx hb dX1_element_19 rfl (lv_at hl 0 rfl) ?_
      refine va_get (D := (dC, dI)) (ci := 1) (v := .int (nI el)) (C := RX1) (T := TX1) (N := 16) hx hb hall inX1 hown hK hP 0 rfl rfl 12 (by decide) (hall _ kw_335) (fun _ h9 => h9) rfl dX1_element_20 ?_
      refine lv_bipush (v := 16) hx hb dX1_element_23 (by decide) ?_
      refine tp_i (y := nI 16) (by decide) ?_
      refine xc_ne (tgt := 32) hx hb (by omega) (by omega) dX1_element_25 (by decide) (fun c_3 => ?_) (fun c_3 => ?_)
      · refine lv_iconst (v := 0) hx hb dX1_element_32 (by decide) ?_
        refine tp_i (y := nI 0) nI_0.symm ?_
        refine va_put (D := (dC, dI)) (ci := 1) (v := .int (nI 0)) (ty := .int) (C := RX1) (T := TX1) (N := 16) hx hb hall inX1 tyX1 tyX1_ok nmX1 hown hK hP hD hS 0 rfl rfl 0 (by decide) (hall _ kw_323) (fun _ h9 => h9) rfl (by decide +kernel) rfl rfl (Nat.le_of_ble_eq_true rfl) dX1_element_33 (fun H locs hP hD hS => ?_)
        have hP : va_P (dC, dI) vwCl [(y, .inr (1, [.int (nI 0), .int (nI nD), .int (nI nR), .ref b1, .ref b2, .long now, .ref b3, .ref b4, .ref b5, .int (nI zs.length), .ref b6, .ref b7, .int (nI el), .ref b8, .ref b9, .ref b10])), (b1, .inl (cJ, 512, .inr (.inl vs))), (b2, .inl (cZ, 512, .inl (fun j => bI (ac j)))), (b3, .inl (cI, 8192, .inl (fun j => nI (o j)))), (b4, .inl (cJ, 8192, .inr (.inl mt))), (b5, .inl (cJ, 8192, .inr (.inl mw))), (b6, .inl (cJ, 16, .inr (.inl nv))), (b7, .inl (cJ, 16, .inr (.inl dl))), (b8, .inl (cJ, 8208, .inr (.inl rt))), (b9, .inl (cJ, 8208, .inr (.inl rv))), (b10, .inl (cZ, 8208, .inl (fun j => bI (mk j))))] H := hP
        have hD : va_D A [(y, .inr (1, [.int (nI 0), .int (nI nD), .int (nI nR), .ref b1, .ref b2, .long now, .ref b3, .ref b4, .ref b5, .int (nI zs.length), .ref b6, .ref b7, .int (nI el), .ref b8, .ref b9, .ref b10])), (b1, .inl (cJ, 512, .inr (.inl vs))), (b2, .inl (cZ, 512, .inl (fun j => bI (ac j)))), (b3, .inl (cI, 8192, .inl (fun j => nI (o j)))), (b4, .inl (cJ, 8192, .inr (.inl mt))), (b5, .inl (cJ, 8192, .inr (.inl mw))), (b6, .inl (cJ, 16, .inr (.inl nv))), (b7, .inl (cJ, 16, .inr (.inl dl))), (b8, .inl (cJ, 8208, .inr (.inl rt))), (b9, .inl (cJ, 8208, .inr (.inl rv))), (b10, .inl (cZ, 8208, .inl (fun j => bI (mk j))))] := hD
        refine lv_aload_n hx hb dX1_element_36 rfl (lv_at hl 0 rfl) ?_
        refine va_get (D := (dC, dI)) (ci := 1) (v := .int (nI 0)) (C := RX1) (T := TX1) (N := 16) hx hb hall inX1 hown hK hP 0 rfl rfl 0 (by decide) (hall _ kw_323) (fun _ h9 => h9) rfl dX1_element_37 ?_
        refine xz_le (tgt := 44) hx hb (by omega) dX1_element_40 (by decide) (fun c_4 => ?_) (fun c_4 => ?_)
        · refine lv_aload_n hx hb dX1_element_44 rfl (lv_at hl 0 rfl) ?_
          refine va_get (D := (dC, dI)) (ci := 1) (v := .ref b6) (C := RX1) (T := TX1) (N := 16) hx hb hall inX1 hown hK hP 0 rfl rfl 10 (by decide) (hall _ kw_333) (fun _ h9 => h9) rfl dX1_element_45 ?_
          refine lv_aload_n hx hb dX1_element_48 rfl (lv_at hl 0 rfl) ?_
          refine va_get (D := (dC, dI)) (ci := 1) (v := .int (nI el)) (C := RX1) (T := TX1) (N := 16) hx hb hall inX1 hown hK hP 0 rfl rfl 12 (by decide) (hall _ kw_335) (fun _ h9 => h9) rfl dX1_element_49 ?_
          refine lv_lload_n hx hb dX1_element_52 rfl (lv_at hl 1 rfl) ?_
          refine xa_last hx hb hK hP hD hS 6 1 rfl rfl (by omega) (by omega) dX1_element_53 (fun H locs hP hD hS => ?_)
          have hP : va_P (dC, dI) vwCl [(y, .inr (1, [.int (nI 0), .int (nI nD), .int (nI nR), .ref b1, .ref b2, .long now, .ref b3, .ref b4, .ref b5, .int (nI zs.length), .ref b6, .ref b7, .int (nI el), .ref b8, .ref b9, .ref b10])), (b1, .inl (cJ, 512, .inr (.inl vs))), (b2, .inl (cZ, 512, .inl (fun j => bI (ac j)))), (b3, .inl (cI, 8192, .inl (fun j => nI (o j)))), (b4, .inl (cJ, 8192, .inr (.inl mt))), (b5, .inl (cJ, 8192, .inr (.inl mw))), (b6, .inl (cJ, 16, .inr (.inl (vp_updL nv el v0)))), (b7, .inl (cJ, 16, .inr (.inl dl))), (b8, .inl (cJ, 8208, .inr (.inl rt))), (b9, .inl (cJ, 8208, .inr (.inl rv))), (b10, .inl (cZ, 8208, .inl (fun j => bI (mk j))))] H := hP
          have hD : va_D A [(y, .inr (1, [.int (nI 0), .int (nI nD), .int (nI nR), .ref b1, .ref b2, .long now, .ref b3, .ref b4, .ref b5, .int (nI zs.length), .ref b6, .ref b7, .int (nI el), .ref b8, .ref b9, .ref b10])), (b1, .inl (cJ, 512, .inr (.inl vs))), (b2, .inl (cZ, 512, .inl (fun j => bI (ac j)))), (b3, .inl (cI, 8192, .inl (fun j => nI (o j)))), (b4, .inl (cJ, 8192, .inr (.inl mt))), (b5, .inl (cJ, 8192, .inr (.inl mw))), (b6, .inl (cJ, 16, .inr (.inl (vp_updL nv el v0)))), (b7, .inl (cJ, 16, .inr (.inl dl))), (b8, .inl (cJ, 8208, .inr (.inl rt))), (b9, .inl (cJ, 8208, .inr (.inl rv))), (b10, .inl (cZ, 8208, .inl (fun j => bI (mk j))))] := hD
          refine lv_aload_n hx hb dX1_element_54 rfl (lv_at hl 0 rfl) ?_
          refine va_get (D := (dC, dI)) (ci := 1) (v := .ref b7) (C := RX1) (T := TX1) (N := 16) hx hb hall inX1 hown hK hP 0 rfl rfl 11 (by decide) (hall _ kw_334) (fun _ h9 => h9) rfl dX1_element_55 ?_
          refine lv_aload_n hx hb dX1_element_58 rfl (lv_at hl 0 rfl) ?_
          refine va_get (D := (dC, dI)) (ci := 1) (v := .int (nI el)) (C := RX1) (T := TX1) (N := 16) hx hb hall inX1 hown hK hP 0 rfl rfl 12 (by decide) (hall _ kw_335) (fun _ h9 => h9) rfl dX1_element_59 ?_
          refine lv_lload_n hx hb dX1_element_62 rfl (lv_at hl 2 rfl) ?_
          refine xa_last hx hb hK hP hD hS 7 1 rfl rfl (by omega) (by omega) dX1_element_63 (fun H locs hP hD hS => ?_)
          have hP : va_P (dC, dI) vwCl [(y, .inr (1, [.int (nI 0), .int (nI nD), .int (nI nR), .ref b1, .ref b2, .long now, .ref b3, .ref b4, .ref b5, .int (nI zs.length), .ref b6, .ref b7, .int (nI el), .ref b8, .ref b9, .ref b10])), (b1, .inl (cJ, 512, .inr (.inl vs))), (b2, .inl (cZ, 512, .inl (fun j => bI (ac j)))), (b3, .inl (cI, 8192, .inl (fun j => nI (o j)))), (b4, .inl (cJ, 8192, .inr (.inl mt))), (b5, .inl (cJ, 8192, .inr (.inl mw))), (b6, .inl (cJ, 16, .inr (.inl (vp_updL nv el v0)))), (b7, .inl (cJ, 16, .inr (.inl (vp_updL dl el t)))), (b8, .inl (cJ, 8208, .inr (.inl rt))), (b9, .inl (cJ, 8208, .inr (.inl rv))), (b10, .inl (cZ, 8208, .inl (fun j => bI (mk j))))] H := hP
          have hD : va_D A [(y, .inr (1, [.int (nI 0), .int (nI nD), .int (nI nR), .ref b1, .ref b2, .long now, .ref b3, .ref b4, .ref b5, .int (nI zs.length), .ref b6, .ref b7, .int (nI el), .ref b8, .ref b9, .ref b10])), (b1, .inl (cJ, 512, .inr (.inl vs))), (b2, .inl (cZ, 512, .inl (fun j => bI (ac j)))), (b3, .inl (cI, 8192, .inl (fun j => nI (o j)))), (b4, .inl (cJ, 8192, .inr (.inl mt))), (b5, .inl (cJ, 8192, .inr (.inl mw))), (b6, .inl (cJ, 16, .inr (.inl (vp_updL nv el v0)))), (b7, .inl (cJ, 16, .inr (.inl (vp_updL dl el t)))), (b8, .inl (cJ, 8208, .inr (.inl rt))), (b9, .inl (cJ, 8208, .inr (.inl rv))), (b10, .inl (cZ, 8208, .inl (fun j => bI (mk j))))] := hD
          refine lv_aload_n hx hb dX1_element_64 rfl (lv_at hl 0 rfl) ?_
          refine lv_dup hx hb dX1_element_65 rfl ?_
          refine va_get (D := (dC, dI)) (ci := 1) (v := .int (nI el)) (C := RX1) (T := TX1) (N := 16) hx hb hall inX1 hown hK hP 0 rfl rfl 12 (by decide) (hall _ kw_335) (fun _ h9 => h9) rfl dX1_element_66 ?_
          refine lv_iconst (v := 1) hx hb dX1_element_69 (by decide) ?_
          refine lv_iadd hx hb dX1_element_70 ?_
          refine tp_i (y := nI (el + 1)) (nI_1 el) ?_
          refine va_put (D := (dC, dI)) (ci := 1) (v := .int (nI (el + 1))) (ty := .int) (C := RX1) (T := TX1) (N := 16) hx hb hall inX1 tyX1 tyX1_ok nmX1 hown hK hP hD hS 0 rfl rfl 12 (by decide) (hall _ kw_335) (fun _ h9 => h9) rfl (by decide +kernel) rfl rfl (Nat.le_of_ble_eq_true rfl) dX1_element_71 (fun H locs hP hD hS => ?_)
          have hP : va_P (dC, dI) vwCl [(y, .inr (1, [.int (nI 0), .int (nI nD), .int (nI nR), .ref b1, .ref b2, .long now, .ref b3, .ref b4, .ref b5, .int (nI zs.length), .ref b6, .ref b7, .int (nI (el + 1)), .ref b8, .ref b9, .ref b10])), (b1, .inl (cJ, 512, .inr (.inl vs))), (b2, .inl (cZ, 512, .inl (fun j => bI (ac j)))), (b3, .inl (cI, 8192, .inl (fun j => nI (o j)))), (b4, .inl (cJ, 8192, .inr (.inl mt))), (b5, .inl (cJ, 8192, .inr (.inl mw))), (b6, .inl (cJ, 16, .inr (.inl (vp_updL nv el v0)))), (b7, .inl (cJ, 16, .inr (.inl (vp_updL dl el t)))), (b8, .inl (cJ, 8208, .inr (.inl rt))), (b9, .inl (cJ, 8208, .inr (.inl rv))), (b10, .inl (cZ, 8208, .inl (fun j => bI (mk j))))] H := hP
          have hD : va_D A [(y, .inr (1, [.int (nI 0), .int (nI nD), .int (nI nR), .ref b1, .ref b2, .long now, .ref b3, .ref b4, .ref b5, .int (nI zs.length), .ref b6, .ref b7, .int (nI (el + 1)), .ref b8, .ref b9, .ref b10])), (b1, .inl (cJ, 512, .inr (.inl vs))), (b2, .inl (cZ, 512, .inl (fun j => bI (ac j)))), (b3, .inl (cI, 8192, .inl (fun j => nI (o j)))), (b4, .inl (cJ, 8192, .inr (.inl mt))), (b5, .inl (cJ, 8192, .inr (.inl mw))), (b6, .inl (cJ, 16, .inr (.inl (vp_updL nv el v0)))), (b7, .inl (cJ, 16, .inr (.inl (vp_updL dl el t)))), (b8, .inl (cJ, 8208, .inr (.inl rt))), (b9, .inl (cJ, 8208, .inr (.inl rv))), (b10, .inl (cZ, 8208, .inl (fun j => bI (mk j))))] := hD
          exact W.vret hx hb hr (fun t9 ht hW => ⟨⟨(), rfl, trivial, by rw [ht]; exact hP, va_K.moved hW.alike hK, hD⟩, hS.F ht⟩) hS.2.2 dX1_element_74
        · exact absurd c_4 (by omega)
      · exact absurd c_3 (by omega)
    · exact absurd (Int64.not_le.mp c_2) h2
set_option maxHeartbeats 4000000 in
set_option maxRecDepth 100000 in
theorem m_value1 (l : Launch) (dC : Nat → ClassId) (dI : Nat → Nat → Nat) (y b1 b2 b3 b4 b5 b6 b7 b8 b9 b10 : Nat) (cI cJ cZ : ClassId) (th nD nR : Nat) (vs : Nat → Int64) (ac : Nat → Bool) (now : Int64) (o : Nat → Nat) (mt mw : Nat → Int64) (nv dl : Nat → Int64) (el : Nat) (rt rv : Nat → Int64) (mk : Nat → Bool) (zs : List ZT) (sz : Nat) (i : Int32) (hbad : i < 0 ∨ nI nD ≤ i) : Met l yX1_value wsX1_value ({ frames := 1, cells := 0, slots := 0, locals := 21 }) (va_Pc [.ref y, .int i] (fun U => U.heap.size = sz ∧ va_P (dC, dI) vwCl (wm y b1 b2 b3 b4 b5 b6 b7 b8 b9 b10 cI cJ cZ th nD nR vs ac now o mt mw zs.length nv dl el rt rv mk) U.heap ∧ va_K (dC, dI) vwCl [(cI, .int), (cJ, .long), (cZ, .boolean)] U ∧ va_D (fun _ => True) (wm y b1 b2 b3 b4 b5 b6 b7 b8 b9 b10 cI cJ cZ th nD nR vs ac now o mt mw zs.length nv dl el rt rv mk))) (va_Ql (fun (v : Int64) (_ : Unit) => True) (fun _ t9 => va_P (dC, dI) vwCl (wm y b1 b2 b3 b4 b5 b6 b7 b8 b9 b10 cI cJ cZ 1 nD nR vs ac now o mt mw zs.length nv dl el rt rv mk) t9.heap ∧ va_K (dC, dI) vwCl [(cI, .int), (cJ, .long), (cZ, .boolean)] t9 ∧ va_D (va_A (wm y b1 b2 b3 b4 b5 b6 b7 b8 b9 b10 cI cJ cZ th nD nR vs ac now o mt mw zs.length nv dl el rt rv mk) sz) (wm y b1 b2 b3 b4 b5 b6 b7 b8 b9 b10 cI cJ cZ 1 nD nR vs ac now o mt mw zs.length nv dl el rt rv mk)) (va_A (wm y b1 b2 b3 b4 b5 b6 b7 b8 b9 b10 cI cJ cZ th nD nR vs ac now o mt mw zs.length nv dl el rt rv mk) sz)) 0 0 (va_A (wm y b1 b2 b3 b4 b5 b6 b7 b8 b9 b10 cI cJ cZ th nD nR vs ac now o mt mw zs.length nv dl el rt rv mk) sz) := by
  refine Met.ofW (cc := cX1_value) (maxL := 2) (ret := (some .long)) (by decide) rfl ?_
  intro p e s m args below meth c s₁ B hml hv
  obtain ⟨rfl, hsz, hP, hK, hD0⟩ := hv
  subst hsz
  have hD := hD0.self (sz := s.heap.size)
  generalize hAe : va_A (wm y b1 b2 b3 b4 b5 b6 b7 b8 b9 b10 cI cJ cZ th nD nR vs ac now o mt mw zs.length nv dl el rt rv mk) s.heap.size = A at hD ⊢
  have hA : ∀ q : Nat, s.heap.size ≤ q → A q := fun q h => by rw [← hAe]; exact Or.inr h
  have hS : va_S A s.heap s.heap [] := va_S.rf
  have hx := B.exec
  have hb := B.bytes
  have hr := B.returns
  have hts := atoms_spec (ws := wsX1_value) B.pre
  have hown : s.vm.findClass RX1 = some m.cls := findClass_of_methodNamed B.named
  have hlocks := B.notSynchronized
  have hall := fun (w : Cond) (h : w ∈ allw) => hts w (List.mem_cons_of_mem _ h)
  have hl := lv_entry ([.ref y, .int i]) (n := 2) (Nat.le_of_ble_eq_true rfl)
  rw [lg_entry_eq]
  generalize (lg_sl ([.ref y, .int i]) ++ List.replicate (2 - (lg_sl ([.ref y, .int i])).length) Slot.unset).toArray = ls at hl ⊢
  have hl : lv_has ls 2 [(0, .ref y), (1, .int i)] := hl
  refine lv_aload_n hx hb dX1_value_0 rfl (lv_at hl 0 rfl) ?_
  refine lv_aload_n hx hb dX1_value_1 rfl (lv_at hl 0 rfl) ?_
  refine lv_iload_n hx hb dX1_value_2 rfl (lv_at hl 1 rfl) ?_
  refine vp_callSi (W.runV (As := [.int i]) (rest := [.ref y]) ⟨hx, hb, hml, hown, hall⟩ (m_none1 l dC dI y b1 b2 b3 b4 b5 b6 b7 b8 b9 b10 cI cJ cZ th nD nR vs ac now o mt mw nv dl el rt rv mk zs i hbad) (cwV 1 hall gX1_60 rfl rfl rfl (by decide +kernel) ⟨Nat.le_of_ble_eq_true rfl, Nat.le_of_ble_eq_true rfl⟩) ⟨xr_blind, va_recv hK hP (ci := 1) (q0 := 0) rfl rfl, fun U hU hW => ⟨rfl, by rw [hU]; exact hP, va_K.moved hW.alike hK⟩⟩ rfl rfl hl.1 rfl (lv_room (Nat.le_of_ble_eq_true rfl)) dX1_value_3 ⟨by first | exact Nat.zero_le _ | omega, by first | exact Nat.zero_le _ | omega⟩) (fun v_1 hv_2 => ?_)
  subst hv_2
  refine lv_if_eq (tgt := 13) hx hb dX1_value_6 (by decide) (fun c_3 => ?_) (fun c_3 => ?_)
  · exact absurd c_3 (by decide)
  · refine lv_iconst (v := 1) hx hb dX1_value_9 (by decide) ?_
    refine tp_i (y := nI 1) (by decide) ?_
    refine lv_goto (tgt := 14) hx hb dX1_value_10 (by decide) ?_
    refine va_put (D := (dC, dI)) (ci := 1) (v := .int (nI 1)) (ty := .int) (C := RX1) (T := TX1) (N := 16) hx hb hall inX1 tyX1 tyX1_ok nmX1 hown hK hP hD hS 0 rfl rfl 0 (by decide) (hall _ kw_323) (fun _ h9 => h9) rfl (by decide +kernel) rfl rfl (Nat.le_of_ble_eq_true rfl) dX1_value_14 (fun H locs hP hD hS => ?_)
    have hP : va_P (dC, dI) vwCl [(y, .inr (1, [.int (nI 1), .int (nI nD), .int (nI nR), .ref b1, .ref b2, .long now, .ref b3, .ref b4, .ref b5, .int (nI zs.length), .ref b6, .ref b7, .int (nI el), .ref b8, .ref b9, .ref b10])), (b1, .inl (cJ, 512, .inr (.inl vs))), (b2, .inl (cZ, 512, .inl (fun j => bI (ac j)))), (b3, .inl (cI, 8192, .inl (fun j => nI (o j)))), (b4, .inl (cJ, 8192, .inr (.inl mt))), (b5, .inl (cJ, 8192, .inr (.inl mw))), (b6, .inl (cJ, 16, .inr (.inl nv))), (b7, .inl (cJ, 16, .inr (.inl dl))), (b8, .inl (cJ, 8208, .inr (.inl rt))), (b9, .inl (cJ, 8208, .inr (.inl rv))), (b10, .inl (cZ, 8208, .inl (fun j => bI (mk j))))] H := hP
    have hD : va_D A [(y, .inr (1, [.int (nI 1), .int (nI nD), .int (nI nR), .ref b1, .ref b2, .long now, .ref b3, .ref b4, .ref b5, .int (nI zs.length), .ref b6, .ref b7, .int (nI el), .ref b8, .ref b9, .ref b10])), (b1, .inl (cJ, 512, .inr (.inl vs))), (b2, .inl (cZ, 512, .inl (fun j => bI (ac j)))), (b3, .inl (cI, 8192, .inl (fun j => nI (o j)))), (b4, .inl (cJ, 8192, .inr (.inl mt))), (b5, .inl (cJ, 8192, .inr (.inl mw))), (b6, .inl (cJ, 16, .inr (.inl nv))), (b7, .inl (cJ, 16, .inr (.inl dl))), (b8, .inl (cJ, 8208, .inr (.inl rt))), (b9, .inl (cJ, 8208, .inr (.inl rv))), (b10, .inl (cZ, 8208, .inl (fun j => bI (mk j))))] := hD
    refine lv_aload_n hx hb dX1_value_17 rfl (lv_at hl 0 rfl) ?_
    refine va_get (D := (dC, dI)) (ci := 1) (v := .int (nI 1)) (C := RX1) (T := TX1) (N := 16) hx hb hall inX1 hown hK hP 0 rfl rfl 0 (by decide) (hall _ kw_323) (fun _ h9 => h9) rfl dX1_value_18 ?_
    refine xz_le (tgt := 28) hx hb (by omega) dX1_value_21 (by decide) (fun c_4 => ?_) (fun c_4 => ?_)
    · exact absurd c_4 (by omega)
    · refine lv_lconst (v := 0) hx hb dX1_value_24 (by decide) ?_
      refine lv_goto (tgt := 34) hx hb dX1_value_25 (by decide) ?_
      exact W.lret (v := 0) hx hb hr (fun t9 ht hW => ⟨⟨0, (), rfl, trivial, by rw [ht]; exact hP, va_K.moved hW.alike hK, hD⟩, hS.F ht⟩) hS.2.2 dX1_value_34
set_option maxHeartbeats 4000000 in
set_option maxRecDepth 100000 in
theorem m_value0 (l : Launch) (dC : Nat → ClassId) (dI : Nat → Nat → Nat) (y b1 b2 b3 b4 b5 b6 b7 b8 b9 b10 : Nat) (cI cJ cZ : ClassId) (th nD nR : Nat) (vs : Nat → Int64) (ac : Nat → Bool) (now : Int64) (o : Nat → Nat) (mt mw : Nat → Int64) (nv dl : Nat → Int64) (el : Nat) (rt rv : Nat → Int64) (mk : Nat → Bool) (zs : List ZT) (sz : Nat) (hI : wm_I nD nR el zs) (hZ : wz zs o mt mw) (d : Nat) (hd : d < nD) : Met l yX1_value wsX1_value ({ frames := 1, cells := 0, slots := 0, locals := 21 }) (va_Pc [.ref y, .int (nI d)] (fun U => U.heap.size = sz ∧ va_P (dC, dI) vwCl (wm y b1 b2 b3 b4 b5 b6 b7 b8 b9 b10 cI cJ cZ th nD nR vs ac now o mt mw zs.length nv dl el rt rv mk) U.heap ∧ va_K (dC, dI) vwCl [(cI, .int), (cJ, .long), (cZ, .boolean)] U ∧ va_D (fun _ => True) (wm y b1 b2 b3 b4 b5 b6 b7 b8 b9 b10 cI cJ cZ th nD nR vs ac now o mt mw zs.length nv dl el rt rv mk))) (va_Ql (fun (v : Int64) (_ : Unit) => v = vs d) (fun _ t9 => va_P (dC, dI) vwCl (wm y b1 b2 b3 b4 b5 b6 b7 b8 b9 b10 cI cJ cZ 0 nD nR vs ac now o mt mw zs.length nv dl el rt rv mk) t9.heap ∧ va_K (dC, dI) vwCl [(cI, .int), (cJ, .long), (cZ, .boolean)] t9 ∧ va_D (va_A (wm y b1 b2 b3 b4 b5 b6 b7 b8 b9 b10 cI cJ cZ th nD nR vs ac now o mt mw zs.length nv dl el rt rv mk) sz) (wm y b1 b2 b3 b4 b5 b6 b7 b8 b9 b10 cI cJ cZ 0 nD nR vs ac now o mt mw zs.length nv dl el rt rv mk)) (va_A (wm y b1 b2 b3 b4 b5 b6 b7 b8 b9 b10 cI cJ cZ th nD nR vs ac now o mt mw zs.length nv dl el rt rv mk) sz)) 0 0 (va_A (wm y b1 b2 b3 b4 b5 b6 b7 b8 b9 b10 cI cJ cZ th nD nR vs ac now o mt mw zs.length nv dl el rt rv mk) sz) := by
  refine Met.ofW (cc := cX1_value) (maxL := 2) (ret := (some .long)) (by decide) rfl ?_
  intro p e s m args below meth c s₁ B hml hv
  obtain ⟨rfl, hsz, hP, hK, hD0⟩ := hv
  subst hsz
  have hD := hD0.self (sz := s.heap.size)
  generalize hAe : va_A (wm y b1 b2 b3 b4 b5 b6 b7 b8 b9 b10 cI cJ cZ th nD nR vs ac now o mt mw zs.length nv dl el rt rv mk) s.heap.size = A at hD ⊢
  have hA : ∀ q : Nat, s.heap.size ≤ q → A q := fun q h => by rw [← hAe]; exact Or.inr h
  have hS : va_S A s.heap s.heap [] := va_S.rf
  have hx := B.exec
  have hb := B.bytes
  have hr := B.returns
  have hts := atoms_spec (ws := wsX1_value) B.pre
  have hown : s.vm.findClass RX1 = some m.cls := findClass_of_methodNamed B.named
  have hlocks := B.notSynchronized
  have hall := fun (w : Cond) (h : w ∈ allw) => hts w (List.mem_cons_of_mem _ h)
  have hl := lv_entry ([.ref y, .int (nI d)]) (n := 2) (Nat.le_of_ble_eq_true rfl)
  rw [lg_entry_eq]
  generalize (lg_sl ([.ref y, .int (nI d)]) ++ List.replicate (2 - (lg_sl ([.ref y, .int (nI d)])).length) Slot.unset).toArray = ls at hl ⊢
  have hl : lv_has ls 2 [(0, .ref y), (1, .int (nI d))] := hl
  have hI0 := hI
  obtain ⟨hnD1, hnD, hnR1, hnR, hzR, hel, how⟩ := hI
  refine lv_aload_n hx hb dX1_value_0 rfl (lv_at hl 0 rfl) ?_
  refine lv_aload_n hx hb dX1_value_1 rfl (lv_at hl 0 rfl) ?_
  refine lv_iload_n hx hb dX1_value_2 rfl (lv_at hl 1 rfl) ?_
  refine vp_callSi (W.runV (As := [.int (nI d)]) (rest := [.ref y]) ⟨hx, hb, hml, hown, hall⟩ (m_none0 l dC dI y b1 b2 b3 b4 b5 b6 b7 b8 b9 b10 cI cJ cZ th nD nR vs ac now o mt mw nv dl el rt rv mk zs hI0 hZ d hd) (cwV 1 hall gX1_60 rfl rfl rfl (by decide +kernel) ⟨Nat.le_of_ble_eq_true rfl, Nat.le_of_ble_eq_true rfl⟩) ⟨xr_blind, va_recv hK hP (ci := 1) (q0 := 0) rfl rfl, fun U hU hW => ⟨rfl, by rw [hU]; exact hP, va_K.moved hW.alike hK⟩⟩ rfl rfl hl.1 rfl (lv_room (Nat.le_of_ble_eq_true rfl)) dX1_value_3 ⟨by first | exact Nat.zero_le _ | omega, by first | exact Nat.zero_le _ | omega⟩) (fun v_1 hv_2 => ?_)
  subst hv_2
  refine lv_if_eq (tgt := 13) hx hb dX1_value_6 (by decide) (fun c_3 => ?_) (fun c_3 => ?_)
  · refine lv_iconst (v := 0) hx hb dX1_value_13 (by decide) ?_
    refine tp_i (y := nI 0) nI_0.symm ?_
    refine va_put (D := (dC, dI)) (ci := 1) (v := .int (nI 0)) (ty := .int) (C := RX1) (T := TX1) (N := 16) hx hb hall inX1 tyX1 tyX1_ok nmX1 hown hK hP hD hS 0 rfl rfl 0 (by decide) (hall _ kw_323) (fun _ h9 => h9) rfl (by decide +kernel) rfl rfl (Nat.le_of_ble_eq_true rfl) dX1_value_14 (fun H locs hP hD hS => ?_)
    have hP : va_P (dC, dI) vwCl [(y, .inr (1, [.int (nI 0), .int (nI nD), .int (nI nR), .ref b1, .ref b2, .long now, .ref b3, .ref b4, .ref b5, .int (nI zs.length), .ref b6, .ref b7, .int (nI el), .ref b8, .ref b9, .ref b10])), (b1, .inl (cJ, 512, .inr (.inl vs))), (b2, .inl (cZ, 512, .inl (fun j => bI (ac j)))), (b3, .inl (cI, 8192, .inl (fun j => nI (o j)))), (b4, .inl (cJ, 8192, .inr (.inl mt))), (b5, .inl (cJ, 8192, .inr (.inl mw))), (b6, .inl (cJ, 16, .inr (.inl nv))), (b7, .inl (cJ, 16, .inr (.inl dl))), (b8, .inl (cJ, 8208, .inr (.inl rt))), (b9, .inl (cJ, 8208, .inr (.inl rv))), (b10, .inl (cZ, 8208, .inl (fun j => bI (mk j))))] H := hP
    have hD : va_D A [(y, .inr (1, [.int (nI 0), .int (nI nD), .int (nI nR), .ref b1, .ref b2, .long now, .ref b3, .ref b4, .ref b5, .int (nI zs.length), .ref b6, .ref b7, .int (nI el), .ref b8, .ref b9, .ref b10])), (b1, .inl (cJ, 512, .inr (.inl vs))), (b2, .inl (cZ, 512, .inl (fun j => bI (ac j)))), (b3, .inl (cI, 8192, .inl (fun j => nI (o j)))), (b4, .inl (cJ, 8192, .inr (.inl mt))), (b5, .inl (cJ, 8192, .inr (.inl mw))), (b6, .inl (cJ, 16, .inr (.inl nv))), (b7, .inl (cJ, 16, .inr (.inl dl))), (b8, .inl (cJ, 8208, .inr (.inl rt))), (b9, .inl (cJ, 8208, .inr (.inl rv))), (b10, .inl (cZ, 8208, .inl (fun j => bI (mk j))))] := hD
    refine lv_aload_n hx hb dX1_value_17 rfl (lv_at hl 0 rfl) ?_
    refine va_get (D := (dC, dI)) (ci := 1) (v := .int (nI 0)) (C := RX1) (T := TX1) (N := 16) hx hb hall inX1 hown hK hP 0 rfl rfl 0 (by decide) (hall _ kw_323) (fun _ h9 => h9) rfl dX1_value_18 ?_
    refine xz_le (tgt := 28) hx hb (by omega) dX1_value_21 (by decide) (fun c_4 => ?_) (fun c_4 => ?_)
    · refine lv_aload_n hx hb dX1_value_28 rfl (lv_at hl 0 rfl) ?_
      refine va_get (D := (dC, dI)) (ci := 1) (v := .ref b1) (C := RX1) (T := TX1) (N := 16) hx hb hall inX1 hown hK hP 0 rfl rfl 3 (by decide) (hall _ kw_326) (fun _ h9 => h9) rfl dX1_value_29 ?_
      refine lv_iload_n hx hb dX1_value_32 rfl (lv_at hl 1 rfl) ?_
      refine xa_lald hx hb hK hP 1 1 rfl rfl (by omega) (by omega) dX1_value_33 ?_
      exact W.lret (v := vs d) hx hb hr (fun t9 ht hW => ⟨⟨vs d, (), rfl, rfl, by rw [ht]; exact hP, va_K.moved hW.alike hK, hD⟩, hS.F ht⟩) hS.2.2 dX1_value_34
    · exact absurd c_4 (by omega)
  · exact absurd rfl c_3
set_option maxHeartbeats 4000000 in
set_option maxRecDepth 100000 in
theorem m_rises (l : Launch) (dC : Nat → ClassId) (dI : Nat → Nat → Nat) (y b1 b2 b3 b4 b5 b6 b7 b8 b9 b10 : Nat) (cI cJ cZ : ClassId) (th nD nR : Nat) (vs : Nat → Int64) (ac : Nat → Bool) (now : Int64) (o : Nat → Nat) (mt mw : Nat → Int64) (nv dl : Nat → Int64) (el : Nat) (rt rv : Nat → Int64) (mk : Nat → Bool) (zs : List ZT) (hel : el ≤ 16) : Met l yX1_rises wsX1_rises ({ frames := 0, cells := 0, slots := 0, locals := 0 }) (va_Pc [.ref y] (fun U => va_P (dC, dI) vwCl (wm y b1 b2 b3 b4 b5 b6 b7 b8 b9 b10 cI cJ cZ th nD nR vs ac now o mt mw zs.length nv dl el rt rv mk) U.heap ∧ va_K (dC, dI) vwCl [(cI, .int), (cJ, .long), (cZ, .boolean)] U)) (vp_Si (fun v => v = 1 ∧ wm_ri dl el ∨ v = 0 ∧ ¬ wm_ri dl el)) 0 0 (fun _ => False) := by
  refine Met.ofW (cc := cX1_rises) (maxL := 3) (ret := (some .boolean)) (by decide) rfl ?_
  intro p e s m args below meth c s₁ B hml hv
  obtain ⟨rfl, hP, hK⟩ := hv
  have hx := B.exec
  have hb := B.bytes
  have hr := B.returns
  have hts := atoms_spec (ws := wsX1_rises) B.pre
  have hown : s.vm.findClass RX1 = some m.cls := findClass_of_methodNamed B.named
  have hlocks := B.notSynchronized
  have hall := fun (w : Cond) (h : w ∈ allw) => hts w (List.mem_cons_of_mem _ h)
  have hl := lv_entry ([.ref y]) (n := 3) (Nat.le_of_ble_eq_true rfl)
  rw [lg_entry_eq]
  generalize (lg_sl ([.ref y]) ++ List.replicate (3 - (lg_sl ([.ref y])).length) Slot.unset).toArray = ls at hl ⊢
  have hl : lv_has ls 3 [(0, .ref y)] := hl
  refine lv_iconst (v := 1) hx hb dX1_rises_0 (by decide) ?_
  refine tp_i (y := bI true) bI_t ?_
  refine lv_istore_n (lv' := [(1, .int (bI true)), (0, .ref y)]) hx hb dX1_rises_1 rfl hl (by decide) rfl (fun ls hl => ?_)
  refine lv_iconst (v := 1) hx hb dX1_rises_2 (by decide) ?_
  refine tp_i (y := nI 1) (by decide) ?_
  refine lv_istore_n (lv' := [(2, .int (nI 1)), (1, .int (bI true)), (0, .ref y)]) hx hb dX1_rises_3 rfl hl (by decide) rfl (fun ls hl => ?_)
  have hloop : ∀ (n k : Nat) (g : Bool) (ls : Array Slot), (k + n = el ∨ el ≤ k ∧ n = 0) → 1 ≤ k → k ≤ 17 → (g = true ↔ ∀ j, 1 ≤ j → j < k → j < el → dl (j - 1) < dl j) → k + n ≤ el + 1 → lv_has ls 3 [(0, .ref y), (1, .int (bI g)), (2, .int (nI k))] → W p l e (headSpec wsX1_rises ({ frames := 0, cells := 0, slots := 0, locals := 0 })).room s m (([.ref y] : List Value).toArray) below meth c s.heap [] 0 0 (MQ below (vp_Si (fun v => v = 1 ∧ wm_ri dl el ∨ v = 0 ∧ ¬ wm_ri dl el)) (([.ref y] : List Value).toArray) s 0 0 (fun _ => False)) (F0 m 4 ls []) := by
    intro n
    induction n with
    | zero =>
      intro k g ls hk hk1 hk2 hg hb2 hl
      refine lv_iload_n hx hb dX1_rises_4 rfl (lv_at hl 2 rfl) ?_
      refine lv_aload_n hx hb dX1_rises_5 rfl (lv_at hl 0 rfl) ?_
      refine va_get (D := (dC, dI)) (ci := 1) (v := .int (nI el)) (C := RX1) (T := TX1) (N := 16) hx hb hall inX1 hown hK hP 0 rfl rfl 12 (by decide) (hall _ kw_335) (fun _ h9 => h9) rfl dX1_rises_6 ?_
      refine xc_ge (tgt := 46) hx hb (by omega) (by omega) dX1_rises_9 (by decide) (fun c_1 => ?_) (fun c_1 => ?_)
      · refine lv_iload_n hx hb dX1_rises_46 rfl (lv_at hl 1 rfl) ?_
        cases g with
        | true => exact W.zret (v := 1) (ty := .boolean) hx hb hr narrow_b1 (fun t9 ht hW => ⟨1, rfl, Or.inl ⟨rfl, fun j h1 h2 => hg.mp rfl j h1 (by omega) h2⟩, ht⟩) (fun q hq => nomatch hq) dX1_rises_47
        | false => exact W.zret (v := 0) (ty := .boolean) hx hb hr narrow_b0 (fun t9 ht hW => ⟨0, rfl, Or.inr ⟨rfl, fun q => absurd (hg.mpr (fun j h1 h2 h3 => q j h1 h3)) (by decide)⟩, ht⟩) (fun q hq => nomatch hq) dX1_rises_47
      · exact absurd c_1 (by omega)
    | succ n ih =>
      intro k g ls hk hk1 hk2 hg hb2 hl
      refine lv_iload_n hx hb dX1_rises_4 rfl (lv_at hl 2 rfl) ?_
      refine lv_aload_n hx hb dX1_rises_5 rfl (lv_at hl 0 rfl) ?_
      refine va_get (D := (dC, dI)) (ci := 1) (v := .int (nI el)) (C := RX1) (T := TX1) (N := 16) hx hb hall inX1 hown hK hP 0 rfl rfl 12 (by decide) (hall _ kw_335) (fun _ h9 => h9) rfl dX1_rises_6 ?_
      refine xc_ge (tgt := 46) hx hb (by omega) (by omega) dX1_rises_9 (by decide) (fun c_2 => ?_) (fun c_2 => ?_)
      · exact absurd c_2 (by omega)
      · refine lv_iload_n hx hb dX1_rises_12 rfl (lv_at hl 1 rfl) ?_
        refine xb_eq (tgt := 38) hx hb dX1_rises_13 (by decide) (fun c_3 => ?_) (fun c_3 => ?_)
        · have c_G := c_3
          refine lv_iconst (v := 0) hx hb dX1_rises_38 (by decide) ?_
          refine tp_i (y := bI false) bI_f ?_
          refine lv_istore_n (lv' := [(1, .int (bI false)), (0, .ref y), (2, .int (nI k))]) hx hb dX1_rises_39 rfl hl (by decide) rfl (fun ls hl => ?_)
          refine lv_iinc (v := nI (k + 1)) (lv' := [(2, .int (nI (k + 1))), (1, .int (bI false)), (0, .ref y)]) hx hb dX1_rises_40 hl (k := 2) rfl (nI_1 k) (by decide) rfl (fun ls hl => ?_)
          refine lv_goto (tgt := 4) hx hb dX1_rises_43 (by decide) ?_
          exact ih (k + 1) false ls (by omega) (by omega) (by omega) ⟨fun q => absurd q (by decide), fun q => by first | exact absurd (q k hk1 (by omega) (by omega)) (Int64.not_lt.mpr c_L) | exact absurd (hg.mpr (fun j h1 h2 h3 => q j h1 (by omega) h3)) (by rw [c_G]; decide)⟩ (by omega) (lv_sub hl [2, 1, 0] rfl)
        · have c_G := c_3
          refine lv_aload_n hx hb dX1_rises_16 rfl (lv_at hl 0 rfl) ?_
          refine va_get (D := (dC, dI)) (ci := 1) (v := .ref b7) (C := RX1) (T := TX1) (N := 16) hx hb hall inX1 hown hK hP 0 rfl rfl 11 (by decide) (hall _ kw_334) (fun _ h9 => h9) rfl dX1_rises_17 ?_
          refine lv_iload_n hx hb dX1_rises_20 rfl (lv_at hl 2 rfl) ?_
          refine xa_lald hx hb hK hP 7 1 rfl rfl (by omega) (by omega) dX1_rises_21 ?_
          refine lv_aload_n hx hb dX1_rises_22 rfl (lv_at hl 0 rfl) ?_
          refine va_get (D := (dC, dI)) (ci := 1) (v := .ref b7) (C := RX1) (T := TX1) (N := 16) hx hb hall inX1 hown hK hP 0 rfl rfl 11 (by decide) (hall _ kw_334) (fun _ h9 => h9) rfl dX1_rises_23 ?_
          refine lv_iload_n hx hb dX1_rises_26 rfl (lv_at hl 2 rfl) ?_
          refine lv_iconst (v := 1) hx hb dX1_rises_27 (by decide) ?_
          refine lv_isub hx hb dX1_rises_28 ?_
          refine tp_i (y := nI (k - 1)) (by rw [show k = (k - 1) + 1 by omega]; exact nI_pred (k - 1)) ?_
          refine xa_lald hx hb hK hP 7 1 rfl rfl (by omega) (by omega) dX1_rises_29 ?_
          refine xl_le (tgt := 38) hx hb dX1_rises_30 dX1_rises_31 (by decide) (fun c_4 => ?_) (fun c_4 => ?_)
          · have c_L := c_4
            refine lv_iconst (v := 0) hx hb dX1_rises_38 (by decide) ?_
            refine tp_i (y := bI false) bI_f ?_
            refine lv_istore_n (lv' := [(1, .int (bI false)), (0, .ref y), (2, .int (nI k))]) hx hb dX1_rises_39 rfl hl (by decide) rfl (fun ls hl => ?_)
            refine lv_iinc (v := nI (k + 1)) (lv' := [(2, .int (nI (k + 1))), (1, .int (bI false)), (0, .ref y)]) hx hb dX1_rises_40 hl (k := 2) rfl (nI_1 k) (by decide) rfl (fun ls hl => ?_)
            refine lv_goto (tgt := 4) hx hb dX1_rises_43 (by decide) ?_
            exact ih (k + 1) false ls (by omega) (by omega) (by omega) ⟨fun q => absurd q (by decide), fun q => by first | exact absurd (q k hk1 (by omega) (by omega)) (Int64.not_lt.mpr c_L) | exact absurd (hg.mpr (fun j h1 h2 h3 => q j h1 (by omega) h3)) (by rw [c_G]; decide)⟩ (by omega) (lv_sub hl [2, 1, 0] rfl)
          · have c_L := c_4
            refine lv_iconst (v := 1) hx hb dX1_rises_34 (by decide) ?_
            refine tp_i (y := bI true) bI_t ?_
            refine lv_goto (tgt := 39) hx hb dX1_rises_35 (by decide) ?_
            refine lv_istore_n (lv' := [(1, .int (bI true)), (0, .ref y), (2, .int (nI k))]) hx hb dX1_rises_39 rfl hl (by decide) rfl (fun ls hl => ?_)
            refine lv_iinc (v := nI (k + 1)) (lv' := [(2, .int (nI (k + 1))), (1, .int (bI true)), (0, .ref y)]) hx hb dX1_rises_40 hl (k := 2) rfl (nI_1 k) (by decide) rfl (fun ls hl => ?_)
            refine lv_goto (tgt := 4) hx hb dX1_rises_43 (by decide) ?_
            exact ih (k + 1) true ls (by omega) (by omega) (by omega) ⟨fun _ j h1 h2 h3 => by rcases Nat.lt_or_eq_of_le (Nat.le_of_lt_succ h2) with q | q; exact hg.mp c_G j h1 q h3; subst q; exact Int64.not_le.mp c_L, fun _ => rfl⟩ (by omega) (lv_sub hl [2, 1, 0] rfl)
  rcases Nat.lt_or_ge 1 el with q1 | q1
  · exact hloop (el - 1) 1 true ls (by omega) (by omega) (by omega) ⟨fun _ j h1 h2 => absurd h1 (by omega), fun _ => rfl⟩ (by omega) (lv_sub hl [2, 1, 0] rfl)
  · exact hloop 0 1 true ls (by omega) (by omega) (by omega) ⟨fun _ j h1 h2 => absurd h1 (by omega), fun _ => rfl⟩ (by omega) (lv_sub hl [2, 1, 0] rfl)
set_option maxHeartbeats 4000000 in
set_option maxRecDepth 100000 in
theorem m_count0 (l : Launch) (dC : Nat → ClassId) (dI : Nat → Nat → Nat) (y b1 b2 b3 b4 b5 b6 b7 b8 b9 b10 : Nat) (cI cJ cZ : ClassId) (th nD nR : Nat) (vs : Nat → Int64) (ac : Nat → Bool) (now : Int64) (o : Nat → Nat) (mt mw : Nat → Int64) (nv dl : Nat → Int64) (el : Nat) (rt rv : Nat → Int64) (mk : Nat → Bool) (zs : List ZT) (sz : Nat) (hI : wm_I nD nR el zs) (hZ : wz zs o mt mw) (d : Nat) (hd : d < nD) : Met l yX1_count wsX1_count ({ frames := 1, cells := 0, slots := 0, locals := 21 }) (va_Pc [.ref y, .int (nI d)] (fun U => U.heap.size = sz ∧ va_P (dC, dI) vwCl (wm y b1 b2 b3 b4 b5 b6 b7 b8 b9 b10 cI cJ cZ th nD nR vs ac now o mt mw zs.length nv dl el rt rv mk) U.heap ∧ va_K (dC, dI) vwCl [(cI, .int), (cJ, .long), (cZ, .boolean)] U ∧ va_D (fun _ => True) (wm y b1 b2 b3 b4 b5 b6 b7 b8 b9 b10 cI cJ cZ th nD nR vs ac now o mt mw zs.length nv dl el rt rv mk))) (va_Qi (fun (v : Int32) (_ : Unit) => v = nI (wc d zs)) (fun _ t9 => va_P (dC, dI) vwCl (wm y b1 b2 b3 b4 b5 b6 b7 b8 b9 b10 cI cJ cZ 0 nD nR vs ac now o mt mw zs.length nv dl el rt rv mk) t9.heap ∧ va_K (dC, dI) vwCl [(cI, .int), (cJ, .long), (cZ, .boolean)] t9 ∧ va_D (va_A (wm y b1 b2 b3 b4 b5 b6 b7 b8 b9 b10 cI cJ cZ th nD nR vs ac now o mt mw zs.length nv dl el rt rv mk) sz) (wm y b1 b2 b3 b4 b5 b6 b7 b8 b9 b10 cI cJ cZ 0 nD nR vs ac now o mt mw zs.length nv dl el rt rv mk)) (va_A (wm y b1 b2 b3 b4 b5 b6 b7 b8 b9 b10 cI cJ cZ th nD nR vs ac now o mt mw zs.length nv dl el rt rv mk) sz)) 0 0 (va_A (wm y b1 b2 b3 b4 b5 b6 b7 b8 b9 b10 cI cJ cZ th nD nR vs ac now o mt mw zs.length nv dl el rt rv mk) sz) := by
  refine Met.ofW (cc := cX1_count) (maxL := 4) (ret := (some .int)) (by decide) rfl ?_
  intro p e s m args below meth c s₁ B hml hv
  obtain ⟨rfl, hsz, hP, hK, hD0⟩ := hv
  subst hsz
  have hD := hD0.self (sz := s.heap.size)
  generalize hAe : va_A (wm y b1 b2 b3 b4 b5 b6 b7 b8 b9 b10 cI cJ cZ th nD nR vs ac now o mt mw zs.length nv dl el rt rv mk) s.heap.size = A at hD ⊢
  have hA : ∀ q : Nat, s.heap.size ≤ q → A q := fun q h => by rw [← hAe]; exact Or.inr h
  have hS : va_S A s.heap s.heap [] := va_S.rf
  have hx := B.exec
  have hb := B.bytes
  have hr := B.returns
  have hts := atoms_spec (ws := wsX1_count) B.pre
  have hown : s.vm.findClass RX1 = some m.cls := findClass_of_methodNamed B.named
  have hlocks := B.notSynchronized
  have hall := fun (w : Cond) (h : w ∈ allw) => hts w (List.mem_cons_of_mem _ h)
  have hl := lv_entry ([.ref y, .int (nI d)]) (n := 4) (Nat.le_of_ble_eq_true rfl)
  rw [lg_entry_eq]
  generalize (lg_sl ([.ref y, .int (nI d)]) ++ List.replicate (4 - (lg_sl ([.ref y, .int (nI d)])).length) Slot.unset).toArray = ls at hl ⊢
  have hl : lv_has ls 4 [(0, .ref y), (1, .int (nI d))] := hl
  have hI0 := hI
  obtain ⟨hnD1, hnD, hnR1, hnR, hzR, hel, how⟩ := hI
  refine lv_aload_n hx hb dX1_count_0 rfl (lv_at hl 0 rfl) ?_
  refine lv_aload_n hx hb dX1_count_1 rfl (lv_at hl 0 rfl) ?_
  refine lv_iload_n hx hb dX1_count_2 rfl (lv_at hl 1 rfl) ?_
  refine vp_callSi (W.runV (As := [.int (nI d)]) (rest := [.ref y]) ⟨hx, hb, hml, hown, hall⟩ (m_none0 l dC dI y b1 b2 b3 b4 b5 b6 b7 b8 b9 b10 cI cJ cZ th nD nR vs ac now o mt mw nv dl el rt rv mk zs hI0 hZ d hd) (cwV 1 hall gX1_60 rfl rfl rfl (by decide +kernel) ⟨Nat.le_of_ble_eq_true rfl, Nat.le_of_ble_eq_true rfl⟩) ⟨xr_blind, va_recv hK hP (ci := 1) (q0 := 0) rfl rfl, fun U hU hW => ⟨rfl, by rw [hU]; exact hP, va_K.moved hW.alike hK⟩⟩ rfl rfl hl.1 rfl (lv_room (Nat.le_of_ble_eq_true rfl)) dX1_count_3 ⟨by first | exact Nat.zero_le _ | omega, by first | exact Nat.zero_le _ | omega⟩) (fun v_1 hv_2 => ?_)
  subst hv_2
  refine lv_if_eq (tgt := 13) hx hb dX1_count_6 (by decide) (fun c_3 => ?_) (fun c_3 => ?_)
  · refine lv_iconst (v := 0) hx hb dX1_count_13 (by decide) ?_
    refine tp_i (y := nI 0) nI_0.symm ?_
    refine va_put (D := (dC, dI)) (ci := 1) (v := .int (nI 0)) (ty := .int) (C := RX1) (T := TX1) (N := 16) hx hb hall inX1 tyX1 tyX1_ok nmX1 hown hK hP hD hS 0 rfl rfl 0 (by decide) (hall _ kw_323) (fun _ h9 => h9) rfl (by decide +kernel) rfl rfl (Nat.le_of_ble_eq_true rfl) dX1_count_14 (fun H locs hP hD hS => ?_)
    have hP : va_P (dC, dI) vwCl [(y, .inr (1, [.int (nI 0), .int (nI nD), .int (nI nR), .ref b1, .ref b2, .long now, .ref b3, .ref b4, .ref b5, .int (nI zs.length), .ref b6, .ref b7, .int (nI el), .ref b8, .ref b9, .ref b10])), (b1, .inl (cJ, 512, .inr (.inl vs))), (b2, .inl (cZ, 512, .inl (fun j => bI (ac j)))), (b3, .inl (cI, 8192, .inl (fun j => nI (o j)))), (b4, .inl (cJ, 8192, .inr (.inl mt))), (b5, .inl (cJ, 8192, .inr (.inl mw))), (b6, .inl (cJ, 16, .inr (.inl nv))), (b7, .inl (cJ, 16, .inr (.inl dl))), (b8, .inl (cJ, 8208, .inr (.inl rt))), (b9, .inl (cJ, 8208, .inr (.inl rv))), (b10, .inl (cZ, 8208, .inl (fun j => bI (mk j))))] H := hP
    have hD : va_D A [(y, .inr (1, [.int (nI 0), .int (nI nD), .int (nI nR), .ref b1, .ref b2, .long now, .ref b3, .ref b4, .ref b5, .int (nI zs.length), .ref b6, .ref b7, .int (nI el), .ref b8, .ref b9, .ref b10])), (b1, .inl (cJ, 512, .inr (.inl vs))), (b2, .inl (cZ, 512, .inl (fun j => bI (ac j)))), (b3, .inl (cI, 8192, .inl (fun j => nI (o j)))), (b4, .inl (cJ, 8192, .inr (.inl mt))), (b5, .inl (cJ, 8192, .inr (.inl mw))), (b6, .inl (cJ, 16, .inr (.inl nv))), (b7, .inl (cJ, 16, .inr (.inl dl))), (b8, .inl (cJ, 8208, .inr (.inl rt))), (b9, .inl (cJ, 8208, .inr (.inl rv))), (b10, .inl (cZ, 8208, .inl (fun j => bI (mk j))))] := hD
    refine lv_iconst (v := 0) hx hb dX1_count_17 (by decide) ?_
    refine tp_i (y := nI 0) nI_0.symm ?_
    refine lv_istore_n (lv' := [(2, .int (nI 0)), (0, .ref y), (1, .int (nI d))]) hx hb dX1_count_18 rfl hl (by decide) rfl (fun ls hl => ?_)
    refine lv_iconst (v := 0) hx hb dX1_count_19 (by decide) ?_
    refine tp_i (y := nI 0) nI_0.symm ?_
    refine lv_istore_n (lv' := [(3, .int (nI 0)), (2, .int (nI 0)), (0, .ref y), (1, .int (nI d))]) hx hb dX1_count_20 rfl hl (by decide) rfl (fun ls hl => ?_)
    have hloop : ∀ (ss : List ZT) (k : Nat) (c0 : Nat) (H : Heap) (locs : List Loc) (ls : Array Slot), zs.drop k = ss → k ≤ zs.length → c0 ≤ k → c0 + wc d ss = wc d zs → va_P (dC, dI) vwCl [(y, .inr (1, [.int (nI 0), .int (nI nD), .int (nI nR), .ref b1, .ref b2, .long now, .ref b3, .ref b4, .ref b5, .int (nI zs.length), .ref b6, .ref b7, .int (nI el), .ref b8, .ref b9, .ref b10])), (b1, .inl (cJ, 512, .inr (.inl vs))), (b2, .inl (cZ, 512, .inl (fun j => bI (ac j)))), (b3, .inl (cI, 8192, .inl (fun j => nI (o j)))), (b4, .inl (cJ, 8192, .inr (.inl mt))), (b5, .inl (cJ, 8192, .inr (.inl mw))), (b6, .inl (cJ, 16, .inr (.inl nv))), (b7, .inl (cJ, 16, .inr (.inl dl))), (b8, .inl (cJ, 8208, .inr (.inl rt))), (b9, .inl (cJ, 8208, .inr (.inl rv))), (b10, .inl (cZ, 8208, .inl (fun j => bI (mk j))))] H → va_D A [(y, .inr (1, [.int (nI 0), .int (nI nD), .int (nI nR), .ref b1, .ref b2, .long now, .ref b3, .ref b4, .ref b5, .int (nI zs.length), .ref b6, .ref b7, .int (nI el), .ref b8, .ref b9, .ref b10])), (b1, .inl (cJ, 512, .inr (.inl vs))), (b2, .inl (cZ, 512, .inl (fun j => bI (ac j)))), (b3, .inl (cI, 8192, .inl (fun j => nI (o j)))), (b4, .inl (cJ, 8192, .inr (.inl mt))), (b5, .inl (cJ, 8192, .inr (.inl mw))), (b6, .inl (cJ, 16, .inr (.inl nv))), (b7, .inl (cJ, 16, .inr (.inl dl))), (b8, .inl (cJ, 8208, .inr (.inl rt))), (b9, .inl (cJ, 8208, .inr (.inl rv))), (b10, .inl (cZ, 8208, .inl (fun j => bI (mk j))))] → va_S A s.heap H locs → lv_has ls 4 [(0, .ref y), (1, .int (nI d)), (2, .int (nI c0)), (3, .int (nI k))] → W p l e (headSpec wsX1_count ({ frames := 1, cells := 0, slots := 0, locals := 21 })).room s m (([.ref y, .int (nI d)] : List Value).toArray) below meth c H locs 0 0 (MQ below (va_Qi (fun (v : Int32) (_ : Unit) => v = nI (wc d zs)) (fun _ t9 => va_P (dC, dI) vwCl (wm y b1 b2 b3 b4 b5 b6 b7 b8 b9 b10 cI cJ cZ 0 nD nR vs ac now o mt mw zs.length nv dl el rt rv mk) t9.heap ∧ va_K (dC, dI) vwCl [(cI, .int), (cJ, .long), (cZ, .boolean)] t9 ∧ va_D A (wm y b1 b2 b3 b4 b5 b6 b7 b8 b9 b10 cI cJ cZ 0 nD nR vs ac now o mt mw zs.length nv dl el rt rv mk)) A) (([.ref y, .int (nI d)] : List Value).toArray) s 0 0 A) (F0 m 21 ls []) := by
      intro ss
      induction ss with
      | nil =>
        intro k c0 H locs ls hss hkl hck hw hP hD hS hl
        have hk := wz_nil hss
        refine lv_iload_n hx hb dX1_count_21 rfl (lv_at hl 3 rfl) ?_
        refine lv_aload_n hx hb dX1_count_22 rfl (lv_at hl 0 rfl) ?_
        refine va_get (D := (dC, dI)) (ci := 1) (v := .int (nI zs.length)) (C := RX1) (T := TX1) (N := 16) hx hb hall inX1 hown hK hP 0 rfl rfl 9 (by decide) (hall _ kw_332) (fun _ h9 => h9) rfl dX1_count_23 ?_
        refine xc_ge (tgt := 60) hx hb (by omega) (by omega) dX1_count_26 (by decide) (fun c_4 => ?_) (fun c_4 => ?_)
        · refine lv_iload_n hx hb dX1_count_60 rfl (lv_at hl 2 rfl) ?_
          exact W.iret (v := nI c0) hx hb hr (fun t9 ht hW => ⟨⟨nI c0, (), rfl, congrArg nI hw, by rw [ht]; exact hP, va_K.moved hW.alike hK, hD⟩, hS.F ht⟩) hS.2.2 dX1_count_61
        · exact absurd c_4 (by omega)
      | cons z tl ih =>
        intro k c0 H locs ls hss hkl hck hw hP hD hS hl
        obtain ⟨hk, hzk, htl⟩ := wz_drop hss
        obtain ⟨ez1, ez2, ez3⟩ := hZ k z hzk
        have hod : o k < 512 := by have := how z (List.mem_of_getElem? hzk); omega
        refine lv_iload_n hx hb dX1_count_21 rfl (lv_at hl 3 rfl) ?_
        refine lv_aload_n hx hb dX1_count_22 rfl (lv_at hl 0 rfl) ?_
        refine va_get (D := (dC, dI)) (ci := 1) (v := .int (nI zs.length)) (C := RX1) (T := TX1) (N := 16) hx hb hall inX1 hown hK hP 0 rfl rfl 9 (by decide) (hall _ kw_332) (fun _ h9 => h9) rfl dX1_count_23 ?_
        refine xc_ge (tgt := 60) hx hb (by omega) (by omega) dX1_count_26 (by decide) (fun c_5 => ?_) (fun c_5 => ?_)
        · exact absurd c_5 (by omega)
        · refine lv_aload_n hx hb dX1_count_29 rfl (lv_at hl 0 rfl) ?_
          refine va_get (D := (dC, dI)) (ci := 1) (v := .int (nI 0)) (C := RX1) (T := TX1) (N := 16) hx hb hall inX1 hown hK hP 0 rfl rfl 0 (by decide) (hall _ kw_323) (fun _ h9 => h9) rfl dX1_count_30 ?_
          refine xz_ne (tgt := 60) hx hb (by omega) dX1_count_33 (by decide) (fun c_6 => ?_) (fun c_6 => ?_)
          · exact absurd c_6 (by omega)
          · refine lv_aload_n hx hb dX1_count_36 rfl (lv_at hl 0 rfl) ?_
            refine va_get (D := (dC, dI)) (ci := 1) (v := .ref b3) (C := RX1) (T := TX1) (N := 16) hx hb hall inX1 hown hK hP 0 rfl rfl 6 (by decide) (hall _ kw_329) (fun _ h9 => h9) rfl dX1_count_37 ?_
            refine lv_iload_n hx hb dX1_count_40 rfl (lv_at hl 3 rfl) ?_
            refine xa_iald hx hb hK hP 3 0 rfl rfl (by omega) (by omega) dX1_count_41 ?_
            refine lv_iload_n hx hb dX1_count_42 rfl (lv_at hl 1 rfl) ?_
            refine xc_ne (tgt := 52) hx hb (by omega) (by omega) dX1_count_43 (by decide) (fun c_7 => ?_) (fun c_7 => ?_)
            · have c_A := c_7
              refine lv_iload_n hx hb dX1_count_52 rfl (lv_at hl 2 rfl) ?_
              refine lv_istore_n (lv' := [(2, .int (nI c0)), (0, .ref y), (1, .int (nI d)), (3, .int (nI k))]) hx hb dX1_count_53 rfl hl (by decide) rfl (fun ls hl => ?_)
              refine lv_iinc (v := nI (k + 1)) (lv' := [(3, .int (nI (k + 1))), (2, .int (nI c0)), (0, .ref y), (1, .int (nI d))]) hx hb dX1_count_54 hl (k := 3) rfl (nI_1 k) (by decide) rfl (fun ls hl => ?_)
              refine lv_goto (tgt := 21) hx hb dX1_count_57 (by decide) ?_
              exact ih (k + 1) (c0) H locs ls htl (by omega) (by omega) (by rw [← hw]; show _ = _ + ((if z.1 = d then 1 else 0) + wc d tl); first | rw [if_pos (ez1.symm.trans c_A)]; omega | rw [if_neg (fun q => c_A (ez1.trans q))]; omega) hP hD hS (lv_sub hl [2, 3, 1, 0] rfl)
            · have c_A := c_7
              refine lv_iload_n hx hb dX1_count_46 rfl (lv_at hl 2 rfl) ?_
              refine lv_iconst (v := 1) hx hb dX1_count_47 (by decide) ?_
              refine lv_iadd hx hb dX1_count_48 ?_
              refine tp_i (y := nI (c0 + 1)) (nI_1 c0) ?_
              refine lv_goto (tgt := 53) hx hb dX1_count_49 (by decide) ?_
              refine lv_istore_n (lv' := [(2, .int (nI (c0 + 1))), (0, .ref y), (1, .int (nI d)), (3, .int (nI k))]) hx hb dX1_count_53 rfl hl (by decide) rfl (fun ls hl => ?_)
              refine lv_iinc (v := nI (k + 1)) (lv' := [(3, .int (nI (k + 1))), (2, .int (nI (c0 + 1))), (0, .ref y), (1, .int (nI d))]) hx hb dX1_count_54 hl (k := 3) rfl (nI_1 k) (by decide) rfl (fun ls hl => ?_)
              refine lv_goto (tgt := 21) hx hb dX1_count_57 (by decide) ?_
              exact ih (k + 1) (c0 + 1) H locs ls htl (by omega) (by omega) (by rw [← hw]; show _ = _ + ((if z.1 = d then 1 else 0) + wc d tl); first | rw [if_pos (ez1.symm.trans c_A)]; omega | rw [if_neg (fun q => c_A (ez1.trans q))]; omega) hP hD hS (lv_sub hl [2, 3, 1, 0] rfl)
    exact hloop zs 0 0 H locs ls rfl (by omega) (by omega) (by omega) hP hD hS (lv_sub hl [2, 3, 1, 0] rfl)
  · exact absurd rfl c_3
set_option maxHeartbeats 4000000 in
set_option maxRecDepth 100000 in
theorem m_count1 (l : Launch) (dC : Nat → ClassId) (dI : Nat → Nat → Nat) (y b1 b2 b3 b4 b5 b6 b7 b8 b9 b10 : Nat) (cI cJ cZ : ClassId) (th nD nR : Nat) (vs : Nat → Int64) (ac : Nat → Bool) (now : Int64) (o : Nat → Nat) (mt mw : Nat → Int64) (nv dl : Nat → Int64) (el : Nat) (rt rv : Nat → Int64) (mk : Nat → Bool) (zs : List ZT) (sz : Nat) (hI : wm_I nD nR el zs) (hZ : wz zs o mt mw) (i : Int32) (hbad : i < 0 ∨ nI nD ≤ i) : Met l yX1_count wsX1_count ({ frames := 1, cells := 0, slots := 0, locals := 21 }) (va_Pc [.ref y, .int i] (fun U => U.heap.size = sz ∧ va_P (dC, dI) vwCl (wm y b1 b2 b3 b4 b5 b6 b7 b8 b9 b10 cI cJ cZ th nD nR vs ac now o mt mw zs.length nv dl el rt rv mk) U.heap ∧ va_K (dC, dI) vwCl [(cI, .int), (cJ, .long), (cZ, .boolean)] U ∧ va_D (fun _ => True) (wm y b1 b2 b3 b4 b5 b6 b7 b8 b9 b10 cI cJ cZ th nD nR vs ac now o mt mw zs.length nv dl el rt rv mk))) (va_Qi (fun (v : Int32) (_ : Unit) => True) (fun _ t9 => va_P (dC, dI) vwCl (wm y b1 b2 b3 b4 b5 b6 b7 b8 b9 b10 cI cJ cZ 1 nD nR vs ac now o mt mw zs.length nv dl el rt rv mk) t9.heap ∧ va_K (dC, dI) vwCl [(cI, .int), (cJ, .long), (cZ, .boolean)] t9 ∧ va_D (va_A (wm y b1 b2 b3 b4 b5 b6 b7 b8 b9 b10 cI cJ cZ th nD nR vs ac now o mt mw zs.length nv dl el rt rv mk) sz) (wm y b1 b2 b3 b4 b5 b6 b7 b8 b9 b10 cI cJ cZ 1 nD nR vs ac now o mt mw zs.length nv dl el rt rv mk)) (va_A (wm y b1 b2 b3 b4 b5 b6 b7 b8 b9 b10 cI cJ cZ th nD nR vs ac now o mt mw zs.length nv dl el rt rv mk) sz)) 0 0 (va_A (wm y b1 b2 b3 b4 b5 b6 b7 b8 b9 b10 cI cJ cZ th nD nR vs ac now o mt mw zs.length nv dl el rt rv mk) sz) := by
  refine Met.ofW (cc := cX1_count) (maxL := 4) (ret := (some .int)) (by decide) rfl ?_
  intro p e s m args below meth c s₁ B hml hv
  obtain ⟨rfl, hsz, hP, hK, hD0⟩ := hv
  subst hsz
  have hD := hD0.self (sz := s.heap.size)
  generalize hAe : va_A (wm y b1 b2 b3 b4 b5 b6 b7 b8 b9 b10 cI cJ cZ th nD nR vs ac now o mt mw zs.length nv dl el rt rv mk) s.heap.size = A at hD ⊢
  have hA : ∀ q : Nat, s.heap.size ≤ q → A q := fun q h => by rw [← hAe]; exact Or.inr h
  have hS : va_S A s.heap s.heap [] := va_S.rf
  have hx := B.exec
  have hb := B.bytes
  have hr := B.returns
  have hts := atoms_spec (ws := wsX1_count) B.pre
  have hown : s.vm.findClass RX1 = some m.cls := findClass_of_methodNamed B.named
  have hlocks := B.notSynchronized
  have hall := fun (w : Cond) (h : w ∈ allw) => hts w (List.mem_cons_of_mem _ h)
  have hl := lv_entry ([.ref y, .int i]) (n := 4) (Nat.le_of_ble_eq_true rfl)
  rw [lg_entry_eq]
  generalize (lg_sl ([.ref y, .int i]) ++ List.replicate (4 - (lg_sl ([.ref y, .int i])).length) Slot.unset).toArray = ls at hl ⊢
  have hl : lv_has ls 4 [(0, .ref y), (1, .int i)] := hl
  obtain ⟨hnD1, hnD, hnR1, hnR, hzR, hel, how⟩ := hI
  refine lv_aload_n hx hb dX1_count_0 rfl (lv_at hl 0 rfl) ?_
  refine lv_aload_n hx hb dX1_count_1 rfl (lv_at hl 0 rfl) ?_
  refine lv_iload_n hx hb dX1_count_2 rfl (lv_at hl 1 rfl) ?_
  refine vp_callSi (W.runV (As := [.int i]) (rest := [.ref y]) ⟨hx, hb, hml, hown, hall⟩ (m_none1 l dC dI y b1 b2 b3 b4 b5 b6 b7 b8 b9 b10 cI cJ cZ th nD nR vs ac now o mt mw nv dl el rt rv mk zs i hbad) (cwV 1 hall gX1_60 rfl rfl rfl (by decide +kernel) ⟨Nat.le_of_ble_eq_true rfl, Nat.le_of_ble_eq_true rfl⟩) ⟨xr_blind, va_recv hK hP (ci := 1) (q0 := 0) rfl rfl, fun U hU hW => ⟨rfl, by rw [hU]; exact hP, va_K.moved hW.alike hK⟩⟩ rfl rfl hl.1 rfl (lv_room (Nat.le_of_ble_eq_true rfl)) dX1_count_3 ⟨by first | exact Nat.zero_le _ | omega, by first | exact Nat.zero_le _ | omega⟩) (fun v_1 hv_2 => ?_)
  subst hv_2
  refine lv_if_eq (tgt := 13) hx hb dX1_count_6 (by decide) (fun c_3 => ?_) (fun c_3 => ?_)
  · exact absurd c_3 (by decide)
  · refine lv_iconst (v := 1) hx hb dX1_count_9 (by decide) ?_
    refine tp_i (y := nI 1) (by decide) ?_
    refine lv_goto (tgt := 14) hx hb dX1_count_10 (by decide) ?_
    refine va_put (D := (dC, dI)) (ci := 1) (v := .int (nI 1)) (ty := .int) (C := RX1) (T := TX1) (N := 16) hx hb hall inX1 tyX1 tyX1_ok nmX1 hown hK hP hD hS 0 rfl rfl 0 (by decide) (hall _ kw_323) (fun _ h9 => h9) rfl (by decide +kernel) rfl rfl (Nat.le_of_ble_eq_true rfl) dX1_count_14 (fun H locs hP hD hS => ?_)
    have hP : va_P (dC, dI) vwCl [(y, .inr (1, [.int (nI 1), .int (nI nD), .int (nI nR), .ref b1, .ref b2, .long now, .ref b3, .ref b4, .ref b5, .int (nI zs.length), .ref b6, .ref b7, .int (nI el), .ref b8, .ref b9, .ref b10])), (b1, .inl (cJ, 512, .inr (.inl vs))), (b2, .inl (cZ, 512, .inl (fun j => bI (ac j)))), (b3, .inl (cI, 8192, .inl (fun j => nI (o j)))), (b4, .inl (cJ, 8192, .inr (.inl mt))), (b5, .inl (cJ, 8192, .inr (.inl mw))), (b6, .inl (cJ, 16, .inr (.inl nv))), (b7, .inl (cJ, 16, .inr (.inl dl))), (b8, .inl (cJ, 8208, .inr (.inl rt))), (b9, .inl (cJ, 8208, .inr (.inl rv))), (b10, .inl (cZ, 8208, .inl (fun j => bI (mk j))))] H := hP
    have hD : va_D A [(y, .inr (1, [.int (nI 1), .int (nI nD), .int (nI nR), .ref b1, .ref b2, .long now, .ref b3, .ref b4, .ref b5, .int (nI zs.length), .ref b6, .ref b7, .int (nI el), .ref b8, .ref b9, .ref b10])), (b1, .inl (cJ, 512, .inr (.inl vs))), (b2, .inl (cZ, 512, .inl (fun j => bI (ac j)))), (b3, .inl (cI, 8192, .inl (fun j => nI (o j)))), (b4, .inl (cJ, 8192, .inr (.inl mt))), (b5, .inl (cJ, 8192, .inr (.inl mw))), (b6, .inl (cJ, 16, .inr (.inl nv))), (b7, .inl (cJ, 16, .inr (.inl dl))), (b8, .inl (cJ, 8208, .inr (.inl rt))), (b9, .inl (cJ, 8208, .inr (.inl rv))), (b10, .inl (cZ, 8208, .inl (fun j => bI (mk j))))] := hD
    refine lv_iconst (v := 0) hx hb dX1_count_17 (by decide) ?_
    refine tp_i (y := nI 0) nI_0.symm ?_
    refine lv_istore_n (lv' := [(2, .int (nI 0)), (0, .ref y), (1, .int i)]) hx hb dX1_count_18 rfl hl (by decide) rfl (fun ls hl => ?_)
    refine lv_iconst (v := 0) hx hb dX1_count_19 (by decide) ?_
    refine tp_i (y := nI 0) nI_0.symm ?_
    refine lv_istore_n (lv' := [(3, .int (nI 0)), (2, .int (nI 0)), (0, .ref y), (1, .int i)]) hx hb dX1_count_20 rfl hl (by decide) rfl (fun ls hl => ?_)
    refine lv_iload_n hx hb dX1_count_21 rfl (lv_at hl 0 rfl) ?_
    refine lv_aload_n hx hb dX1_count_22 rfl (lv_at hl 2 rfl) ?_
    refine va_get (D := (dC, dI)) (ci := 1) (v := .int (nI zs.length)) (C := RX1) (T := TX1) (N := 16) hx hb hall inX1 hown hK hP 0 rfl rfl 9 (by decide) (hall _ kw_332) (fun _ h9 => h9) rfl dX1_count_23 ?_
    refine xc_ge (tgt := 60) hx hb (by omega) (by omega) dX1_count_26 (by decide) (fun c_4 => ?_) (fun c_4 => ?_)
    · refine lv_iload_n hx hb dX1_count_60 rfl (lv_at hl 1 rfl) ?_
      exact W.iret (v := nI 0) hx hb hr (fun t9 ht hW => ⟨⟨nI 0, (), rfl, trivial, by rw [ht]; exact hP, va_K.moved hW.alike hK, hD⟩, hS.F ht⟩) hS.2.2 dX1_count_61
    · refine lv_aload_n hx hb dX1_count_29 rfl (lv_at hl 2 rfl) ?_
      refine va_get (D := (dC, dI)) (ci := 1) (v := .int (nI 1)) (C := RX1) (T := TX1) (N := 16) hx hb hall inX1 hown hK hP 0 rfl rfl 0 (by decide) (hall _ kw_323) (fun _ h9 => h9) rfl dX1_count_30 ?_
      refine xz_ne (tgt := 60) hx hb (by omega) dX1_count_33 (by decide) (fun c_5 => ?_) (fun c_5 => ?_)
      · refine lv_iload_n hx hb dX1_count_60 rfl (lv_at hl 1 rfl) ?_
        exact W.iret (v := nI 0) hx hb hr (fun t9 ht hW => ⟨⟨nI 0, (), rfl, trivial, by rw [ht]; exact hP, va_K.moved hW.alike hK, hD⟩, hS.F ht⟩) hS.2.2 dX1_count_61
      · exact absurd c_5 (by omega)
set_option maxHeartbeats 4000000 in
set_option maxRecDepth 100000 in
theorem m_next (l : Launch) (dC : Nat → ClassId) (dI : Nat → Nat → Nat) (y b1 b2 b3 b4 b5 b6 b7 b8 b9 b10 : Nat) (cI cJ cZ : ClassId) (th nD nR : Nat) (vs : Nat → Int64) (ac : Nat → Bool) (now : Int64) (o : Nat → Nat) (mt mw : Nat → Int64) (nv dl : Nat → Int64) (el : Nat) (rt rv : Nat → Int64) (mk : Nat → Bool) (zs : List ZT) (sz : Nat) (hI : wm_I nD nR el zs) (hZ : wz zs o mt mw) : Met l yX1_next wsX1_next ({ frames := 0, cells := 0, slots := 0, locals := 0 }) (va_Pc [.ref y] (fun U => U.heap.size = sz ∧ va_P (dC, dI) vwCl (wm y b1 b2 b3 b4 b5 b6 b7 b8 b9 b10 cI cJ cZ th nD nR vs ac now o mt mw zs.length nv dl el rt rv mk) U.heap ∧ va_K (dC, dI) vwCl [(cI, .int), (cJ, .long), (cZ, .boolean)] U ∧ va_D (fun _ => True) (wm y b1 b2 b3 b4 b5 b6 b7 b8 b9 b10 cI cJ cZ th nD nR vs ac now o mt mw zs.length nv dl el rt rv mk))) (va_Ql (fun (v : Int64) (_ : Unit) => v = wnx zs (-1)) (fun _ t9 => va_P (dC, dI) vwCl (wm y b1 b2 b3 b4 b5 b6 b7 b8 b9 b10 cI cJ cZ 0 nD nR vs ac now o mt mw zs.length nv dl el rt rv mk) t9.heap ∧ va_K (dC, dI) vwCl [(cI, .int), (cJ, .long), (cZ, .boolean)] t9 ∧ va_D (va_A (wm y b1 b2 b3 b4 b5 b6 b7 b8 b9 b10 cI cJ cZ th nD nR vs ac now o mt mw zs.length nv dl el rt rv mk) sz) (wm y b1 b2 b3 b4 b5 b6 b7 b8 b9 b10 cI cJ cZ 0 nD nR vs ac now o mt mw zs.length nv dl el rt rv mk)) (va_A (wm y b1 b2 b3 b4 b5 b6 b7 b8 b9 b10 cI cJ cZ th nD nR vs ac now o mt mw zs.length nv dl el rt rv mk) sz)) 0 0 (va_A (wm y b1 b2 b3 b4 b5 b6 b7 b8 b9 b10 cI cJ cZ th nD nR vs ac now o mt mw zs.length nv dl el rt rv mk) sz) := by
  refine Met.ofW (cc := cX1_next) (maxL := 4) (ret := (some .long)) (by decide) rfl ?_
  intro p e s m args below meth c s₁ B hml hv
  obtain ⟨rfl, hsz, hP, hK, hD0⟩ := hv
  subst hsz
  have hD := hD0.self (sz := s.heap.size)
  generalize hAe : va_A (wm y b1 b2 b3 b4 b5 b6 b7 b8 b9 b10 cI cJ cZ th nD nR vs ac now o mt mw zs.length nv dl el rt rv mk) s.heap.size = A at hD ⊢
  have hA : ∀ q : Nat, s.heap.size ≤ q → A q := fun q h => by rw [← hAe]; exact Or.inr h
  have hS : va_S A s.heap s.heap [] := va_S.rf
  have hx := B.exec
  have hb := B.bytes
  have hr := B.returns
  have hts := atoms_spec (ws := wsX1_next) B.pre
  have hown : s.vm.findClass RX1 = some m.cls := findClass_of_methodNamed B.named
  have hlocks := B.notSynchronized
  have hall := fun (w : Cond) (h : w ∈ allw) => hts w (List.mem_cons_of_mem _ h)
  have hl := lv_entry ([.ref y]) (n := 4) (Nat.le_of_ble_eq_true rfl)
  rw [lg_entry_eq]
  generalize (lg_sl ([.ref y]) ++ List.replicate (4 - (lg_sl ([.ref y])).length) Slot.unset).toArray = ls at hl ⊢
  have hl : lv_has ls 4 [(0, .ref y)] := hl
  have hI0 := hI
  obtain ⟨hnD1, hnD, hnR1, hnR, hzR, hel, how⟩ := hI
  refine lv_aload_n hx hb dX1_next_0 rfl (lv_at hl 0 rfl) ?_
  refine lv_iconst (v := 0) hx hb dX1_next_1 (by decide) ?_
  refine tp_i (y := nI 0) nI_0.symm ?_
  refine va_put (D := (dC, dI)) (ci := 1) (v := .int (nI 0)) (ty := .int) (C := RX1) (T := TX1) (N := 16) hx hb hall inX1 tyX1 tyX1_ok nmX1 hown hK hP hD hS 0 rfl rfl 0 (by decide) (hall _ kw_323) (fun _ h9 => h9) rfl (by decide +kernel) rfl rfl (Nat.le_of_ble_eq_true rfl) dX1_next_2 (fun H locs hP hD hS => ?_)
  have hP : va_P (dC, dI) vwCl [(y, .inr (1, [.int (nI 0), .int (nI nD), .int (nI nR), .ref b1, .ref b2, .long now, .ref b3, .ref b4, .ref b5, .int (nI zs.length), .ref b6, .ref b7, .int (nI el), .ref b8, .ref b9, .ref b10])), (b1, .inl (cJ, 512, .inr (.inl vs))), (b2, .inl (cZ, 512, .inl (fun j => bI (ac j)))), (b3, .inl (cI, 8192, .inl (fun j => nI (o j)))), (b4, .inl (cJ, 8192, .inr (.inl mt))), (b5, .inl (cJ, 8192, .inr (.inl mw))), (b6, .inl (cJ, 16, .inr (.inl nv))), (b7, .inl (cJ, 16, .inr (.inl dl))), (b8, .inl (cJ, 8208, .inr (.inl rt))), (b9, .inl (cJ, 8208, .inr (.inl rv))), (b10, .inl (cZ, 8208, .inl (fun j => bI (mk j))))] H := hP
  have hD : va_D A [(y, .inr (1, [.int (nI 0), .int (nI nD), .int (nI nR), .ref b1, .ref b2, .long now, .ref b3, .ref b4, .ref b5, .int (nI zs.length), .ref b6, .ref b7, .int (nI el), .ref b8, .ref b9, .ref b10])), (b1, .inl (cJ, 512, .inr (.inl vs))), (b2, .inl (cZ, 512, .inl (fun j => bI (ac j)))), (b3, .inl (cI, 8192, .inl (fun j => nI (o j)))), (b4, .inl (cJ, 8192, .inr (.inl mt))), (b5, .inl (cJ, 8192, .inr (.inl mw))), (b6, .inl (cJ, 16, .inr (.inl nv))), (b7, .inl (cJ, 16, .inr (.inl dl))), (b8, .inl (cJ, 8208, .inr (.inl rt))), (b9, .inl (cJ, 8208, .inr (.inl rv))), (b10, .inl (cZ, 8208, .inl (fun j => bI (mk j))))] := hD
  refine lv_ldc2 (v := (-1)) hx hb hown (hall _ kw_422) dX1_next_5 ?_
  refine lv_lstore_n (lv' := [(1, .long (-1)), (0, .ref y)]) hx hb dX1_next_8 rfl hl (by decide) rfl (fun ls hl => ?_)
  refine lv_iconst (v := 0) hx hb dX1_next_9 (by decide) ?_
  refine tp_i (y := nI 0) nI_0.symm ?_
  refine lv_istore_n (lv' := [(3, .int (nI 0)), (1, .long (-1)), (0, .ref y)]) hx hb dX1_next_10 rfl hl (by decide) rfl (fun ls hl => ?_)
  have hloop : ∀ (ss : List ZT) (k : Nat) (le : Int64) (H : Heap) (locs : List Loc) (ls : Array Slot), zs.drop k = ss → k ≤ zs.length → wnx ss le = wnx zs (-1) → va_P (dC, dI) vwCl [(y, .inr (1, [.int (nI 0), .int (nI nD), .int (nI nR), .ref b1, .ref b2, .long now, .ref b3, .ref b4, .ref b5, .int (nI zs.length), .ref b6, .ref b7, .int (nI el), .ref b8, .ref b9, .ref b10])), (b1, .inl (cJ, 512, .inr (.inl vs))), (b2, .inl (cZ, 512, .inl (fun j => bI (ac j)))), (b3, .inl (cI, 8192, .inl (fun j => nI (o j)))), (b4, .inl (cJ, 8192, .inr (.inl mt))), (b5, .inl (cJ, 8192, .inr (.inl mw))), (b6, .inl (cJ, 16, .inr (.inl nv))), (b7, .inl (cJ, 16, .inr (.inl dl))), (b8, .inl (cJ, 8208, .inr (.inl rt))), (b9, .inl (cJ, 8208, .inr (.inl rv))), (b10, .inl (cZ, 8208, .inl (fun j => bI (mk j))))] H → va_D A [(y, .inr (1, [.int (nI 0), .int (nI nD), .int (nI nR), .ref b1, .ref b2, .long now, .ref b3, .ref b4, .ref b5, .int (nI zs.length), .ref b6, .ref b7, .int (nI el), .ref b8, .ref b9, .ref b10])), (b1, .inl (cJ, 512, .inr (.inl vs))), (b2, .inl (cZ, 512, .inl (fun j => bI (ac j)))), (b3, .inl (cI, 8192, .inl (fun j => nI (o j)))), (b4, .inl (cJ, 8192, .inr (.inl mt))), (b5, .inl (cJ, 8192, .inr (.inl mw))), (b6, .inl (cJ, 16, .inr (.inl nv))), (b7, .inl (cJ, 16, .inr (.inl dl))), (b8, .inl (cJ, 8208, .inr (.inl rt))), (b9, .inl (cJ, 8208, .inr (.inl rv))), (b10, .inl (cZ, 8208, .inl (fun j => bI (mk j))))] → va_S A s.heap H locs → lv_has ls 4 [(0, .ref y), (1, .long le), (3, .int (nI k))] → W p l e (headSpec wsX1_next ({ frames := 0, cells := 0, slots := 0, locals := 0 })).room s m (([.ref y] : List Value).toArray) below meth c H locs 0 0 (MQ below (va_Ql (fun (v : Int64) (_ : Unit) => v = wnx zs (-1)) (fun _ t9 => va_P (dC, dI) vwCl (wm y b1 b2 b3 b4 b5 b6 b7 b8 b9 b10 cI cJ cZ 0 nD nR vs ac now o mt mw zs.length nv dl el rt rv mk) t9.heap ∧ va_K (dC, dI) vwCl [(cI, .int), (cJ, .long), (cZ, .boolean)] t9 ∧ va_D A (wm y b1 b2 b3 b4 b5 b6 b7 b8 b9 b10 cI cJ cZ 0 nD nR vs ac now o mt mw zs.length nv dl el rt rv mk)) A) (([.ref y] : List Value).toArray) s 0 0 A) (F0 m 11 ls []) := by
    intro ss
    induction ss with
    | nil =>
      intro k le H locs ls hss hkl hw hP hD hS hl
      have hk := wz_nil hss
      refine lv_iload_n hx hb dX1_next_11 rfl (lv_at hl 2 rfl) ?_
      refine lv_aload_n hx hb dX1_next_12 rfl (lv_at hl 0 rfl) ?_
      refine va_get (D := (dC, dI)) (ci := 1) (v := .int (nI zs.length)) (C := RX1) (T := TX1) (N := 16) hx hb hall inX1 hown hK hP 0 rfl rfl 9 (by decide) (hall _ kw_332) (fun _ h9 => h9) rfl dX1_next_13 ?_
      refine xc_ge (tgt := 55) hx hb (by omega) (by omega) dX1_next_16 (by decide) (fun c_1 => ?_) (fun c_1 => ?_)
      · refine lv_lload_n hx hb dX1_next_55 rfl (lv_at hl 1 rfl) ?_
        exact W.lret (v := le) hx hb hr (fun t9 ht hW => ⟨⟨le, (), rfl, hw, by rw [ht]; exact hP, va_K.moved hW.alike hK, hD⟩, hS.F ht⟩) hS.2.2 dX1_next_56
      · exact absurd c_1 (by omega)
    | cons z tl ih =>
      intro k le H locs ls hss hkl hw hP hD hS hl
      obtain ⟨hk, hzk, htl⟩ := wz_drop hss
      obtain ⟨ez1, ez2, ez3⟩ := hZ k z hzk
      refine lv_iload_n hx hb dX1_next_11 rfl (lv_at hl 2 rfl) ?_
      refine lv_aload_n hx hb dX1_next_12 rfl (lv_at hl 0 rfl) ?_
      refine va_get (D := (dC, dI)) (ci := 1) (v := .int (nI zs.length)) (C := RX1) (T := TX1) (N := 16) hx hb hall inX1 hown hK hP 0 rfl rfl 9 (by decide) (hall _ kw_332) (fun _ h9 => h9) rfl dX1_next_13 ?_
      refine xc_ge (tgt := 55) hx hb (by omega) (by omega) dX1_next_16 (by decide) (fun c_2 => ?_) (fun c_2 => ?_)
      · exact absurd c_2 (by omega)
      · refine lv_lload_n hx hb dX1_next_19 rfl (lv_at hl 1 rfl) ?_
        refine lv_ldc2 (v := (-1)) hx hb hown (hall _ kw_422) dX1_next_20 ?_
        refine xl_eq (tgt := 38) hx hb dX1_next_23 dX1_next_24 (by decide) (fun c_3 => ?_) (fun c_3 => ?_)
        · have c_A := c_3
          refine lv_aload_n hx hb dX1_next_38 rfl (lv_at hl 0 rfl) ?_
          refine va_get (D := (dC, dI)) (ci := 1) (v := .ref b4) (C := RX1) (T := TX1) (N := 16) hx hb hall inX1 hown hK hP 0 rfl rfl 7 (by decide) (hall _ kw_330) (fun _ h9 => h9) rfl dX1_next_39 ?_
          refine lv_iload_n hx hb dX1_next_42 rfl (lv_at hl 2 rfl) ?_
          refine xa_lald hx hb hK hP 4 1 rfl rfl (by omega) (by omega) dX1_next_43 ?_
          refine lv_goto (tgt := 48) hx hb dX1_next_44 (by decide) ?_
          refine lv_lstore_n (lv' := [(1, .long (mt k)), (0, .ref y), (3, .int (nI k))]) hx hb dX1_next_48 rfl hl (by decide) rfl (fun ls hl => ?_)
          refine lv_iinc (v := nI (k + 1)) (lv' := [(3, .int (nI (k + 1))), (1, .long (mt k)), (0, .ref y)]) hx hb dX1_next_49 hl (k := 2) rfl (nI_1 k) (by decide) rfl (fun ls hl => ?_)
          refine lv_goto (tgt := 11) hx hb dX1_next_52 (by decide) ?_
          exact ih (k + 1) (mt k) H locs ls htl (by omega) ((congrArg (wnx tl) (((if_pos (by first | exact Or.inl c_A | exact Or.inr (ez2 ▸ Int64.not_le.mp c_B))).trans ez2.symm).symm)).trans hw) hP hD hS (lv_sub hl [2, 1, 0] rfl)
        · have c_A := c_3
          refine lv_aload_n hx hb dX1_next_27 rfl (lv_at hl 0 rfl) ?_
          refine va_get (D := (dC, dI)) (ci := 1) (v := .ref b4) (C := RX1) (T := TX1) (N := 16) hx hb hall inX1 hown hK hP 0 rfl rfl 7 (by decide) (hall _ kw_330) (fun _ h9 => h9) rfl dX1_next_28 ?_
          refine lv_iload_n hx hb dX1_next_31 rfl (lv_at hl 2 rfl) ?_
          refine xa_lald hx hb hK hP 4 1 rfl rfl (by omega) (by omega) dX1_next_32 ?_
          refine lv_lload_n hx hb dX1_next_33 rfl (lv_at hl 1 rfl) ?_
          refine xl_ge (tgt := 47) hx hb dX1_next_34 dX1_next_35 (by decide) (fun c_4 => ?_) (fun c_4 => ?_)
          · have c_B := c_4
            refine lv_lload_n hx hb dX1_next_47 rfl (lv_at hl 1 rfl) ?_
            refine lv_lstore_n (lv' := [(1, .long le), (0, .ref y), (3, .int (nI k))]) hx hb dX1_next_48 rfl hl (by decide) rfl (fun ls hl => ?_)
            refine lv_iinc (v := nI (k + 1)) (lv' := [(3, .int (nI (k + 1))), (1, .long le), (0, .ref y)]) hx hb dX1_next_49 hl (k := 2) rfl (nI_1 k) (by decide) rfl (fun ls hl => ?_)
            refine lv_goto (tgt := 11) hx hb dX1_next_52 (by decide) ?_
            exact ih (k + 1) le H locs ls htl (by omega) ((congrArg (wnx tl) ((if_neg (fun q => q.elim c_A (fun q => absurd q (Int64.not_lt.mpr (ez2 ▸ c_B))))).symm)).trans hw) hP hD hS (lv_sub hl [2, 1, 0] rfl)
          · have c_B := c_4
            refine lv_aload_n hx hb dX1_next_38 rfl (lv_at hl 0 rfl) ?_
            refine va_get (D := (dC, dI)) (ci := 1) (v := .ref b4) (C := RX1) (T := TX1) (N := 16) hx hb hall inX1 hown hK hP 0 rfl rfl 7 (by decide) (hall _ kw_330) (fun _ h9 => h9) rfl dX1_next_39 ?_
            refine lv_iload_n hx hb dX1_next_42 rfl (lv_at hl 2 rfl) ?_
            refine xa_lald hx hb hK hP 4 1 rfl rfl (by omega) (by omega) dX1_next_43 ?_
            refine lv_goto (tgt := 48) hx hb dX1_next_44 (by decide) ?_
            refine lv_lstore_n (lv' := [(1, .long (mt k)), (0, .ref y), (3, .int (nI k))]) hx hb dX1_next_48 rfl hl (by decide) rfl (fun ls hl => ?_)
            refine lv_iinc (v := nI (k + 1)) (lv' := [(3, .int (nI (k + 1))), (1, .long (mt k)), (0, .ref y)]) hx hb dX1_next_49 hl (k := 2) rfl (nI_1 k) (by decide) rfl (fun ls hl => ?_)
            refine lv_goto (tgt := 11) hx hb dX1_next_52 (by decide) ?_
            exact ih (k + 1) (mt k) H locs ls htl (by omega) ((congrArg (wnx tl) (((if_pos (by first | exact Or.inl c_A | exact Or.inr (ez2 ▸ Int64.not_le.mp c_B))).trans ez2.symm).symm)).trans hw) hP hD hS (lv_sub hl [2, 1, 0] rfl)
  exact hloop zs 0 (-1) H locs ls rfl (by omega) rfl hP hD hS (lv_sub hl [2, 1, 0] rfl)
set_option maxHeartbeats 4000000 in
set_option maxRecDepth 100000 in
theorem m_find (l : Launch) (dC : Nat → ClassId) (dI : Nat → Nat → Nat) (y b1 b2 b3 b4 b5 b6 b7 b8 b9 b10 : Nat) (cI cJ cZ : ClassId) (th nD nR : Nat) (vs : Nat → Int64) (ac : Nat → Bool) (now : Int64) (o : Nat → Nat) (mt mw : Nat → Int64) (nv dl : Nat → Int64) (el : Nat) (rt rv : Nat → Int64) (mk : Nat → Bool) (zs : List ZT) (hI : wm_I nD nR el zs) (hZ : wz zs o mt mw) (d : Nat) (hd : d < nD) (q : Nat) (hq : q < 2 ^ 31) : Met l yX1_find wsX1_find ({ frames := 0, cells := 0, slots := 0, locals := 0 }) (va_Pc [.ref y, .int (nI d), .int (nI q)] (fun U => va_P (dC, dI) vwCl (wm y b1 b2 b3 b4 b5 b6 b7 b8 b9 b10 cI cJ cZ th nD nR vs ac now o mt mw zs.length nv dl el rt rv mk) U.heap ∧ va_K (dC, dI) vwCl [(cI, .int), (cJ, .long), (cZ, .boolean)] U)) (vp_Si (fun v => v = oI (wfi d q zs 0 0))) 0 0 (fun _ => False) := by
  refine Met.ofW (cc := cX1_find) (maxL := 5) (ret := (some .int)) (by decide) rfl ?_
  intro p e s m args below meth c s₁ B hml hv
  obtain ⟨rfl, hP, hK⟩ := hv
  have hx := B.exec
  have hb := B.bytes
  have hr := B.returns
  have hts := atoms_spec (ws := wsX1_find) B.pre
  have hown : s.vm.findClass RX1 = some m.cls := findClass_of_methodNamed B.named
  have hlocks := B.notSynchronized
  have hall := fun (w : Cond) (h : w ∈ allw) => hts w (List.mem_cons_of_mem _ h)
  have hl := lv_entry ([.ref y, .int (nI d), .int (nI q)]) (n := 5) (Nat.le_of_ble_eq_true rfl)
  rw [lg_entry_eq]
  generalize (lg_sl ([.ref y, .int (nI d), .int (nI q)]) ++ List.replicate (5 - (lg_sl ([.ref y, .int (nI d), .int (nI q)])).length) Slot.unset).toArray = ls at hl ⊢
  have hl : lv_has ls 5 [(0, .ref y), (1, .int (nI d)), (2, .int (nI q))] := hl
  obtain ⟨hnD1, hnD, hnR1, hnR, hzR, hel, how⟩ := hI
  refine lv_iconst (v := 0) hx hb dX1_find_0 (by decide) ?_
  refine tp_i (y := nI 0) nI_0.symm ?_
  refine lv_istore_n (lv' := [(3, .int (nI 0)), (0, .ref y), (1, .int (nI d)), (2, .int (nI q))]) hx hb dX1_find_1 rfl hl (by decide) rfl (fun ls hl => ?_)
  refine lv_iconst (v := 0) hx hb dX1_find_2 (by decide) ?_
  refine tp_i (y := nI 0) nI_0.symm ?_
  refine lv_istore (lv' := [(4, .int (nI 0)), (3, .int (nI 0)), (0, .ref y), (1, .int (nI d)), (2, .int (nI q))]) hx hb dX1_find_3 hl (by decide) rfl (fun ls hl => ?_)
  have hloop : ∀ (ss : List ZT) (k : Nat) (c0 : Nat) (ls : Array Slot), zs.drop k = ss → k ≤ zs.length → c0 ≤ k → wfi d q ss k c0 = wfi d q zs 0 0 → lv_has ls 5 [(0, .ref y), (1, .int (nI d)), (2, .int (nI q)), (3, .int (nI c0)), (4, .int (nI k))] → W p l e (headSpec wsX1_find ({ frames := 0, cells := 0, slots := 0, locals := 0 })).room s m (([.ref y, .int (nI d), .int (nI q)] : List Value).toArray) below meth c s.heap [] 0 0 (MQ below (vp_Si (fun v => v = oI (wfi d q zs 0 0))) (([.ref y, .int (nI d), .int (nI q)] : List Value).toArray) s 0 0 (fun _ => False)) (F0 m 5 ls []) := by
    intro ss
    induction ss with
    | nil =>
      intro k c0 ls hss hkl hck hw hl
      have hk := wz_nil hss
      refine lv_iload hx hb dX1_find_5 (lv_at hl 4 rfl) ?_
      refine lv_aload_n hx hb dX1_find_7 rfl (lv_at hl 0 rfl) ?_
      refine va_get (D := (dC, dI)) (ci := 1) (v := .int (nI zs.length)) (C := RX1) (T := TX1) (N := 16) hx hb hall inX1 hown hK hP 0 rfl rfl 9 (by decide) (hall _ kw_332) (fun _ h9 => h9) rfl dX1_find_8 ?_
      refine xc_ge (tgt := 42) hx hb (by omega) (by omega) dX1_find_11 (by decide) (fun c_1 => ?_) (fun c_1 => ?_)
      · refine lv_iconst (v := (-1)) hx hb dX1_find_42 (by decide) ?_
        exact W.iret (v := (-1)) hx hb hr (fun t9 ht hW => ⟨(-1), rfl, by rw [← hw]; rfl, ht⟩) (fun q hq => nomatch hq) dX1_find_43
      · exact absurd c_1 (by omega)
    | cons z tl ih =>
      intro k c0 ls hss hkl hck hw hl
      obtain ⟨hk, hzk, htl⟩ := wz_drop hss
      obtain ⟨ez1, ez2, ez3⟩ := hZ k z hzk
      have hod : o k < 512 := by have := how z (List.mem_of_getElem? hzk); omega
      refine lv_iload hx hb dX1_find_5 (lv_at hl 4 rfl) ?_
      refine lv_aload_n hx hb dX1_find_7 rfl (lv_at hl 0 rfl) ?_
      refine va_get (D := (dC, dI)) (ci := 1) (v := .int (nI zs.length)) (C := RX1) (T := TX1) (N := 16) hx hb hall inX1 hown hK hP 0 rfl rfl 9 (by decide) (hall _ kw_332) (fun _ h9 => h9) rfl dX1_find_8 ?_
      refine xc_ge (tgt := 42) hx hb (by omega) (by omega) dX1_find_11 (by decide) (fun c_2 => ?_) (fun c_2 => ?_)
      · exact absurd c_2 (by omega)
      · refine lv_aload_n hx hb dX1_find_14 rfl (lv_at hl 0 rfl) ?_
        refine va_get (D := (dC, dI)) (ci := 1) (v := .ref b3) (C := RX1) (T := TX1) (N := 16) hx hb hall inX1 hown hK hP 0 rfl rfl 6 (by decide) (hall _ kw_329) (fun _ h9 => h9) rfl dX1_find_15 ?_
        refine lv_iload hx hb dX1_find_18 (lv_at hl 4 rfl) ?_
        refine xa_iald hx hb hK hP 3 0 rfl rfl (by omega) (by omega) dX1_find_20 ?_
        refine lv_iload_n hx hb dX1_find_21 rfl (lv_at hl 1 rfl) ?_
        refine xc_ne (tgt := 36) hx hb (by omega) (by omega) dX1_find_22 (by decide) (fun c_3 => ?_) (fun c_3 => ?_)
        · have c_A := c_3
          refine lv_iinc (v := nI (k + 1)) (lv' := [(4, .int (nI (k + 1))), (0, .ref y), (1, .int (nI d)), (2, .int (nI q)), (3, .int (nI c0))]) hx hb dX1_find_36 hl (k := 4) rfl (nI_1 k) (by decide) rfl (fun ls hl => ?_)
          refine lv_goto (tgt := 5) hx hb dX1_find_39 (by decide) ?_
          exact ih (k + 1) (c0) ls htl (by omega) (by omega) (by rw [← hw]; show _ = if z.1 = d then _ else _; rw [if_neg (fun q => c_A (ez1.trans q))]) (lv_sub hl [1, 2, 3, 4, 0] rfl)
        · have c_A := c_3
          refine lv_iload_n hx hb dX1_find_25 rfl (lv_at hl 3 rfl) ?_
          refine lv_iload_n hx hb dX1_find_26 rfl (lv_at hl 2 rfl) ?_
          refine xc_ne (tgt := 33) hx hb (by omega) (by omega) dX1_find_27 (by decide) (fun c_4 => ?_) (fun c_4 => ?_)
          · have c_B := c_4
            refine lv_iinc (v := nI (c0 + 1)) (lv' := [(3, .int (nI (c0 + 1))), (0, .ref y), (1, .int (nI d)), (2, .int (nI q)), (4, .int (nI k))]) hx hb dX1_find_33 hl (k := 3) rfl (nI_1 c0) (by decide) rfl (fun ls hl => ?_)
            refine lv_iinc (v := nI (k + 1)) (lv' := [(4, .int (nI (k + 1))), (3, .int (nI (c0 + 1))), (0, .ref y), (1, .int (nI d)), (2, .int (nI q))]) hx hb dX1_find_36 hl (k := 4) rfl (nI_1 k) (by decide) rfl (fun ls hl => ?_)
            refine lv_goto (tgt := 5) hx hb dX1_find_39 (by decide) ?_
            exact ih (k + 1) (c0 + 1) ls htl (by omega) (by omega) (by rw [← hw]; show _ = if z.1 = d then _ else _; rw [if_pos (ez1.symm.trans c_A), if_neg c_B]) (lv_sub hl [2, 3, 4, 1, 0] rfl)
          · have c_B := c_4
            refine lv_iload hx hb dX1_find_30 (lv_at hl 4 rfl) ?_
            exact W.iret (v := nI k) hx hb hr (fun t9 ht hW => ⟨nI k, rfl, by rw [← hw]; show _ = oI (if z.1 = d then _ else _); rw [if_pos (ez1.symm.trans c_A), if_pos c_B]; rfl, ht⟩) (fun q hq => nomatch hq) dX1_find_32
  exact hloop zs 0 0 ls rfl (by omega) (by omega) rfl (lv_sub hl [2, 3, 4, 1, 0] rfl)
set_option maxHeartbeats 4000000 in
set_option maxRecDepth 100000 in
theorem m_at1 (l : Launch) (dC : Nat → ClassId) (dI : Nat → Nat → Nat) (y b1 b2 b3 b4 b5 b6 b7 b8 b9 b10 : Nat) (cI cJ cZ : ClassId) (th nD nR : Nat) (vs : Nat → Int64) (ac : Nat → Bool) (now : Int64) (o : Nat → Nat) (mt mw : Nat → Int64) (nv dl : Nat → Int64) (el : Nat) (rt rv : Nat → Int64) (mk : Nat → Bool) (zs : List ZT) (sz : Nat) (i : Int32) (hbad : i < 0 ∨ nI nD ≤ i) (j z : Int32) : Met l yX1_at wsX1_at ({ frames := 1, cells := 0, slots := 0, locals := 24 }) (va_Pc [.ref y, .int i, .int j, .int z] (fun U => U.heap.size = sz ∧ va_P (dC, dI) vwCl (wm y b1 b2 b3 b4 b5 b6 b7 b8 b9 b10 cI cJ cZ th nD nR vs ac now o mt mw zs.length nv dl el rt rv mk) U.heap ∧ va_K (dC, dI) vwCl [(cI, .int), (cJ, .long), (cZ, .boolean)] U ∧ va_D (fun _ => True) (wm y b1 b2 b3 b4 b5 b6 b7 b8 b9 b10 cI cJ cZ th nD nR vs ac now o mt mw zs.length nv dl el rt rv mk))) (va_Ql (fun (v : Int64) (_ : Unit) => True) (fun _ t9 => va_P (dC, dI) vwCl (wm y b1 b2 b3 b4 b5 b6 b7 b8 b9 b10 cI cJ cZ 1 nD nR vs ac now o mt mw zs.length nv dl el rt rv mk) t9.heap ∧ va_K (dC, dI) vwCl [(cI, .int), (cJ, .long), (cZ, .boolean)] t9 ∧ va_D (va_A (wm y b1 b2 b3 b4 b5 b6 b7 b8 b9 b10 cI cJ cZ th nD nR vs ac now o mt mw zs.length nv dl el rt rv mk) sz) (wm y b1 b2 b3 b4 b5 b6 b7 b8 b9 b10 cI cJ cZ 1 nD nR vs ac now o mt mw zs.length nv dl el rt rv mk)) (va_A (wm y b1 b2 b3 b4 b5 b6 b7 b8 b9 b10 cI cJ cZ th nD nR vs ac now o mt mw zs.length nv dl el rt rv mk) sz)) 0 0 (va_A (wm y b1 b2 b3 b4 b5 b6 b7 b8 b9 b10 cI cJ cZ th nD nR vs ac now o mt mw zs.length nv dl el rt rv mk) sz) := by
  refine Met.ofW (cc := cX1_at) (maxL := 5) (ret := (some .long)) (by decide) rfl ?_
  intro p e s m args below meth c s₁ B hml hv
  obtain ⟨rfl, hsz, hP, hK, hD0⟩ := hv
  subst hsz
  have hD := hD0.self (sz := s.heap.size)
  generalize hAe : va_A (wm y b1 b2 b3 b4 b5 b6 b7 b8 b9 b10 cI cJ cZ th nD nR vs ac now o mt mw zs.length nv dl el rt rv mk) s.heap.size = A at hD ⊢
  have hA : ∀ q : Nat, s.heap.size ≤ q → A q := fun q h => by rw [← hAe]; exact Or.inr h
  have hS : va_S A s.heap s.heap [] := va_S.rf
  have hx := B.exec
  have hb := B.bytes
  have hr := B.returns
  have hts := atoms_spec (ws := wsX1_at) B.pre
  have hown : s.vm.findClass RX1 = some m.cls := findClass_of_methodNamed B.named
  have hlocks := B.notSynchronized
  have hall := fun (w : Cond) (h : w ∈ allw) => hts w (List.mem_cons_of_mem _ h)
  have hl := lv_entry ([.ref y, .int i, .int j, .int z]) (n := 5) (Nat.le_of_ble_eq_true rfl)
  rw [lg_entry_eq]
  generalize (lg_sl ([.ref y, .int i, .int j, .int z]) ++ List.replicate (5 - (lg_sl ([.ref y, .int i, .int j, .int z])).length) Slot.unset).toArray = ls at hl ⊢
  have hl : lv_has ls 5 [(0, .ref y), (1, .int i), (2, .int j), (3, .int z)] := hl
  refine lv_aload_n hx hb dX1_at_0 rfl (lv_at hl 0 rfl) ?_
  refine lv_iload_n hx hb dX1_at_1 rfl (lv_at hl 1 rfl) ?_
  refine vp_callSi (W.runV (As := [.int i]) (rest := []) ⟨hx, hb, hml, hown, hall⟩ (m_none1 l dC dI y b1 b2 b3 b4 b5 b6 b7 b8 b9 b10 cI cJ cZ th nD nR vs ac now o mt mw nv dl el rt rv mk zs i hbad) (cwV 1 hall gX1_60 rfl rfl rfl (by decide +kernel) ⟨Nat.le_of_ble_eq_true rfl, Nat.le_of_ble_eq_true rfl⟩) ⟨xr_blind, va_recv hK hP (ci := 1) (q0 := 0) rfl rfl, fun U hU hW => ⟨rfl, by rw [hU]; exact hP, va_K.moved hW.alike hK⟩⟩ rfl rfl hl.1 rfl (lv_room (Nat.le_of_ble_eq_true rfl)) dX1_at_2 ⟨by first | exact Nat.zero_le _ | omega, by first | exact Nat.zero_le _ | omega⟩) (fun v_1 hv_2 => ?_)
  subst hv_2
  refine lv_if_ne (tgt := 12) hx hb dX1_at_5 (by decide) (fun c_3 => ?_) (fun c_3 => ?_)
  · refine lv_iconst (v := (-1)) hx hb dX1_at_12 (by decide) ?_
    refine lv_goto (tgt := 22) hx hb dX1_at_13 (by decide) ?_
    refine lv_istore (lv' := [(4, .int (-1)), (0, .ref y), (1, .int i), (2, .int j), (3, .int z)]) hx hb dX1_at_22 hl (by decide) rfl (fun ls hl => ?_)
    refine lv_aload_n hx hb dX1_at_24 rfl (lv_at hl 1 rfl) ?_
    refine lv_iload hx hb dX1_at_25 (lv_at hl 0 rfl) ?_
    refine lv_iconst (v := (-1)) hx hb dX1_at_27 (by decide) ?_
    refine lv_icmp_ne (tgt := 35) hx hb dX1_at_28 (by decide) (fun c_4 => ?_) (fun c_4 => ?_)
    · exact absurd rfl c_4
    · refine lv_iconst (v := 1) hx hb dX1_at_31 (by decide) ?_
      refine tp_i (y := nI 1) (by decide) ?_
      refine lv_goto (tgt := 36) hx hb dX1_at_32 (by decide) ?_
      refine va_put (D := (dC, dI)) (ci := 1) (v := .int (nI 1)) (ty := .int) (C := RX1) (T := TX1) (N := 16) hx hb hall inX1 tyX1 tyX1_ok nmX1 hown hK hP hD hS 0 rfl rfl 0 (by decide) (hall _ kw_323) (fun _ h9 => h9) rfl (by decide +kernel) rfl rfl (Nat.le_of_ble_eq_true rfl) dX1_at_36 (fun H locs hP hD hS => ?_)
      have hP : va_P (dC, dI) vwCl [(y, .inr (1, [.int (nI 1), .int (nI nD), .int (nI nR), .ref b1, .ref b2, .long now, .ref b3, .ref b4, .ref b5, .int (nI zs.length), .ref b6, .ref b7, .int (nI el), .ref b8, .ref b9, .ref b10])), (b1, .inl (cJ, 512, .inr (.inl vs))), (b2, .inl (cZ, 512, .inl (fun j => bI (ac j)))), (b3, .inl (cI, 8192, .inl (fun j => nI (o j)))), (b4, .inl (cJ, 8192, .inr (.inl mt))), (b5, .inl (cJ, 8192, .inr (.inl mw))), (b6, .inl (cJ, 16, .inr (.inl nv))), (b7, .inl (cJ, 16, .inr (.inl dl))), (b8, .inl (cJ, 8208, .inr (.inl rt))), (b9, .inl (cJ, 8208, .inr (.inl rv))), (b10, .inl (cZ, 8208, .inl (fun j => bI (mk j))))] H := hP
      have hD : va_D A [(y, .inr (1, [.int (nI 1), .int (nI nD), .int (nI nR), .ref b1, .ref b2, .long now, .ref b3, .ref b4, .ref b5, .int (nI zs.length), .ref b6, .ref b7, .int (nI el), .ref b8, .ref b9, .ref b10])), (b1, .inl (cJ, 512, .inr (.inl vs))), (b2, .inl (cZ, 512, .inl (fun j => bI (ac j)))), (b3, .inl (cI, 8192, .inl (fun j => nI (o j)))), (b4, .inl (cJ, 8192, .inr (.inl mt))), (b5, .inl (cJ, 8192, .inr (.inl mw))), (b6, .inl (cJ, 16, .inr (.inl nv))), (b7, .inl (cJ, 16, .inr (.inl dl))), (b8, .inl (cJ, 8208, .inr (.inl rt))), (b9, .inl (cJ, 8208, .inr (.inl rv))), (b10, .inl (cZ, 8208, .inl (fun j => bI (mk j))))] := hD
      refine lv_aload_n hx hb dX1_at_39 rfl (lv_at hl 1 rfl) ?_
      refine va_get (D := (dC, dI)) (ci := 1) (v := .int (nI 1)) (C := RX1) (T := TX1) (N := 16) hx hb hall inX1 hown hK hP 0 rfl rfl 0 (by decide) (hall _ kw_323) (fun _ h9 => h9) rfl dX1_at_40 ?_
      refine xz_le (tgt := 50) hx hb (by omega) dX1_at_43 (by decide) (fun c_5 => ?_) (fun c_5 => ?_)
      · exact absurd c_5 (by omega)
      · refine lv_lconst (v := 0) hx hb dX1_at_46 (by decide) ?_
        refine lv_goto (tgt := 71) hx hb dX1_at_47 (by decide) ?_
        exact W.lret (v := 0) hx hb hr (fun t9 ht hW => ⟨⟨0, (), rfl, trivial, by rw [ht]; exact hP, va_K.moved hW.alike hK, hD⟩, hS.F ht⟩) hS.2.2 dX1_at_71
  · exact absurd c_3 (by decide)
set_option maxHeartbeats 4000000 in
set_option maxRecDepth 100000 in
theorem m_at2 (l : Launch) (dC : Nat → ClassId) (dI : Nat → Nat → Nat) (y b1 b2 b3 b4 b5 b6 b7 b8 b9 b10 : Nat) (cI cJ cZ : ClassId) (th nD nR : Nat) (vs : Nat → Int64) (ac : Nat → Bool) (now : Int64) (o : Nat → Nat) (mt mw : Nat → Int64) (nv dl : Nat → Int64) (el : Nat) (rt rv : Nat → Int64) (mk : Nat → Bool) (zs : List ZT) (sz : Nat) (hI : wm_I nD nR el zs) (hZ : wz zs o mt mw) (d : Nat) (hd : d < nD) (j z : Int32) (hj : j < 0) : Met l yX1_at wsX1_at ({ frames := 1, cells := 0, slots := 0, locals := 24 }) (va_Pc [.ref y, .int (nI d), .int j, .int z] (fun U => U.heap.size = sz ∧ va_P (dC, dI) vwCl (wm y b1 b2 b3 b4 b5 b6 b7 b8 b9 b10 cI cJ cZ th nD nR vs ac now o mt mw zs.length nv dl el rt rv mk) U.heap ∧ va_K (dC, dI) vwCl [(cI, .int), (cJ, .long), (cZ, .boolean)] U ∧ va_D (fun _ => True) (wm y b1 b2 b3 b4 b5 b6 b7 b8 b9 b10 cI cJ cZ th nD nR vs ac now o mt mw zs.length nv dl el rt rv mk))) (va_Ql (fun (v : Int64) (_ : Unit) => True) (fun _ t9 => va_P (dC, dI) vwCl (wm y b1 b2 b3 b4 b5 b6 b7 b8 b9 b10 cI cJ cZ 1 nD nR vs ac now o mt mw zs.length nv dl el rt rv mk) t9.heap ∧ va_K (dC, dI) vwCl [(cI, .int), (cJ, .long), (cZ, .boolean)] t9 ∧ va_D (va_A (wm y b1 b2 b3 b4 b5 b6 b7 b8 b9 b10 cI cJ cZ th nD nR vs ac now o mt mw zs.length nv dl el rt rv mk) sz) (wm y b1 b2 b3 b4 b5 b6 b7 b8 b9 b10 cI cJ cZ 1 nD nR vs ac now o mt mw zs.length nv dl el rt rv mk)) (va_A (wm y b1 b2 b3 b4 b5 b6 b7 b8 b9 b10 cI cJ cZ th nD nR vs ac now o mt mw zs.length nv dl el rt rv mk) sz)) 0 0 (va_A (wm y b1 b2 b3 b4 b5 b6 b7 b8 b9 b10 cI cJ cZ th nD nR vs ac now o mt mw zs.length nv dl el rt rv mk) sz) := by
  refine Met.ofW (cc := cX1_at) (maxL := 5) (ret := (some .long)) (by decide) rfl ?_
  intro p e s m args below meth c s₁ B hml hv
  obtain ⟨rfl, hsz, hP, hK, hD0⟩ := hv
  subst hsz
  have hD := hD0.self (sz := s.heap.size)
  generalize hAe : va_A (wm y b1 b2 b3 b4 b5 b6 b7 b8 b9 b10 cI cJ cZ th nD nR vs ac now o mt mw zs.length nv dl el rt rv mk) s.heap.size = A at hD ⊢
  have hA : ∀ q : Nat, s.heap.size ≤ q → A q := fun q h => by rw [← hAe]; exact Or.inr h
  have hS : va_S A s.heap s.heap [] := va_S.rf
  have hx := B.exec
  have hb := B.bytes
  have hr := B.returns
  have hts := atoms_spec (ws := wsX1_at) B.pre
  have hown : s.vm.findClass RX1 = some m.cls := findClass_of_methodNamed B.named
  have hlocks := B.notSynchronized
  have hall := fun (w : Cond) (h : w ∈ allw) => hts w (List.mem_cons_of_mem _ h)
  have hl := lv_entry ([.ref y, .int (nI d), .int j, .int z]) (n := 5) (Nat.le_of_ble_eq_true rfl)
  rw [lg_entry_eq]
  generalize (lg_sl ([.ref y, .int (nI d), .int j, .int z]) ++ List.replicate (5 - (lg_sl ([.ref y, .int (nI d), .int j, .int z])).length) Slot.unset).toArray = ls at hl ⊢
  have hl : lv_has ls 5 [(0, .ref y), (1, .int (nI d)), (2, .int j), (3, .int z)] := hl
  have hI0 := hI
  obtain ⟨hnD1, hnD, hnR1, hnR, hzR, hel, how⟩ := hI
  refine lv_aload_n hx hb dX1_at_0 rfl (lv_at hl 0 rfl) ?_
  refine lv_iload_n hx hb dX1_at_1 rfl (lv_at hl 1 rfl) ?_
  refine vp_callSi (W.runV (As := [.int (nI d)]) (rest := []) ⟨hx, hb, hml, hown, hall⟩ (m_none0 l dC dI y b1 b2 b3 b4 b5 b6 b7 b8 b9 b10 cI cJ cZ th nD nR vs ac now o mt mw nv dl el rt rv mk zs hI0 hZ d hd) (cwV 1 hall gX1_60 rfl rfl rfl (by decide +kernel) ⟨Nat.le_of_ble_eq_true rfl, Nat.le_of_ble_eq_true rfl⟩) ⟨xr_blind, va_recv hK hP (ci := 1) (q0 := 0) rfl rfl, fun U hU hW => ⟨rfl, by rw [hU]; exact hP, va_K.moved hW.alike hK⟩⟩ rfl rfl hl.1 rfl (lv_room (Nat.le_of_ble_eq_true rfl)) dX1_at_2 ⟨by first | exact Nat.zero_le _ | omega, by first | exact Nat.zero_le _ | omega⟩) (fun v_1 hv_2 => ?_)
  subst hv_2
  refine lv_if_ne (tgt := 12) hx hb dX1_at_5 (by decide) (fun c_3 => ?_) (fun c_3 => ?_)
  · exact absurd rfl c_3
  · refine lv_iload_n hx hb dX1_at_8 rfl (lv_at hl 2 rfl) ?_
    refine lv_if_ge (tgt := 16) hx hb dX1_at_9 (by decide) (fun c_4 => ?_) (fun c_4 => ?_)
    · exact absurd hj (Int32.not_lt.mpr c_4)
    · refine lv_iconst (v := (-1)) hx hb dX1_at_12 (by decide) ?_
      refine lv_goto (tgt := 22) hx hb dX1_at_13 (by decide) ?_
      refine lv_istore (lv' := [(4, .int (-1)), (0, .ref y), (1, .int (nI d)), (2, .int j), (3, .int z)]) hx hb dX1_at_22 hl (by decide) rfl (fun ls hl => ?_)
      refine lv_aload_n hx hb dX1_at_24 rfl (lv_at hl 1 rfl) ?_
      refine lv_iload hx hb dX1_at_25 (lv_at hl 0 rfl) ?_
      refine lv_iconst (v := (-1)) hx hb dX1_at_27 (by decide) ?_
      refine lv_icmp_ne (tgt := 35) hx hb dX1_at_28 (by decide) (fun c_5 => ?_) (fun c_5 => ?_)
      · exact absurd rfl c_5
      · refine lv_iconst (v := 1) hx hb dX1_at_31 (by decide) ?_
        refine tp_i (y := nI 1) (by decide) ?_
        refine lv_goto (tgt := 36) hx hb dX1_at_32 (by decide) ?_
        refine va_put (D := (dC, dI)) (ci := 1) (v := .int (nI 1)) (ty := .int) (C := RX1) (T := TX1) (N := 16) hx hb hall inX1 tyX1 tyX1_ok nmX1 hown hK hP hD hS 0 rfl rfl 0 (by decide) (hall _ kw_323) (fun _ h9 => h9) rfl (by decide +kernel) rfl rfl (Nat.le_of_ble_eq_true rfl) dX1_at_36 (fun H locs hP hD hS => ?_)
        have hP : va_P (dC, dI) vwCl [(y, .inr (1, [.int (nI 1), .int (nI nD), .int (nI nR), .ref b1, .ref b2, .long now, .ref b3, .ref b4, .ref b5, .int (nI zs.length), .ref b6, .ref b7, .int (nI el), .ref b8, .ref b9, .ref b10])), (b1, .inl (cJ, 512, .inr (.inl vs))), (b2, .inl (cZ, 512, .inl (fun j => bI (ac j)))), (b3, .inl (cI, 8192, .inl (fun j => nI (o j)))), (b4, .inl (cJ, 8192, .inr (.inl mt))), (b5, .inl (cJ, 8192, .inr (.inl mw))), (b6, .inl (cJ, 16, .inr (.inl nv))), (b7, .inl (cJ, 16, .inr (.inl dl))), (b8, .inl (cJ, 8208, .inr (.inl rt))), (b9, .inl (cJ, 8208, .inr (.inl rv))), (b10, .inl (cZ, 8208, .inl (fun j => bI (mk j))))] H := hP
        have hD : va_D A [(y, .inr (1, [.int (nI 1), .int (nI nD), .int (nI nR), .ref b1, .ref b2, .long now, .ref b3, .ref b4, .ref b5, .int (nI zs.length), .ref b6, .ref b7, .int (nI el), .ref b8, .ref b9, .ref b10])), (b1, .inl (cJ, 512, .inr (.inl vs))), (b2, .inl (cZ, 512, .inl (fun j => bI (ac j)))), (b3, .inl (cI, 8192, .inl (fun j => nI (o j)))), (b4, .inl (cJ, 8192, .inr (.inl mt))), (b5, .inl (cJ, 8192, .inr (.inl mw))), (b6, .inl (cJ, 16, .inr (.inl nv))), (b7, .inl (cJ, 16, .inr (.inl dl))), (b8, .inl (cJ, 8208, .inr (.inl rt))), (b9, .inl (cJ, 8208, .inr (.inl rv))), (b10, .inl (cZ, 8208, .inl (fun j => bI (mk j))))] := hD
        refine lv_aload_n hx hb dX1_at_39 rfl (lv_at hl 1 rfl) ?_
        refine va_get (D := (dC, dI)) (ci := 1) (v := .int (nI 1)) (C := RX1) (T := TX1) (N := 16) hx hb hall inX1 hown hK hP 0 rfl rfl 0 (by decide) (hall _ kw_323) (fun _ h9 => h9) rfl dX1_at_40 ?_
        refine xz_le (tgt := 50) hx hb (by omega) dX1_at_43 (by decide) (fun c_6 => ?_) (fun c_6 => ?_)
        · exact absurd c_6 (by omega)
        · refine lv_lconst (v := 0) hx hb dX1_at_46 (by decide) ?_
          refine lv_goto (tgt := 71) hx hb dX1_at_47 (by decide) ?_
          exact W.lret (v := 0) hx hb hr (fun t9 ht hW => ⟨⟨0, (), rfl, trivial, by rw [ht]; exact hP, va_K.moved hW.alike hK, hD⟩, hS.F ht⟩) hS.2.2 dX1_at_71
set_option maxHeartbeats 4000000 in
set_option maxRecDepth 100000 in
theorem m_at3 (l : Launch) (dC : Nat → ClassId) (dI : Nat → Nat → Nat) (y b1 b2 b3 b4 b5 b6 b7 b8 b9 b10 : Nat) (cI cJ cZ : ClassId) (th nD nR : Nat) (vs : Nat → Int64) (ac : Nat → Bool) (now : Int64) (o : Nat → Nat) (mt mw : Nat → Int64) (nv dl : Nat → Int64) (el : Nat) (rt rv : Nat → Int64) (mk : Nat → Bool) (zs : List ZT) (sz : Nat) (hI : wm_I nD nR el zs) (hZ : wz zs o mt mw) (d : Nat) (hd : d < nD) (q : Nat) (z : Int32) (hq : q < 2 ^ 31) (hf : wfi d q zs 0 0 = none) : Met l yX1_at wsX1_at ({ frames := 1, cells := 0, slots := 0, locals := 24 }) (va_Pc [.ref y, .int (nI d), .int (nI q), .int z] (fun U => U.heap.size = sz ∧ va_P (dC, dI) vwCl (wm y b1 b2 b3 b4 b5 b6 b7 b8 b9 b10 cI cJ cZ th nD nR vs ac now o mt mw zs.length nv dl el rt rv mk) U.heap ∧ va_K (dC, dI) vwCl [(cI, .int), (cJ, .long), (cZ, .boolean)] U ∧ va_D (fun _ => True) (wm y b1 b2 b3 b4 b5 b6 b7 b8 b9 b10 cI cJ cZ th nD nR vs ac now o mt mw zs.length nv dl el rt rv mk))) (va_Ql (fun (v : Int64) (_ : Unit) => True) (fun _ t9 => va_P (dC, dI) vwCl (wm y b1 b2 b3 b4 b5 b6 b7 b8 b9 b10 cI cJ cZ 1 nD nR vs ac now o mt mw zs.length nv dl el rt rv mk) t9.heap ∧ va_K (dC, dI) vwCl [(cI, .int), (cJ, .long), (cZ, .boolean)] t9 ∧ va_D (va_A (wm y b1 b2 b3 b4 b5 b6 b7 b8 b9 b10 cI cJ cZ th nD nR vs ac now o mt mw zs.length nv dl el rt rv mk) sz) (wm y b1 b2 b3 b4 b5 b6 b7 b8 b9 b10 cI cJ cZ 1 nD nR vs ac now o mt mw zs.length nv dl el rt rv mk)) (va_A (wm y b1 b2 b3 b4 b5 b6 b7 b8 b9 b10 cI cJ cZ th nD nR vs ac now o mt mw zs.length nv dl el rt rv mk) sz)) 0 0 (va_A (wm y b1 b2 b3 b4 b5 b6 b7 b8 b9 b10 cI cJ cZ th nD nR vs ac now o mt mw zs.length nv dl el rt rv mk) sz) := by
  refine Met.ofW (cc := cX1_at) (maxL := 5) (ret := (some .long)) (by decide) rfl ?_
  intro p e s m args below meth c s₁ B hml hv
  obtain ⟨rfl, hsz, hP, hK, hD0⟩ := hv
  subst hsz
  have hD := hD0.self (sz := s.heap.size)
  generalize hAe : va_A (wm y b1 b2 b3 b4 b5 b6 b7 b8 b9 b10 cI cJ cZ th nD nR vs ac now o mt mw zs.length nv dl el rt rv mk) s.heap.size = A at hD ⊢
  have hA : ∀ q : Nat, s.heap.size ≤ q → A q := fun q h => by rw [← hAe]; exact Or.inr h
  have hS : va_S A s.heap s.heap [] := va_S.rf
  have hx := B.exec
  have hb := B.bytes
  have hr := B.returns
  have hts := atoms_spec (ws := wsX1_at) B.pre
  have hown : s.vm.findClass RX1 = some m.cls := findClass_of_methodNamed B.named
  have hlocks := B.notSynchronized
  have hall := fun (w : Cond) (h : w ∈ allw) => hts w (List.mem_cons_of_mem _ h)
  have hl := lv_entry ([.ref y, .int (nI d), .int (nI q), .int z]) (n := 5) (Nat.le_of_ble_eq_true rfl)
  rw [lg_entry_eq]
  generalize (lg_sl ([.ref y, .int (nI d), .int (nI q), .int z]) ++ List.replicate (5 - (lg_sl ([.ref y, .int (nI d), .int (nI q), .int z])).length) Slot.unset).toArray = ls at hl ⊢
  have hl : lv_has ls 5 [(0, .ref y), (1, .int (nI d)), (2, .int (nI q)), (3, .int z)] := hl
  have hI0 := hI
  obtain ⟨hnD1, hnD, hnR1, hnR, hzR, hel, how⟩ := hI
  refine lv_aload_n hx hb dX1_at_0 rfl (lv_at hl 0 rfl) ?_
  refine lv_iload_n hx hb dX1_at_1 rfl (lv_at hl 1 rfl) ?_
  refine vp_callSi (W.runV (As := [.int (nI d)]) (rest := []) ⟨hx, hb, hml, hown, hall⟩ (m_none0 l dC dI y b1 b2 b3 b4 b5 b6 b7 b8 b9 b10 cI cJ cZ th nD nR vs ac now o mt mw nv dl el rt rv mk zs hI0 hZ d hd) (cwV 1 hall gX1_60 rfl rfl rfl (by decide +kernel) ⟨Nat.le_of_ble_eq_true rfl, Nat.le_of_ble_eq_true rfl⟩) ⟨xr_blind, va_recv hK hP (ci := 1) (q0 := 0) rfl rfl, fun U hU hW => ⟨rfl, by rw [hU]; exact hP, va_K.moved hW.alike hK⟩⟩ rfl rfl hl.1 rfl (lv_room (Nat.le_of_ble_eq_true rfl)) dX1_at_2 ⟨by first | exact Nat.zero_le _ | omega, by first | exact Nat.zero_le _ | omega⟩) (fun v_1 hv_2 => ?_)
  subst hv_2
  refine lv_if_ne (tgt := 12) hx hb dX1_at_5 (by decide) (fun c_3 => ?_) (fun c_3 => ?_)
  · exact absurd rfl c_3
  · refine lv_iload_n hx hb dX1_at_8 rfl (lv_at hl 2 rfl) ?_
    refine lv_if_ge (tgt := 16) hx hb dX1_at_9 (by decide) (fun c_4 => ?_) (fun c_4 => ?_)
    · refine lv_aload_n hx hb dX1_at_16 rfl (lv_at hl 0 rfl) ?_
      refine lv_iload_n hx hb dX1_at_17 rfl (lv_at hl 1 rfl) ?_
      refine lv_iload_n hx hb dX1_at_18 rfl (lv_at hl 2 rfl) ?_
      refine vp_callSi (W.runV (As := [.int (nI d), .int (nI q)]) (rest := []) ⟨hx, hb, hml, hown, hall⟩ (m_find l dC dI y b1 b2 b3 b4 b5 b6 b7 b8 b9 b10 cI cJ cZ th nD nR vs ac now o mt mw nv dl el rt rv mk zs hI0 hZ d hd q hq) (cwV 2 hall gX1_78 rfl rfl rfl (by decide +kernel) ⟨Nat.le_of_ble_eq_true rfl, Nat.le_of_ble_eq_true rfl⟩) ⟨xr_blind, va_recv hK hP (ci := 1) (q0 := 0) rfl rfl, fun U hU hW => ⟨rfl, by rw [hU]; exact hP, va_K.moved hW.alike hK⟩⟩ rfl rfl hl.1 rfl (lv_room (Nat.le_of_ble_eq_true rfl)) dX1_at_19 ⟨by first | exact Nat.zero_le _ | omega, by first | exact Nat.zero_le _ | omega⟩) (fun v_5 hv_6 => ?_)
      obtain rfl : v_5 = (-1) := hv_6.trans (by rw [hf]; rfl)
      refine lv_istore (lv' := [(4, .int (-1)), (0, .ref y), (1, .int (nI d)), (2, .int (nI q)), (3, .int z)]) hx hb dX1_at_22 hl (by decide) rfl (fun ls hl => ?_)
      refine lv_aload_n hx hb dX1_at_24 rfl (lv_at hl 1 rfl) ?_
      refine lv_iload hx hb dX1_at_25 (lv_at hl 0 rfl) ?_
      refine lv_iconst (v := (-1)) hx hb dX1_at_27 (by decide) ?_
      refine lv_icmp_ne (tgt := 35) hx hb dX1_at_28 (by decide) (fun c_7 => ?_) (fun c_7 => ?_)
      · exact absurd rfl c_7
      · refine lv_iconst (v := 1) hx hb dX1_at_31 (by decide) ?_
        refine tp_i (y := nI 1) (by decide) ?_
        refine lv_goto (tgt := 36) hx hb dX1_at_32 (by decide) ?_
        refine va_put (D := (dC, dI)) (ci := 1) (v := .int (nI 1)) (ty := .int) (C := RX1) (T := TX1) (N := 16) hx hb hall inX1 tyX1 tyX1_ok nmX1 hown hK hP hD hS 0 rfl rfl 0 (by decide) (hall _ kw_323) (fun _ h9 => h9) rfl (by decide +kernel) rfl rfl (Nat.le_of_ble_eq_true rfl) dX1_at_36 (fun H locs hP hD hS => ?_)
        have hP : va_P (dC, dI) vwCl [(y, .inr (1, [.int (nI 1), .int (nI nD), .int (nI nR), .ref b1, .ref b2, .long now, .ref b3, .ref b4, .ref b5, .int (nI zs.length), .ref b6, .ref b7, .int (nI el), .ref b8, .ref b9, .ref b10])), (b1, .inl (cJ, 512, .inr (.inl vs))), (b2, .inl (cZ, 512, .inl (fun j => bI (ac j)))), (b3, .inl (cI, 8192, .inl (fun j => nI (o j)))), (b4, .inl (cJ, 8192, .inr (.inl mt))), (b5, .inl (cJ, 8192, .inr (.inl mw))), (b6, .inl (cJ, 16, .inr (.inl nv))), (b7, .inl (cJ, 16, .inr (.inl dl))), (b8, .inl (cJ, 8208, .inr (.inl rt))), (b9, .inl (cJ, 8208, .inr (.inl rv))), (b10, .inl (cZ, 8208, .inl (fun j => bI (mk j))))] H := hP
        have hD : va_D A [(y, .inr (1, [.int (nI 1), .int (nI nD), .int (nI nR), .ref b1, .ref b2, .long now, .ref b3, .ref b4, .ref b5, .int (nI zs.length), .ref b6, .ref b7, .int (nI el), .ref b8, .ref b9, .ref b10])), (b1, .inl (cJ, 512, .inr (.inl vs))), (b2, .inl (cZ, 512, .inl (fun j => bI (ac j)))), (b3, .inl (cI, 8192, .inl (fun j => nI (o j)))), (b4, .inl (cJ, 8192, .inr (.inl mt))), (b5, .inl (cJ, 8192, .inr (.inl mw))), (b6, .inl (cJ, 16, .inr (.inl nv))), (b7, .inl (cJ, 16, .inr (.inl dl))), (b8, .inl (cJ, 8208, .inr (.inl rt))), (b9, .inl (cJ, 8208, .inr (.inl rv))), (b10, .inl (cZ, 8208, .inl (fun j => bI (mk j))))] := hD
        refine lv_aload_n hx hb dX1_at_39 rfl (lv_at hl 1 rfl) ?_
        refine va_get (D := (dC, dI)) (ci := 1) (v := .int (nI 1)) (C := RX1) (T := TX1) (N := 16) hx hb hall inX1 hown hK hP 0 rfl rfl 0 (by decide) (hall _ kw_323) (fun _ h9 => h9) rfl dX1_at_40 ?_
        refine xz_le (tgt := 50) hx hb (by omega) dX1_at_43 (by decide) (fun c_8 => ?_) (fun c_8 => ?_)
        · exact absurd c_8 (by omega)
        · refine lv_lconst (v := 0) hx hb dX1_at_46 (by decide) ?_
          refine lv_goto (tgt := 71) hx hb dX1_at_47 (by decide) ?_
          exact W.lret (v := 0) hx hb hr (fun t9 ht hW => ⟨⟨0, (), rfl, trivial, by rw [ht]; exact hP, va_K.moved hW.alike hK, hD⟩, hS.F ht⟩) hS.2.2 dX1_at_71
    · exact absurd (nI_pos' (by omega)) c_4
set_option maxHeartbeats 4000000 in
set_option maxRecDepth 100000 in
theorem m_at0 (l : Launch) (dC : Nat → ClassId) (dI : Nat → Nat → Nat) (y b1 b2 b3 b4 b5 b6 b7 b8 b9 b10 : Nat) (cI cJ cZ : ClassId) (th nD nR : Nat) (vs : Nat → Int64) (ac : Nat → Bool) (now : Int64) (o : Nat → Nat) (mt mw : Nat → Int64) (nv dl : Nat → Int64) (el : Nat) (rt rv : Nat → Int64) (mk : Nat → Bool) (zs : List ZT) (sz : Nat) (hI : wm_I nD nR el zs) (hZ : wz zs o mt mw) (d : Nat) (hd : d < nD) (q k0 : Nat) (z : Int32) (hq : q < 2 ^ 31) (hf : wfi d q zs 0 0 = some k0) (hk0 : k0 < zs.length) : Met l yX1_at wsX1_at ({ frames := 1, cells := 0, slots := 0, locals := 24 }) (va_Pc [.ref y, .int (nI d), .int (nI q), .int z] (fun U => U.heap.size = sz ∧ va_P (dC, dI) vwCl (wm y b1 b2 b3 b4 b5 b6 b7 b8 b9 b10 cI cJ cZ th nD nR vs ac now o mt mw zs.length nv dl el rt rv mk) U.heap ∧ va_K (dC, dI) vwCl [(cI, .int), (cJ, .long), (cZ, .boolean)] U ∧ va_D (fun _ => True) (wm y b1 b2 b3 b4 b5 b6 b7 b8 b9 b10 cI cJ cZ th nD nR vs ac now o mt mw zs.length nv dl el rt rv mk))) (va_Ql (fun (v : Int64) (_ : Unit) => v = if z = 0 then mw k0 else mt k0) (fun _ t9 => va_P (dC, dI) vwCl (wm y b1 b2 b3 b4 b5 b6 b7 b8 b9 b10 cI cJ cZ 0 nD nR vs ac now o mt mw zs.length nv dl el rt rv mk) t9.heap ∧ va_K (dC, dI) vwCl [(cI, .int), (cJ, .long), (cZ, .boolean)] t9 ∧ va_D (va_A (wm y b1 b2 b3 b4 b5 b6 b7 b8 b9 b10 cI cJ cZ th nD nR vs ac now o mt mw zs.length nv dl el rt rv mk) sz) (wm y b1 b2 b3 b4 b5 b6 b7 b8 b9 b10 cI cJ cZ 0 nD nR vs ac now o mt mw zs.length nv dl el rt rv mk)) (va_A (wm y b1 b2 b3 b4 b5 b6 b7 b8 b9 b10 cI cJ cZ th nD nR vs ac now o mt mw zs.length nv dl el rt rv mk) sz)) 0 0 (va_A (wm y b1 b2 b3 b4 b5 b6 b7 b8 b9 b10 cI cJ cZ th nD nR vs ac now o mt mw zs.length nv dl el rt rv mk) sz) := by
  refine Met.ofW (cc := cX1_at) (maxL := 5) (ret := (some .long)) (by decide) rfl ?_
  intro p e s m args below meth c s₁ B hml hv
  obtain ⟨rfl, hsz, hP, hK, hD0⟩ := hv
  subst hsz
  have hD := hD0.self (sz := s.heap.size)
  generalize hAe : va_A (wm y b1 b2 b3 b4 b5 b6 b7 b8 b9 b10 cI cJ cZ th nD nR vs ac now o mt mw zs.length nv dl el rt rv mk) s.heap.size = A at hD ⊢
  have hA : ∀ q : Nat, s.heap.size ≤ q → A q := fun q h => by rw [← hAe]; exact Or.inr h
  have hS : va_S A s.heap s.heap [] := va_S.rf
  have hx := B.exec
  have hb := B.bytes
  have hr := B.returns
  have hts := atoms_spec (ws := wsX1_at) B.pre
  have hown : s.vm.findClass RX1 = some m.cls := findClass_of_methodNamed B.named
  have hlocks := B.notSynchronized
  have hall := fun (w : Cond) (h : w ∈ allw) => hts w (List.mem_cons_of_mem _ h)
  have hl := lv_entry ([.ref y, .int (nI d), .int (nI q), .int z]) (n := 5) (Nat.le_of_ble_eq_true rfl)
  rw [lg_entry_eq]
  generalize (lg_sl ([.ref y, .int (nI d), .int (nI q), .int z]) ++ List.replicate (5 - (lg_sl ([.ref y, .int (nI d), .int (nI q), .int z])).length) Slot.unset).toArray = ls at hl ⊢
  have hl : lv_has ls 5 [(0, .ref y), (1, .int (nI d)), (2, .int (nI q)), (3, .int z)] := hl
  have hI0 := hI
  obtain ⟨hnD1, hnD, hnR1, hnR, hzR, hel, how⟩ := hI
  refine lv_aload_n hx hb dX1_at_0 rfl (lv_at hl 0 rfl) ?_
  refine lv_iload_n hx hb dX1_at_1 rfl (lv_at hl 1 rfl) ?_
  refine vp_callSi (W.runV (As := [.int (nI d)]) (rest := []) ⟨hx, hb, hml, hown, hall⟩ (m_none0 l dC dI y b1 b2 b3 b4 b5 b6 b7 b8 b9 b10 cI cJ cZ th nD nR vs ac now o mt mw nv dl el rt rv mk zs hI0 hZ d hd) (cwV 1 hall gX1_60 rfl rfl rfl (by decide +kernel) ⟨Nat.le_of_ble_eq_true rfl, Nat.le_of_ble_eq_true rfl⟩) ⟨xr_blind, va_recv hK hP (ci := 1) (q0 := 0) rfl rfl, fun U hU hW => ⟨rfl, by rw [hU]; exact hP, va_K.moved hW.alike hK⟩⟩ rfl rfl hl.1 rfl (lv_room (Nat.le_of_ble_eq_true rfl)) dX1_at_2 ⟨by first | exact Nat.zero_le _ | omega, by first | exact Nat.zero_le _ | omega⟩) (fun v_1 hv_2 => ?_)
  subst hv_2
  refine lv_if_ne (tgt := 12) hx hb dX1_at_5 (by decide) (fun c_3 => ?_) (fun c_3 => ?_)
  · exact absurd rfl c_3
  · refine lv_iload_n hx hb dX1_at_8 rfl (lv_at hl 2 rfl) ?_
    refine lv_if_ge (tgt := 16) hx hb dX1_at_9 (by decide) (fun c_4 => ?_) (fun c_4 => ?_)
    · refine lv_aload_n hx hb dX1_at_16 rfl (lv_at hl 0 rfl) ?_
      refine lv_iload_n hx hb dX1_at_17 rfl (lv_at hl 1 rfl) ?_
      refine lv_iload_n hx hb dX1_at_18 rfl (lv_at hl 2 rfl) ?_
      refine vp_callSi (W.runV (As := [.int (nI d), .int (nI q)]) (rest := []) ⟨hx, hb, hml, hown, hall⟩ (m_find l dC dI y b1 b2 b3 b4 b5 b6 b7 b8 b9 b10 cI cJ cZ th nD nR vs ac now o mt mw nv dl el rt rv mk zs hI0 hZ d hd q hq) (cwV 2 hall gX1_78 rfl rfl rfl (by decide +kernel) ⟨Nat.le_of_ble_eq_true rfl, Nat.le_of_ble_eq_true rfl⟩) ⟨xr_blind, va_recv hK hP (ci := 1) (q0 := 0) rfl rfl, fun U hU hW => ⟨rfl, by rw [hU]; exact hP, va_K.moved hW.alike hK⟩⟩ rfl rfl hl.1 rfl (lv_room (Nat.le_of_ble_eq_true rfl)) dX1_at_19 ⟨by first | exact Nat.zero_le _ | omega, by first | exact Nat.zero_le _ | omega⟩) (fun v_5 hv_6 => ?_)
      obtain rfl : v_5 = nI k0 := hv_6.trans (by rw [hf]; rfl)
      refine lv_istore (lv' := [(4, .int (nI k0)), (0, .ref y), (1, .int (nI d)), (2, .int (nI q)), (3, .int z)]) hx hb dX1_at_22 hl (by decide) rfl (fun ls hl => ?_)
      refine lv_aload_n hx hb dX1_at_24 rfl (lv_at hl 1 rfl) ?_
      refine lv_iload hx hb dX1_at_25 (lv_at hl 0 rfl) ?_
      refine lv_iconst (v := (-1)) hx hb dX1_at_27 (by decide) ?_
      refine lv_icmp_ne (tgt := 35) hx hb dX1_at_28 (by decide) (fun c_7 => ?_) (fun c_7 => ?_)
      · refine lv_iconst (v := 0) hx hb dX1_at_35 (by decide) ?_
        refine tp_i (y := nI 0) nI_0.symm ?_
        refine va_put (D := (dC, dI)) (ci := 1) (v := .int (nI 0)) (ty := .int) (C := RX1) (T := TX1) (N := 16) hx hb hall inX1 tyX1 tyX1_ok nmX1 hown hK hP hD hS 0 rfl rfl 0 (by decide) (hall _ kw_323) (fun _ h9 => h9) rfl (by decide +kernel) rfl rfl (Nat.le_of_ble_eq_true rfl) dX1_at_36 (fun H locs hP hD hS => ?_)
        have hP : va_P (dC, dI) vwCl [(y, .inr (1, [.int (nI 0), .int (nI nD), .int (nI nR), .ref b1, .ref b2, .long now, .ref b3, .ref b4, .ref b5, .int (nI zs.length), .ref b6, .ref b7, .int (nI el), .ref b8, .ref b9, .ref b10])), (b1, .inl (cJ, 512, .inr (.inl vs))), (b2, .inl (cZ, 512, .inl (fun j => bI (ac j)))), (b3, .inl (cI, 8192, .inl (fun j => nI (o j)))), (b4, .inl (cJ, 8192, .inr (.inl mt))), (b5, .inl (cJ, 8192, .inr (.inl mw))), (b6, .inl (cJ, 16, .inr (.inl nv))), (b7, .inl (cJ, 16, .inr (.inl dl))), (b8, .inl (cJ, 8208, .inr (.inl rt))), (b9, .inl (cJ, 8208, .inr (.inl rv))), (b10, .inl (cZ, 8208, .inl (fun j => bI (mk j))))] H := hP
        have hD : va_D A [(y, .inr (1, [.int (nI 0), .int (nI nD), .int (nI nR), .ref b1, .ref b2, .long now, .ref b3, .ref b4, .ref b5, .int (nI zs.length), .ref b6, .ref b7, .int (nI el), .ref b8, .ref b9, .ref b10])), (b1, .inl (cJ, 512, .inr (.inl vs))), (b2, .inl (cZ, 512, .inl (fun j => bI (ac j)))), (b3, .inl (cI, 8192, .inl (fun j => nI (o j)))), (b4, .inl (cJ, 8192, .inr (.inl mt))), (b5, .inl (cJ, 8192, .inr (.inl mw))), (b6, .inl (cJ, 16, .inr (.inl nv))), (b7, .inl (cJ, 16, .inr (.inl dl))), (b8, .inl (cJ, 8208, .inr (.inl rt))), (b9, .inl (cJ, 8208, .inr (.inl rv))), (b10, .inl (cZ, 8208, .inl (fun j => bI (mk j))))] := hD
        refine lv_aload_n hx hb dX1_at_39 rfl (lv_at hl 1 rfl) ?_
        refine va_get (D := (dC, dI)) (ci := 1) (v := .int (nI 0)) (C := RX1) (T := TX1) (N := 16) hx hb hall inX1 hown hK hP 0 rfl rfl 0 (by decide) (hall _ kw_323) (fun _ h9 => h9) rfl dX1_at_40 ?_
        refine xz_le (tgt := 50) hx hb (by omega) dX1_at_43 (by decide) (fun c_8 => ?_) (fun c_8 => ?_)
        · refine lv_iload_n hx hb dX1_at_50 rfl (lv_at hl 4 rfl) ?_
          refine lv_if_eq (tgt := 64) hx hb dX1_at_51 (by decide) (fun c_9 => ?_) (fun c_9 => ?_)
          · have c_A := c_9
            refine lv_aload_n hx hb dX1_at_64 rfl (lv_at hl 1 rfl) ?_
            refine va_get (D := (dC, dI)) (ci := 1) (v := .ref b5) (C := RX1) (T := TX1) (N := 16) hx hb hall inX1 hown hK hP 0 rfl rfl 8 (by decide) (hall _ kw_331) (fun _ h9 => h9) rfl dX1_at_65 ?_
            refine lv_iload hx hb dX1_at_68 (lv_at hl 0 rfl) ?_
            refine xa_lald hx hb hK hP 5 1 rfl rfl (by omega) (by omega) dX1_at_70 ?_
            exact W.lret (v := mw k0) hx hb hr (fun t9 ht hW => ⟨⟨mw k0, (), rfl, (if_pos c_A).symm, by rw [ht]; exact hP, va_K.moved hW.alike hK, hD⟩, hS.F ht⟩) hS.2.2 dX1_at_71
          · have c_A := c_9
            refine lv_aload_n hx hb dX1_at_54 rfl (lv_at hl 1 rfl) ?_
            refine va_get (D := (dC, dI)) (ci := 1) (v := .ref b4) (C := RX1) (T := TX1) (N := 16) hx hb hall inX1 hown hK hP 0 rfl rfl 7 (by decide) (hall _ kw_330) (fun _ h9 => h9) rfl dX1_at_55 ?_
            refine lv_iload hx hb dX1_at_58 (lv_at hl 0 rfl) ?_
            refine xa_lald hx hb hK hP 4 1 rfl rfl (by omega) (by omega) dX1_at_60 ?_
            refine lv_goto (tgt := 71) hx hb dX1_at_61 (by decide) ?_
            exact W.lret (v := mt k0) hx hb hr (fun t9 ht hW => ⟨⟨mt k0, (), rfl, (if_neg c_A).symm, by rw [ht]; exact hP, va_K.moved hW.alike hK, hD⟩, hS.F ht⟩) hS.2.2 dX1_at_71
        · exact absurd c_8 (by omega)
      · exact absurd (c_7 ▸ nI_pos' (by omega)) (by decide)
    · exact absurd (nI_pos' (by omega)) c_4
set_option maxHeartbeats 4000000 in
set_option maxRecDepth 100000 in
theorem m_projected1 (l : Launch) (dC : Nat → ClassId) (dI : Nat → Nat → Nat) (y b1 b2 b3 b4 b5 b6 b7 b8 b9 b10 : Nat) (cI cJ cZ : ClassId) (th nD nR : Nat) (vs : Nat → Int64) (ac : Nat → Bool) (now : Int64) (o : Nat → Nat) (mt mw : Nat → Int64) (nv dl : Nat → Int64) (el : Nat) (rt rv : Nat → Int64) (mk : Nat → Bool) (zs : List ZT) (sz : Nat) (i : Int32) (hbad : i < 0 ∨ nI nD ≤ i) (t : Int64) : Met l yX1_projected wsX1_projected ({ frames := 1, cells := 0, slots := 0, locals := 21 }) (va_Pc [.ref y, .int i, .long t] (fun U => U.heap.size = sz ∧ va_P (dC, dI) vwCl (wm y b1 b2 b3 b4 b5 b6 b7 b8 b9 b10 cI cJ cZ th nD nR vs ac now o mt mw zs.length nv dl el rt rv mk) U.heap ∧ va_K (dC, dI) vwCl [(cI, .int), (cJ, .long), (cZ, .boolean)] U ∧ va_D (fun _ => True) (wm y b1 b2 b3 b4 b5 b6 b7 b8 b9 b10 cI cJ cZ th nD nR vs ac now o mt mw zs.length nv dl el rt rv mk))) (va_Ql (fun (v : Int64) (_ : Unit) => True) (fun _ t9 => va_P (dC, dI) vwCl (wm y b1 b2 b3 b4 b5 b6 b7 b8 b9 b10 cI cJ cZ 1 nD nR vs ac now o mt mw zs.length nv dl el rt rv mk) t9.heap ∧ va_K (dC, dI) vwCl [(cI, .int), (cJ, .long), (cZ, .boolean)] t9 ∧ va_D (va_A (wm y b1 b2 b3 b4 b5 b6 b7 b8 b9 b10 cI cJ cZ th nD nR vs ac now o mt mw zs.length nv dl el rt rv mk) sz) (wm y b1 b2 b3 b4 b5 b6 b7 b8 b9 b10 cI cJ cZ 1 nD nR vs ac now o mt mw zs.length nv dl el rt rv mk)) (va_A (wm y b1 b2 b3 b4 b5 b6 b7 b8 b9 b10 cI cJ cZ th nD nR vs ac now o mt mw zs.length nv dl el rt rv mk) sz)) 0 0 (va_A (wm y b1 b2 b3 b4 b5 b6 b7 b8 b9 b10 cI cJ cZ th nD nR vs ac now o mt mw zs.length nv dl el rt rv mk) sz) := by
  refine Met.ofW (cc := cX1_projected) (maxL := 7) (ret := (some .long)) (by decide) rfl ?_
  intro p e s m args below meth c s₁ B hml hv
  obtain ⟨rfl, hsz, hP, hK, hD0⟩ := hv
  subst hsz
  have hD := hD0.self (sz := s.heap.size)
  generalize hAe : va_A (wm y b1 b2 b3 b4 b5 b6 b7 b8 b9 b10 cI cJ cZ th nD nR vs ac now o mt mw zs.length nv dl el rt rv mk) s.heap.size = A at hD ⊢
  have hA : ∀ q : Nat, s.heap.size ≤ q → A q := fun q h => by rw [← hAe]; exact Or.inr h
  have hS : va_S A s.heap s.heap [] := va_S.rf
  have hx := B.exec
  have hb := B.bytes
  have hr := B.returns
  have hts := atoms_spec (ws := wsX1_projected) B.pre
  have hown : s.vm.findClass RX1 = some m.cls := findClass_of_methodNamed B.named
  have hlocks := B.notSynchronized
  have hall := fun (w : Cond) (h : w ∈ allw) => hts w (List.mem_cons_of_mem _ h)
  have hl := lv_entry ([.ref y, .int i, .long t]) (n := 7) (Nat.le_of_ble_eq_true rfl)
  rw [lg_entry_eq]
  generalize (lg_sl ([.ref y, .int i, .long t]) ++ List.replicate (7 - (lg_sl ([.ref y, .int i, .long t])).length) Slot.unset).toArray = ls at hl ⊢
  have hl : lv_has ls 7 [(0, .ref y), (1, .int i), (2, .long t)] := hl
  refine lv_aload_n hx hb dX1_projected_0 rfl (lv_at hl 0 rfl) ?_
  refine lv_aload_n hx hb dX1_projected_1 rfl (lv_at hl 0 rfl) ?_
  refine lv_iload_n hx hb dX1_projected_2 rfl (lv_at hl 1 rfl) ?_
  refine vp_callSi (W.runV (As := [.int i]) (rest := [.ref y]) ⟨hx, hb, hml, hown, hall⟩ (m_none1 l dC dI y b1 b2 b3 b4 b5 b6 b7 b8 b9 b10 cI cJ cZ th nD nR vs ac now o mt mw nv dl el rt rv mk zs i hbad) (cwV 1 hall gX1_60 rfl rfl rfl (by decide +kernel) ⟨Nat.le_of_ble_eq_true rfl, Nat.le_of_ble_eq_true rfl⟩) ⟨xr_blind, va_recv hK hP (ci := 1) (q0 := 0) rfl rfl, fun U hU hW => ⟨rfl, by rw [hU]; exact hP, va_K.moved hW.alike hK⟩⟩ rfl rfl hl.1 rfl (lv_room (Nat.le_of_ble_eq_true rfl)) dX1_projected_3 ⟨by first | exact Nat.zero_le _ | omega, by first | exact Nat.zero_le _ | omega⟩) (fun v_1 hv_2 => ?_)
  subst hv_2
  refine lv_if_eq (tgt := 13) hx hb dX1_projected_6 (by decide) (fun c_3 => ?_) (fun c_3 => ?_)
  · exact absurd c_3 (by decide)
  · refine lv_iconst (v := 1) hx hb dX1_projected_9 (by decide) ?_
    refine tp_i (y := nI 1) (by decide) ?_
    refine lv_goto (tgt := 27) hx hb dX1_projected_10 (by decide) ?_
    refine va_put (D := (dC, dI)) (ci := 1) (v := .int (nI 1)) (ty := .int) (C := RX1) (T := TX1) (N := 16) hx hb hall inX1 tyX1 tyX1_ok nmX1 hown hK hP hD hS 0 rfl rfl 0 (by decide) (hall _ kw_323) (fun _ h9 => h9) rfl (by decide +kernel) rfl rfl (Nat.le_of_ble_eq_true rfl) dX1_projected_27 (fun H locs hP hD hS => ?_)
    have hP : va_P (dC, dI) vwCl [(y, .inr (1, [.int (nI 1), .int (nI nD), .int (nI nR), .ref b1, .ref b2, .long now, .ref b3, .ref b4, .ref b5, .int (nI zs.length), .ref b6, .ref b7, .int (nI el), .ref b8, .ref b9, .ref b10])), (b1, .inl (cJ, 512, .inr (.inl vs))), (b2, .inl (cZ, 512, .inl (fun j => bI (ac j)))), (b3, .inl (cI, 8192, .inl (fun j => nI (o j)))), (b4, .inl (cJ, 8192, .inr (.inl mt))), (b5, .inl (cJ, 8192, .inr (.inl mw))), (b6, .inl (cJ, 16, .inr (.inl nv))), (b7, .inl (cJ, 16, .inr (.inl dl))), (b8, .inl (cJ, 8208, .inr (.inl rt))), (b9, .inl (cJ, 8208, .inr (.inl rv))), (b10, .inl (cZ, 8208, .inl (fun j => bI (mk j))))] H := hP
    have hD : va_D A [(y, .inr (1, [.int (nI 1), .int (nI nD), .int (nI nR), .ref b1, .ref b2, .long now, .ref b3, .ref b4, .ref b5, .int (nI zs.length), .ref b6, .ref b7, .int (nI el), .ref b8, .ref b9, .ref b10])), (b1, .inl (cJ, 512, .inr (.inl vs))), (b2, .inl (cZ, 512, .inl (fun j => bI (ac j)))), (b3, .inl (cI, 8192, .inl (fun j => nI (o j)))), (b4, .inl (cJ, 8192, .inr (.inl mt))), (b5, .inl (cJ, 8192, .inr (.inl mw))), (b6, .inl (cJ, 16, .inr (.inl nv))), (b7, .inl (cJ, 16, .inr (.inl dl))), (b8, .inl (cJ, 8208, .inr (.inl rt))), (b9, .inl (cJ, 8208, .inr (.inl rv))), (b10, .inl (cZ, 8208, .inl (fun j => bI (mk j))))] := hD
    refine lv_aload_n hx hb dX1_projected_30 rfl (lv_at hl 0 rfl) ?_
    refine va_get (D := (dC, dI)) (ci := 1) (v := .int (nI 1)) (C := RX1) (T := TX1) (N := 16) hx hb hall inX1 hown hK hP 0 rfl rfl 0 (by decide) (hall _ kw_323) (fun _ h9 => h9) rfl dX1_projected_31 ?_
    refine xz_le (tgt := 39) hx hb (by omega) dX1_projected_34 (by decide) (fun c_4 => ?_) (fun c_4 => ?_)
    · exact absurd c_4 (by omega)
    · refine lv_lconst (v := 0) hx hb dX1_projected_37 (by decide) ?_
      exact W.lret (v := 0) hx hb hr (fun t9 ht hW => ⟨⟨0, (), rfl, trivial, by rw [ht]; exact hP, va_K.moved hW.alike hK, hD⟩, hS.F ht⟩) hS.2.2 dX1_projected_38
set_option maxHeartbeats 4000000 in
set_option maxRecDepth 100000 in
theorem m_projected2 (l : Launch) (dC : Nat → ClassId) (dI : Nat → Nat → Nat) (y b1 b2 b3 b4 b5 b6 b7 b8 b9 b10 : Nat) (cI cJ cZ : ClassId) (th nD nR : Nat) (vs : Nat → Int64) (ac : Nat → Bool) (now : Int64) (o : Nat → Nat) (mt mw : Nat → Int64) (nv dl : Nat → Int64) (el : Nat) (rt rv : Nat → Int64) (mk : Nat → Bool) (zs : List ZT) (sz : Nat) (hI : wm_I nD nR el zs) (hZ : wz zs o mt mw) (d : Nat) (hd : d < nD) (t : Int64) (ht : t < now) : Met l yX1_projected wsX1_projected ({ frames := 1, cells := 0, slots := 0, locals := 21 }) (va_Pc [.ref y, .int (nI d), .long t] (fun U => U.heap.size = sz ∧ va_P (dC, dI) vwCl (wm y b1 b2 b3 b4 b5 b6 b7 b8 b9 b10 cI cJ cZ th nD nR vs ac now o mt mw zs.length nv dl el rt rv mk) U.heap ∧ va_K (dC, dI) vwCl [(cI, .int), (cJ, .long), (cZ, .boolean)] U ∧ va_D (fun _ => True) (wm y b1 b2 b3 b4 b5 b6 b7 b8 b9 b10 cI cJ cZ th nD nR vs ac now o mt mw zs.length nv dl el rt rv mk))) (va_Ql (fun (v : Int64) (_ : Unit) => True) (fun _ t9 => va_P (dC, dI) vwCl (wm y b1 b2 b3 b4 b5 b6 b7 b8 b9 b10 cI cJ cZ 2 nD nR vs ac now o mt mw zs.length nv dl el rt rv mk) t9.heap ∧ va_K (dC, dI) vwCl [(cI, .int), (cJ, .long), (cZ, .boolean)] t9 ∧ va_D (va_A (wm y b1 b2 b3 b4 b5 b6 b7 b8 b9 b10 cI cJ cZ th nD nR vs ac now o mt mw zs.length nv dl el rt rv mk) sz) (wm y b1 b2 b3 b4 b5 b6 b7 b8 b9 b10 cI cJ cZ 2 nD nR vs ac now o mt mw zs.length nv dl el rt rv mk)) (va_A (wm y b1 b2 b3 b4 b5 b6 b7 b8 b9 b10 cI cJ cZ th nD nR vs ac now o mt mw zs.length nv dl el rt rv mk) sz)) 0 0 (va_A (wm y b1 b2 b3 b4 b5 b6 b7 b8 b9 b10 cI cJ cZ th nD nR vs ac now o mt mw zs.length nv dl el rt rv mk) sz) := by
  refine Met.ofW (cc := cX1_projected) (maxL := 7) (ret := (some .long)) (by decide) rfl ?_
  intro p e s m args below meth c s₁ B hml hv
  obtain ⟨rfl, hsz, hP, hK, hD0⟩ := hv
  subst hsz
  have hD := hD0.self (sz := s.heap.size)
  generalize hAe : va_A (wm y b1 b2 b3 b4 b5 b6 b7 b8 b9 b10 cI cJ cZ th nD nR vs ac now o mt mw zs.length nv dl el rt rv mk) s.heap.size = A at hD ⊢
  have hA : ∀ q : Nat, s.heap.size ≤ q → A q := fun q h => by rw [← hAe]; exact Or.inr h
  have hS : va_S A s.heap s.heap [] := va_S.rf
  have hx := B.exec
  have hb := B.bytes
  have hr := B.returns
  have hts := atoms_spec (ws := wsX1_projected) B.pre
  have hown : s.vm.findClass RX1 = some m.cls := findClass_of_methodNamed B.named
  have hlocks := B.notSynchronized
  have hall := fun (w : Cond) (h : w ∈ allw) => hts w (List.mem_cons_of_mem _ h)
  have hl := lv_entry ([.ref y, .int (nI d), .long t]) (n := 7) (Nat.le_of_ble_eq_true rfl)
  rw [lg_entry_eq]
  generalize (lg_sl ([.ref y, .int (nI d), .long t]) ++ List.replicate (7 - (lg_sl ([.ref y, .int (nI d), .long t])).length) Slot.unset).toArray = ls at hl ⊢
  have hl : lv_has ls 7 [(0, .ref y), (1, .int (nI d)), (2, .long t)] := hl
  have hI0 := hI
  obtain ⟨hnD1, hnD, hnR1, hnR, hzR, hel, how⟩ := hI
  refine lv_aload_n hx hb dX1_projected_0 rfl (lv_at hl 0 rfl) ?_
  refine lv_aload_n hx hb dX1_projected_1 rfl (lv_at hl 0 rfl) ?_
  refine lv_iload_n hx hb dX1_projected_2 rfl (lv_at hl 1 rfl) ?_
  refine vp_callSi (W.runV (As := [.int (nI d)]) (rest := [.ref y]) ⟨hx, hb, hml, hown, hall⟩ (m_none0 l dC dI y b1 b2 b3 b4 b5 b6 b7 b8 b9 b10 cI cJ cZ th nD nR vs ac now o mt mw nv dl el rt rv mk zs hI0 hZ d hd) (cwV 1 hall gX1_60 rfl rfl rfl (by decide +kernel) ⟨Nat.le_of_ble_eq_true rfl, Nat.le_of_ble_eq_true rfl⟩) ⟨xr_blind, va_recv hK hP (ci := 1) (q0 := 0) rfl rfl, fun U hU hW => ⟨rfl, by rw [hU]; exact hP, va_K.moved hW.alike hK⟩⟩ rfl rfl hl.1 rfl (lv_room (Nat.le_of_ble_eq_true rfl)) dX1_projected_3 ⟨by first | exact Nat.zero_le _ | omega, by first | exact Nat.zero_le _ | omega⟩) (fun v_1 hv_2 => ?_)
  subst hv_2
  refine lv_if_eq (tgt := 13) hx hb dX1_projected_6 (by decide) (fun c_3 => ?_) (fun c_3 => ?_)
  · refine lv_lload_n hx hb dX1_projected_13 rfl (lv_at hl 2 rfl) ?_
    refine lv_aload_n hx hb dX1_projected_14 rfl (lv_at hl 0 rfl) ?_
    refine va_get (D := (dC, dI)) (ci := 1) (v := .long now) (C := RX1) (T := TX1) (N := 16) hx hb hall inX1 hown hK hP 0 rfl rfl 5 (by decide) (hall _ kw_328) (fun _ h9 => h9) rfl dX1_projected_15 ?_
    refine xl_ge (tgt := 26) hx hb dX1_projected_18 dX1_projected_19 (by decide) (fun c_4 => ?_) (fun c_4 => ?_)
    · exact absurd ht (Int64.not_lt.mpr c_4)
    · refine lv_iconst (v := 2) hx hb dX1_projected_22 (by decide) ?_
      refine tp_i (y := nI 2) (by decide) ?_
      refine lv_goto (tgt := 27) hx hb dX1_projected_23 (by decide) ?_
      refine va_put (D := (dC, dI)) (ci := 1) (v := .int (nI 2)) (ty := .int) (C := RX1) (T := TX1) (N := 16) hx hb hall inX1 tyX1 tyX1_ok nmX1 hown hK hP hD hS 0 rfl rfl 0 (by decide) (hall _ kw_323) (fun _ h9 => h9) rfl (by decide +kernel) rfl rfl (Nat.le_of_ble_eq_true rfl) dX1_projected_27 (fun H locs hP hD hS => ?_)
      have hP : va_P (dC, dI) vwCl [(y, .inr (1, [.int (nI 2), .int (nI nD), .int (nI nR), .ref b1, .ref b2, .long now, .ref b3, .ref b4, .ref b5, .int (nI zs.length), .ref b6, .ref b7, .int (nI el), .ref b8, .ref b9, .ref b10])), (b1, .inl (cJ, 512, .inr (.inl vs))), (b2, .inl (cZ, 512, .inl (fun j => bI (ac j)))), (b3, .inl (cI, 8192, .inl (fun j => nI (o j)))), (b4, .inl (cJ, 8192, .inr (.inl mt))), (b5, .inl (cJ, 8192, .inr (.inl mw))), (b6, .inl (cJ, 16, .inr (.inl nv))), (b7, .inl (cJ, 16, .inr (.inl dl))), (b8, .inl (cJ, 8208, .inr (.inl rt))), (b9, .inl (cJ, 8208, .inr (.inl rv))), (b10, .inl (cZ, 8208, .inl (fun j => bI (mk j))))] H := hP
      have hD : va_D A [(y, .inr (1, [.int (nI 2), .int (nI nD), .int (nI nR), .ref b1, .ref b2, .long now, .ref b3, .ref b4, .ref b5, .int (nI zs.length), .ref b6, .ref b7, .int (nI el), .ref b8, .ref b9, .ref b10])), (b1, .inl (cJ, 512, .inr (.inl vs))), (b2, .inl (cZ, 512, .inl (fun j => bI (ac j)))), (b3, .inl (cI, 8192, .inl (fun j => nI (o j)))), (b4, .inl (cJ, 8192, .inr (.inl mt))), (b5, .inl (cJ, 8192, .inr (.inl mw))), (b6, .inl (cJ, 16, .inr (.inl nv))), (b7, .inl (cJ, 16, .inr (.inl dl))), (b8, .inl (cJ, 8208, .inr (.inl rt))), (b9, .inl (cJ, 8208, .inr (.inl rv))), (b10, .inl (cZ, 8208, .inl (fun j => bI (mk j))))] := hD
      refine lv_aload_n hx hb dX1_projected_30 rfl (lv_at hl 0 rfl) ?_
      refine va_get (D := (dC, dI)) (ci := 1) (v := .int (nI 2)) (C := RX1) (T := TX1) (N := 16) hx hb hall inX1 hown hK hP 0 rfl rfl 0 (by decide) (hall _ kw_323) (fun _ h9 => h9) rfl dX1_projected_31 ?_
      refine xz_le (tgt := 39) hx hb (by omega) dX1_projected_34 (by decide) (fun c_5 => ?_) (fun c_5 => ?_)
      · exact absurd c_5 (by omega)
      · refine lv_lconst (v := 0) hx hb dX1_projected_37 (by decide) ?_
        exact W.lret (v := 0) hx hb hr (fun t9 ht hW => ⟨⟨0, (), rfl, trivial, by rw [ht]; exact hP, va_K.moved hW.alike hK, hD⟩, hS.F ht⟩) hS.2.2 dX1_projected_38
  · exact absurd rfl c_3
set_option maxHeartbeats 4000000 in
set_option maxRecDepth 100000 in
theorem m_projected0 (l : Launch) (dC : Nat → ClassId) (dI : Nat → Nat → Nat) (y b1 b2 b3 b4 b5 b6 b7 b8 b9 b10 : Nat) (cI cJ cZ : ClassId) (th nD nR : Nat) (vs : Nat → Int64) (ac : Nat → Bool) (now : Int64) (o : Nat → Nat) (mt mw : Nat → Int64) (nv dl : Nat → Int64) (el : Nat) (rt rv : Nat → Int64) (mk : Nat → Bool) (zs : List ZT) (sz : Nat) (hI : wm_I nD nR el zs) (hZ : wz zs o mt mw) (d : Nat) (hd : d < nD) (t : Int64) (ht : ¬ t < now) : Met l yX1_projected wsX1_projected ({ frames := 1, cells := 0, slots := 0, locals := 21 }) (va_Pc [.ref y, .int (nI d), .long t] (fun U => U.heap.size = sz ∧ va_P (dC, dI) vwCl (wm y b1 b2 b3 b4 b5 b6 b7 b8 b9 b10 cI cJ cZ th nD nR vs ac now o mt mw zs.length nv dl el rt rv mk) U.heap ∧ va_K (dC, dI) vwCl [(cI, .int), (cJ, .long), (cZ, .boolean)] U ∧ va_D (fun _ => True) (wm y b1 b2 b3 b4 b5 b6 b7 b8 b9 b10 cI cJ cZ th nD nR vs ac now o mt mw zs.length nv dl el rt rv mk))) (va_Ql (fun (v : Int64) (_ : Unit) => v = wpj d t zs (vs d)) (fun _ t9 => va_P (dC, dI) vwCl (wm y b1 b2 b3 b4 b5 b6 b7 b8 b9 b10 cI cJ cZ 0 nD nR vs ac now o mt mw zs.length nv dl el rt rv mk) t9.heap ∧ va_K (dC, dI) vwCl [(cI, .int), (cJ, .long), (cZ, .boolean)] t9 ∧ va_D (va_A (wm y b1 b2 b3 b4 b5 b6 b7 b8 b9 b10 cI cJ cZ th nD nR vs ac now o mt mw zs.length nv dl el rt rv mk) sz) (wm y b1 b2 b3 b4 b5 b6 b7 b8 b9 b10 cI cJ cZ 0 nD nR vs ac now o mt mw zs.length nv dl el rt rv mk)) (va_A (wm y b1 b2 b3 b4 b5 b6 b7 b8 b9 b10 cI cJ cZ th nD nR vs ac now o mt mw zs.length nv dl el rt rv mk) sz)) 0 0 (va_A (wm y b1 b2 b3 b4 b5 b6 b7 b8 b9 b10 cI cJ cZ th nD nR vs ac now o mt mw zs.length nv dl el rt rv mk) sz) := by
  refine Met.ofW (cc := cX1_projected) (maxL := 7) (ret := (some .long)) (by decide) rfl ?_
  intro p e s m args below meth c s₁ B hml hv
  obtain ⟨rfl, hsz, hP, hK, hD0⟩ := hv
  subst hsz
  have hD := hD0.self (sz := s.heap.size)
  generalize hAe : va_A (wm y b1 b2 b3 b4 b5 b6 b7 b8 b9 b10 cI cJ cZ th nD nR vs ac now o mt mw zs.length nv dl el rt rv mk) s.heap.size = A at hD ⊢
  have hA : ∀ q : Nat, s.heap.size ≤ q → A q := fun q h => by rw [← hAe]; exact Or.inr h
  have hS : va_S A s.heap s.heap [] := va_S.rf
  have hx := B.exec
  have hb := B.bytes
  have hr := B.returns
  have hts := atoms_spec (ws := wsX1_projected) B.pre
  have hown : s.vm.findClass RX1 = some m.cls := findClass_of_methodNamed B.named
  have hlocks := B.notSynchronized
  have hall := fun (w : Cond) (h : w ∈ allw) => hts w (List.mem_cons_of_mem _ h)
  have hl := lv_entry ([.ref y, .int (nI d), .long t]) (n := 7) (Nat.le_of_ble_eq_true rfl)
  rw [lg_entry_eq]
  generalize (lg_sl ([.ref y, .int (nI d), .long t]) ++ List.replicate (7 - (lg_sl ([.ref y, .int (nI d), .long t])).length) Slot.unset).toArray = ls at hl ⊢
  have hl : lv_has ls 7 [(0, .ref y), (1, .int (nI d)), (2, .long t)] := hl
  have hI0 := hI
  obtain ⟨hnD1, hnD, hnR1, hnR, hzR, hel, how⟩ := hI
  refine lv_aload_n hx hb dX1_projected_0 rfl (lv_at hl 0 rfl) ?_
  refine lv_aload_n hx hb dX1_projected_1 rfl (lv_at hl 0 rfl) ?_
  refine lv_iload_n hx hb dX1_projected_2 rfl (lv_at hl 1 rfl) ?_
  refine vp_callSi (W.runV (As := [.int (nI d)]) (rest := [.ref y]) ⟨hx, hb, hml, hown, hall⟩ (m_none0 l dC dI y b1 b2 b3 b4 b5 b6 b7 b8 b9 b10 cI cJ cZ th nD nR vs ac now o mt mw nv dl el rt rv mk zs hI0 hZ d hd) (cwV 1 hall gX1_60 rfl rfl rfl (by decide +kernel) ⟨Nat.le_of_ble_eq_true rfl, Nat.le_of_ble_eq_true rfl⟩) ⟨xr_blind, va_recv hK hP (ci := 1) (q0 := 0) rfl rfl, fun U hU hW => ⟨rfl, by rw [hU]; exact hP, va_K.moved hW.alike hK⟩⟩ rfl rfl hl.1 rfl (lv_room (Nat.le_of_ble_eq_true rfl)) dX1_projected_3 ⟨by first | exact Nat.zero_le _ | omega, by first | exact Nat.zero_le _ | omega⟩) (fun v_1 hv_2 => ?_)
  subst hv_2
  refine lv_if_eq (tgt := 13) hx hb dX1_projected_6 (by decide) (fun c_3 => ?_) (fun c_3 => ?_)
  · refine lv_lload_n hx hb dX1_projected_13 rfl (lv_at hl 2 rfl) ?_
    refine lv_aload_n hx hb dX1_projected_14 rfl (lv_at hl 0 rfl) ?_
    refine va_get (D := (dC, dI)) (ci := 1) (v := .long now) (C := RX1) (T := TX1) (N := 16) hx hb hall inX1 hown hK hP 0 rfl rfl 5 (by decide) (hall _ kw_328) (fun _ h9 => h9) rfl dX1_projected_15 ?_
    refine xl_ge (tgt := 26) hx hb dX1_projected_18 dX1_projected_19 (by decide) (fun c_4 => ?_) (fun c_4 => ?_)
    · refine lv_iconst (v := 0) hx hb dX1_projected_26 (by decide) ?_
      refine tp_i (y := nI 0) nI_0.symm ?_
      refine va_put (D := (dC, dI)) (ci := 1) (v := .int (nI 0)) (ty := .int) (C := RX1) (T := TX1) (N := 16) hx hb hall inX1 tyX1 tyX1_ok nmX1 hown hK hP hD hS 0 rfl rfl 0 (by decide) (hall _ kw_323) (fun _ h9 => h9) rfl (by decide +kernel) rfl rfl (Nat.le_of_ble_eq_true rfl) dX1_projected_27 (fun H locs hP hD hS => ?_)
      have hP : va_P (dC, dI) vwCl [(y, .inr (1, [.int (nI 0), .int (nI nD), .int (nI nR), .ref b1, .ref b2, .long now, .ref b3, .ref b4, .ref b5, .int (nI zs.length), .ref b6, .ref b7, .int (nI el), .ref b8, .ref b9, .ref b10])), (b1, .inl (cJ, 512, .inr (.inl vs))), (b2, .inl (cZ, 512, .inl (fun j => bI (ac j)))), (b3, .inl (cI, 8192, .inl (fun j => nI (o j)))), (b4, .inl (cJ, 8192, .inr (.inl mt))), (b5, .inl (cJ, 8192, .inr (.inl mw))), (b6, .inl (cJ, 16, .inr (.inl nv))), (b7, .inl (cJ, 16, .inr (.inl dl))), (b8, .inl (cJ, 8208, .inr (.inl rt))), (b9, .inl (cJ, 8208, .inr (.inl rv))), (b10, .inl (cZ, 8208, .inl (fun j => bI (mk j))))] H := hP
      have hD : va_D A [(y, .inr (1, [.int (nI 0), .int (nI nD), .int (nI nR), .ref b1, .ref b2, .long now, .ref b3, .ref b4, .ref b5, .int (nI zs.length), .ref b6, .ref b7, .int (nI el), .ref b8, .ref b9, .ref b10])), (b1, .inl (cJ, 512, .inr (.inl vs))), (b2, .inl (cZ, 512, .inl (fun j => bI (ac j)))), (b3, .inl (cI, 8192, .inl (fun j => nI (o j)))), (b4, .inl (cJ, 8192, .inr (.inl mt))), (b5, .inl (cJ, 8192, .inr (.inl mw))), (b6, .inl (cJ, 16, .inr (.inl nv))), (b7, .inl (cJ, 16, .inr (.inl dl))), (b8, .inl (cJ, 8208, .inr (.inl rt))), (b9, .inl (cJ, 8208, .inr (.inl rv))), (b10, .inl (cZ, 8208, .inl (fun j => bI (mk j))))] := hD
      refine lv_aload_n hx hb dX1_projected_30 rfl (lv_at hl 0 rfl) ?_
      refine va_get (D := (dC, dI)) (ci := 1) (v := .int (nI 0)) (C := RX1) (T := TX1) (N := 16) hx hb hall inX1 hown hK hP 0 rfl rfl 0 (by decide) (hall _ kw_323) (fun _ h9 => h9) rfl dX1_projected_31 ?_
      refine xz_le (tgt := 39) hx hb (by omega) dX1_projected_34 (by decide) (fun c_5 => ?_) (fun c_5 => ?_)
      · refine lv_aload_n hx hb dX1_projected_39 rfl (lv_at hl 0 rfl) ?_
        refine va_get (D := (dC, dI)) (ci := 1) (v := .ref b1) (C := RX1) (T := TX1) (N := 16) hx hb hall inX1 hown hK hP 0 rfl rfl 3 (by decide) (hall _ kw_326) (fun _ h9 => h9) rfl dX1_projected_40 ?_
        refine lv_iload_n hx hb dX1_projected_43 rfl (lv_at hl 1 rfl) ?_
        refine xa_lald hx hb hK hP 1 1 rfl rfl (by omega) (by omega) dX1_projected_44 ?_
        refine lv_lstore (lv' := [(4, .long (vs d)), (0, .ref y), (1, .int (nI d)), (2, .long t)]) hx hb dX1_projected_45 hl (by decide) rfl (fun ls hl => ?_)
        refine lv_iconst (v := 0) hx hb dX1_projected_47 (by decide) ?_
        refine tp_i (y := nI 0) nI_0.symm ?_
        refine lv_istore (lv' := [(6, .int (nI 0)), (4, .long (vs d)), (0, .ref y), (1, .int (nI d)), (2, .long t)]) hx hb dX1_projected_48 hl (by decide) rfl (fun ls hl => ?_)
        have hloop : ∀ (ss : List ZT) (k : Nat) (v0 : Int64) (H : Heap) (locs : List Loc) (ls : Array Slot), zs.drop k = ss → k ≤ zs.length → wpj d t ss v0 = wpj d t zs (vs d) → va_P (dC, dI) vwCl [(y, .inr (1, [.int (nI 0), .int (nI nD), .int (nI nR), .ref b1, .ref b2, .long now, .ref b3, .ref b4, .ref b5, .int (nI zs.length), .ref b6, .ref b7, .int (nI el), .ref b8, .ref b9, .ref b10])), (b1, .inl (cJ, 512, .inr (.inl vs))), (b2, .inl (cZ, 512, .inl (fun j => bI (ac j)))), (b3, .inl (cI, 8192, .inl (fun j => nI (o j)))), (b4, .inl (cJ, 8192, .inr (.inl mt))), (b5, .inl (cJ, 8192, .inr (.inl mw))), (b6, .inl (cJ, 16, .inr (.inl nv))), (b7, .inl (cJ, 16, .inr (.inl dl))), (b8, .inl (cJ, 8208, .inr (.inl rt))), (b9, .inl (cJ, 8208, .inr (.inl rv))), (b10, .inl (cZ, 8208, .inl (fun j => bI (mk j))))] H → va_D A [(y, .inr (1, [.int (nI 0), .int (nI nD), .int (nI nR), .ref b1, .ref b2, .long now, .ref b3, .ref b4, .ref b5, .int (nI zs.length), .ref b6, .ref b7, .int (nI el), .ref b8, .ref b9, .ref b10])), (b1, .inl (cJ, 512, .inr (.inl vs))), (b2, .inl (cZ, 512, .inl (fun j => bI (ac j)))), (b3, .inl (cI, 8192, .inl (fun j => nI (o j)))), (b4, .inl (cJ, 8192, .inr (.inl mt))), (b5, .inl (cJ, 8192, .inr (.inl mw))), (b6, .inl (cJ, 16, .inr (.inl nv))), (b7, .inl (cJ, 16, .inr (.inl dl))), (b8, .inl (cJ, 8208, .inr (.inl rt))), (b9, .inl (cJ, 8208, .inr (.inl rv))), (b10, .inl (cZ, 8208, .inl (fun j => bI (mk j))))] → va_S A s.heap H locs → lv_has ls 7 [(0, .ref y), (1, .int (nI d)), (2, .long t), (4, .long v0), (6, .int (nI k))] → W p l e (headSpec wsX1_projected ({ frames := 1, cells := 0, slots := 0, locals := 21 })).room s m (([.ref y, .int (nI d), .long t] : List Value).toArray) below meth c H locs 0 0 (MQ below (va_Ql (fun (v : Int64) (_ : Unit) => v = wpj d t zs (vs d)) (fun _ t9 => va_P (dC, dI) vwCl (wm y b1 b2 b3 b4 b5 b6 b7 b8 b9 b10 cI cJ cZ 0 nD nR vs ac now o mt mw zs.length nv dl el rt rv mk) t9.heap ∧ va_K (dC, dI) vwCl [(cI, .int), (cJ, .long), (cZ, .boolean)] t9 ∧ va_D A (wm y b1 b2 b3 b4 b5 b6 b7 b8 b9 b10 cI cJ cZ 0 nD nR vs ac now o mt mw zs.length nv dl el rt rv mk)) A) (([.ref y, .int (nI d), .long t] : List Value).toArray) s 0 0 A) (F0 m 50 ls []) := by
          intro ss
          induction ss with
          | nil =>
            intro k v0 H locs ls hss hkl hw hP hD hS hl
            have hk := wz_nil hss
            refine lv_iload hx hb dX1_projected_50 (lv_at hl 4 rfl) ?_
            refine lv_aload_n hx hb dX1_projected_52 rfl (lv_at hl 0 rfl) ?_
            refine va_get (D := (dC, dI)) (ci := 1) (v := .int (nI zs.length)) (C := RX1) (T := TX1) (N := 16) hx hb hall inX1 hown hK hP 0 rfl rfl 9 (by decide) (hall _ kw_332) (fun _ h9 => h9) rfl dX1_projected_53 ?_
            refine xc_ge (tgt := 102) hx hb (by omega) (by omega) dX1_projected_56 (by decide) (fun c_6 => ?_) (fun c_6 => ?_)
            · refine lv_lload hx hb dX1_projected_102 (lv_at hl 3 rfl) ?_
              exact W.lret (v := v0) hx hb hr (fun t9 ht hW => ⟨⟨v0, (), rfl, hw, by rw [ht]; exact hP, va_K.moved hW.alike hK, hD⟩, hS.F ht⟩) hS.2.2 dX1_projected_104
            · exact absurd c_6 (by omega)
          | cons z tl ih =>
            intro k v0 H locs ls hss hkl hw hP hD hS hl
            obtain ⟨hk, hzk, htl⟩ := wz_drop hss
            obtain ⟨ez1, ez2, ez3⟩ := hZ k z hzk
            have hod : o k < 512 := by have := how z (List.mem_of_getElem? hzk); omega
            refine lv_iload hx hb dX1_projected_50 (lv_at hl 4 rfl) ?_
            refine lv_aload_n hx hb dX1_projected_52 rfl (lv_at hl 0 rfl) ?_
            refine va_get (D := (dC, dI)) (ci := 1) (v := .int (nI zs.length)) (C := RX1) (T := TX1) (N := 16) hx hb hall inX1 hown hK hP 0 rfl rfl 9 (by decide) (hall _ kw_332) (fun _ h9 => h9) rfl dX1_projected_53 ?_
            refine xc_ge (tgt := 102) hx hb (by omega) (by omega) dX1_projected_56 (by decide) (fun c_7 => ?_) (fun c_7 => ?_)
            · exact absurd c_7 (by omega)
            · refine lv_aload_n hx hb dX1_projected_59 rfl (lv_at hl 0 rfl) ?_
              refine va_get (D := (dC, dI)) (ci := 1) (v := .ref b3) (C := RX1) (T := TX1) (N := 16) hx hb hall inX1 hown hK hP 0 rfl rfl 6 (by decide) (hall _ kw_329) (fun _ h9 => h9) rfl dX1_projected_60 ?_
              refine lv_iload hx hb dX1_projected_63 (lv_at hl 4 rfl) ?_
              refine xa_iald hx hb hK hP 3 0 rfl rfl (by omega) (by omega) dX1_projected_65 ?_
              refine lv_iload_n hx hb dX1_projected_66 rfl (lv_at hl 1 rfl) ?_
              refine xc_ne (tgt := 92) hx hb (by omega) (by omega) dX1_projected_67 (by decide) (fun c_8 => ?_) (fun c_8 => ?_)
              · have c_A := c_8
                refine lv_lload hx hb dX1_projected_92 (lv_at hl 3 rfl) ?_
                refine lv_lstore (lv' := [(4, .long v0), (0, .ref y), (1, .int (nI d)), (2, .long t), (6, .int (nI k))]) hx hb dX1_projected_94 hl (by decide) rfl (fun ls hl => ?_)
                refine lv_iinc (v := nI (k + 1)) (lv' := [(6, .int (nI (k + 1))), (4, .long v0), (0, .ref y), (1, .int (nI d)), (2, .long t)]) hx hb dX1_projected_96 hl (k := 4) rfl (nI_1 k) (by decide) rfl (fun ls hl => ?_)
                refine lv_goto (tgt := 50) hx hb dX1_projected_99 (by decide) ?_
                exact ih (k + 1) v0 H locs ls htl (by omega) ((congrArg (wpj d t tl) ((if_neg (fun q => by first | exact c_A (ez1.trans q.1) | exact absurd (ez2 ▸ c_B) (Int64.not_lt.mpr q.2))).symm)).trans hw) hP hD hS (lv_sub hl [2, 3, 4, 1, 0] rfl)
              · have c_A := c_8
                refine lv_aload_n hx hb dX1_projected_70 rfl (lv_at hl 0 rfl) ?_
                refine va_get (D := (dC, dI)) (ci := 1) (v := .ref b4) (C := RX1) (T := TX1) (N := 16) hx hb hall inX1 hown hK hP 0 rfl rfl 7 (by decide) (hall _ kw_330) (fun _ h9 => h9) rfl dX1_projected_71 ?_
                refine lv_iload hx hb dX1_projected_74 (lv_at hl 4 rfl) ?_
                refine xa_lald hx hb hK hP 4 1 rfl rfl (by omega) (by omega) dX1_projected_76 ?_
                refine lv_lload_n hx hb dX1_projected_77 rfl (lv_at hl 2 rfl) ?_
                refine xl_gt (tgt := 92) hx hb dX1_projected_78 dX1_projected_79 (by decide) (fun c_9 => ?_) (fun c_9 => ?_)
                · have c_B := c_9
                  refine lv_lload hx hb dX1_projected_92 (lv_at hl 3 rfl) ?_
                  refine lv_lstore (lv' := [(4, .long v0), (0, .ref y), (1, .int (nI d)), (2, .long t), (6, .int (nI k))]) hx hb dX1_projected_94 hl (by decide) rfl (fun ls hl => ?_)
                  refine lv_iinc (v := nI (k + 1)) (lv' := [(6, .int (nI (k + 1))), (4, .long v0), (0, .ref y), (1, .int (nI d)), (2, .long t)]) hx hb dX1_projected_96 hl (k := 4) rfl (nI_1 k) (by decide) rfl (fun ls hl => ?_)
                  refine lv_goto (tgt := 50) hx hb dX1_projected_99 (by decide) ?_
                  exact ih (k + 1) v0 H locs ls htl (by omega) ((congrArg (wpj d t tl) ((if_neg (fun q => by first | exact c_A (ez1.trans q.1) | exact absurd (ez2 ▸ c_B) (Int64.not_lt.mpr q.2))).symm)).trans hw) hP hD hS (lv_sub hl [2, 3, 4, 1, 0] rfl)
                · have c_B := c_9
                  refine lv_aload_n hx hb dX1_projected_82 rfl (lv_at hl 0 rfl) ?_
                  refine va_get (D := (dC, dI)) (ci := 1) (v := .ref b5) (C := RX1) (T := TX1) (N := 16) hx hb hall inX1 hown hK hP 0 rfl rfl 8 (by decide) (hall _ kw_331) (fun _ h9 => h9) rfl dX1_projected_83 ?_
                  refine lv_iload hx hb dX1_projected_86 (lv_at hl 4 rfl) ?_
                  refine xa_lald hx hb hK hP 5 1 rfl rfl (by omega) (by omega) dX1_projected_88 ?_
                  refine lv_goto (tgt := 94) hx hb dX1_projected_89 (by decide) ?_
                  refine lv_lstore (lv' := [(4, .long (mw k)), (0, .ref y), (1, .int (nI d)), (2, .long t), (6, .int (nI k))]) hx hb dX1_projected_94 hl (by decide) rfl (fun ls hl => ?_)
                  refine lv_iinc (v := nI (k + 1)) (lv' := [(6, .int (nI (k + 1))), (4, .long (mw k)), (0, .ref y), (1, .int (nI d)), (2, .long t)]) hx hb dX1_projected_96 hl (k := 4) rfl (nI_1 k) (by decide) rfl (fun ls hl => ?_)
                  refine lv_goto (tgt := 50) hx hb dX1_projected_99 (by decide) ?_
                  exact ih (k + 1) (mw k) H locs ls htl (by omega) ((congrArg (wpj d t tl) (((if_pos ⟨ez1.symm.trans c_A, ez2 ▸ Int64.not_lt.mp c_B⟩).trans ez3.symm).symm)).trans hw) hP hD hS (lv_sub hl [2, 3, 4, 1, 0] rfl)
        exact hloop zs 0 (vs d) H locs ls rfl (by omega) rfl hP hD hS (lv_sub hl [2, 3, 4, 1, 0] rfl)
      · exact absurd c_5 (by omega)
    · exact absurd (Int64.not_le.mp c_4) ht
  · exact absurd rfl c_3
set_option maxHeartbeats 4000000 in
set_option maxRecDepth 100000 in
theorem m_active0 (l : Launch) (dC : Nat → ClassId) (dI : Nat → Nat → Nat) (y b1 b2 b3 b4 b5 b6 b7 b8 b9 b10 : Nat) (cI cJ cZ : ClassId) (th nD nR : Nat) (vs : Nat → Int64) (ac : Nat → Bool) (now : Int64) (o : Nat → Nat) (mt mw : Nat → Int64) (nv dl : Nat → Int64) (el : Nat) (rt rv : Nat → Int64) (mk : Nat → Bool) (zs : List ZT) (sz : Nat) (hI : wm_I nD nR el zs) (hZ : wz zs o mt mw) (q : Nat) (hq : q < 2 ^ 31) : Met l yX1_active wsX1_active ({ frames := 0, cells := 0, slots := 0, locals := 0 }) (va_Pc [.ref y, .int (nI q)] (fun U => U.heap.size = sz ∧ va_P (dC, dI) vwCl (wm y b1 b2 b3 b4 b5 b6 b7 b8 b9 b10 cI cJ cZ th nD nR vs ac now o mt mw zs.length nv dl el rt rv mk) U.heap ∧ va_K (dC, dI) vwCl [(cI, .int), (cJ, .long), (cZ, .boolean)] U ∧ va_D (fun _ => True) (wm y b1 b2 b3 b4 b5 b6 b7 b8 b9 b10 cI cJ cZ th nD nR vs ac now o mt mw zs.length nv dl el rt rv mk))) (va_Qi (fun (v : Int32) (_ : Unit) => v = wac ac q nD 0 0) (fun _ t9 => va_P (dC, dI) vwCl (wm y b1 b2 b3 b4 b5 b6 b7 b8 b9 b10 cI cJ cZ 0 nD nR vs ac now o mt mw zs.length nv dl el rt rv mk) t9.heap ∧ va_K (dC, dI) vwCl [(cI, .int), (cJ, .long), (cZ, .boolean)] t9 ∧ va_D (va_A (wm y b1 b2 b3 b4 b5 b6 b7 b8 b9 b10 cI cJ cZ th nD nR vs ac now o mt mw zs.length nv dl el rt rv mk) sz) (wm y b1 b2 b3 b4 b5 b6 b7 b8 b9 b10 cI cJ cZ 0 nD nR vs ac now o mt mw zs.length nv dl el rt rv mk)) (va_A (wm y b1 b2 b3 b4 b5 b6 b7 b8 b9 b10 cI cJ cZ th nD nR vs ac now o mt mw zs.length nv dl el rt rv mk) sz)) 0 0 (va_A (wm y b1 b2 b3 b4 b5 b6 b7 b8 b9 b10 cI cJ cZ th nD nR vs ac now o mt mw zs.length nv dl el rt rv mk) sz) := by
  refine Met.ofW (cc := cX1_active) (maxL := 4) (ret := (some .int)) (by decide) rfl ?_
  intro p e s m args below meth c s₁ B hml hv
  obtain ⟨rfl, hsz, hP, hK, hD0⟩ := hv
  subst hsz
  have hD := hD0.self (sz := s.heap.size)
  generalize hAe : va_A (wm y b1 b2 b3 b4 b5 b6 b7 b8 b9 b10 cI cJ cZ th nD nR vs ac now o mt mw zs.length nv dl el rt rv mk) s.heap.size = A at hD ⊢
  have hA : ∀ q : Nat, s.heap.size ≤ q → A q := fun q h => by rw [← hAe]; exact Or.inr h
  have hS : va_S A s.heap s.heap [] := va_S.rf
  have hx := B.exec
  have hb := B.bytes
  have hr := B.returns
  have hts := atoms_spec (ws := wsX1_active) B.pre
  have hown : s.vm.findClass RX1 = some m.cls := findClass_of_methodNamed B.named
  have hlocks := B.notSynchronized
  have hall := fun (w : Cond) (h : w ∈ allw) => hts w (List.mem_cons_of_mem _ h)
  have hl := lv_entry ([.ref y, .int (nI q)]) (n := 4) (Nat.le_of_ble_eq_true rfl)
  rw [lg_entry_eq]
  generalize (lg_sl ([.ref y, .int (nI q)]) ++ List.replicate (4 - (lg_sl ([.ref y, .int (nI q)])).length) Slot.unset).toArray = ls at hl ⊢
  have hl : lv_has ls 4 [(0, .ref y), (1, .int (nI q))] := hl
  obtain ⟨hnD1, hnD, hnR1, hnR, hzR, hel, how⟩ := hI
  refine lv_aload_n hx hb dX1_active_0 rfl (lv_at hl 0 rfl) ?_
  refine lv_iconst (v := 0) hx hb dX1_active_1 (by decide) ?_
  refine tp_i (y := nI 0) nI_0.symm ?_
  refine va_put (D := (dC, dI)) (ci := 1) (v := .int (nI 0)) (ty := .int) (C := RX1) (T := TX1) (N := 16) hx hb hall inX1 tyX1 tyX1_ok nmX1 hown hK hP hD hS 0 rfl rfl 0 (by decide) (hall _ kw_323) (fun _ h9 => h9) rfl (by decide +kernel) rfl rfl (Nat.le_of_ble_eq_true rfl) dX1_active_2 (fun H locs hP hD hS => ?_)
  have hP : va_P (dC, dI) vwCl [(y, .inr (1, [.int (nI 0), .int (nI nD), .int (nI nR), .ref b1, .ref b2, .long now, .ref b3, .ref b4, .ref b5, .int (nI zs.length), .ref b6, .ref b7, .int (nI el), .ref b8, .ref b9, .ref b10])), (b1, .inl (cJ, 512, .inr (.inl vs))), (b2, .inl (cZ, 512, .inl (fun j => bI (ac j)))), (b3, .inl (cI, 8192, .inl (fun j => nI (o j)))), (b4, .inl (cJ, 8192, .inr (.inl mt))), (b5, .inl (cJ, 8192, .inr (.inl mw))), (b6, .inl (cJ, 16, .inr (.inl nv))), (b7, .inl (cJ, 16, .inr (.inl dl))), (b8, .inl (cJ, 8208, .inr (.inl rt))), (b9, .inl (cJ, 8208, .inr (.inl rv))), (b10, .inl (cZ, 8208, .inl (fun j => bI (mk j))))] H := hP
  have hD : va_D A [(y, .inr (1, [.int (nI 0), .int (nI nD), .int (nI nR), .ref b1, .ref b2, .long now, .ref b3, .ref b4, .ref b5, .int (nI zs.length), .ref b6, .ref b7, .int (nI el), .ref b8, .ref b9, .ref b10])), (b1, .inl (cJ, 512, .inr (.inl vs))), (b2, .inl (cZ, 512, .inl (fun j => bI (ac j)))), (b3, .inl (cI, 8192, .inl (fun j => nI (o j)))), (b4, .inl (cJ, 8192, .inr (.inl mt))), (b5, .inl (cJ, 8192, .inr (.inl mw))), (b6, .inl (cJ, 16, .inr (.inl nv))), (b7, .inl (cJ, 16, .inr (.inl dl))), (b8, .inl (cJ, 8208, .inr (.inl rt))), (b9, .inl (cJ, 8208, .inr (.inl rv))), (b10, .inl (cZ, 8208, .inl (fun j => bI (mk j))))] := hD
  refine lv_iconst (v := 0) hx hb dX1_active_5 (by decide) ?_
  refine tp_i (y := nI 0) nI_0.symm ?_
  refine lv_istore_n (lv' := [(2, .int (nI 0)), (0, .ref y), (1, .int (nI q))]) hx hb dX1_active_6 rfl hl (by decide) rfl (fun ls hl => ?_)
  refine lv_iconst (v := 0) hx hb dX1_active_7 (by decide) ?_
  refine tp_i (y := nI 0) nI_0.symm ?_
  refine lv_istore_n (lv' := [(3, .int (nI 0)), (2, .int (nI 0)), (0, .ref y), (1, .int (nI q))]) hx hb dX1_active_8 rfl hl (by decide) rfl (fun ls hl => ?_)
  have hloop : ∀ (n k c0 : Nat) (ls : Array Slot), k + n = nD → c0 ≤ k → wac ac q n k c0 = wac ac q nD 0 0 → lv_has ls 4 [(0, .ref y), (1, .int (nI q)), (2, .int (nI c0)), (3, .int (nI k))] → W p l e (headSpec wsX1_active ({ frames := 0, cells := 0, slots := 0, locals := 0 })).room s m (([.ref y, .int (nI q)] : List Value).toArray) below meth c H locs 0 0 (MQ below (va_Qi (fun (v : Int32) (_ : Unit) => v = wac ac q nD 0 0) (fun _ t9 => va_P (dC, dI) vwCl (wm y b1 b2 b3 b4 b5 b6 b7 b8 b9 b10 cI cJ cZ 0 nD nR vs ac now o mt mw zs.length nv dl el rt rv mk) t9.heap ∧ va_K (dC, dI) vwCl [(cI, .int), (cJ, .long), (cZ, .boolean)] t9 ∧ va_D A (wm y b1 b2 b3 b4 b5 b6 b7 b8 b9 b10 cI cJ cZ 0 nD nR vs ac now o mt mw zs.length nv dl el rt rv mk)) A) (([.ref y, .int (nI q)] : List Value).toArray) s 0 0 A) (F0 m 9 ls []) := by
    intro n
    induction n with
    | zero =>
      intro k c0 ls hk hck hw hl
      refine lv_iload_n hx hb dX1_active_9 rfl (lv_at hl 3 rfl) ?_
      refine lv_aload_n hx hb dX1_active_10 rfl (lv_at hl 0 rfl) ?_
      refine va_get (D := (dC, dI)) (ci := 1) (v := .int (nI nD)) (C := RX1) (T := TX1) (N := 16) hx hb hall inX1 hown hK hP 0 rfl rfl 1 (by decide) (hall _ kw_324) (fun _ h9 => h9) rfl dX1_active_11 ?_
      refine xc_ge (tgt := 46) hx hb (by omega) (by omega) dX1_active_14 (by decide) (fun c_1 => ?_) (fun c_1 => ?_)
      · refine lv_iconst (v := (-1)) hx hb dX1_active_46 (by decide) ?_
        exact W.iret (v := (-1)) hx hb hr (fun t9 ht hW => ⟨⟨(-1), (), rfl, by rw [← hw]; rfl, by rw [ht]; exact hP, va_K.moved hW.alike hK, hD⟩, hS.F ht⟩) hS.2.2 dX1_active_47
      · exact absurd c_1 (by omega)
    | succ n ih =>
      intro k c0 ls hk hck hw hl
      refine lv_iload_n hx hb dX1_active_9 rfl (lv_at hl 3 rfl) ?_
      refine lv_aload_n hx hb dX1_active_10 rfl (lv_at hl 0 rfl) ?_
      refine va_get (D := (dC, dI)) (ci := 1) (v := .int (nI nD)) (C := RX1) (T := TX1) (N := 16) hx hb hall inX1 hown hK hP 0 rfl rfl 1 (by decide) (hall _ kw_324) (fun _ h9 => h9) rfl dX1_active_11 ?_
      refine xc_ge (tgt := 46) hx hb (by omega) (by omega) dX1_active_14 (by decide) (fun c_2 => ?_) (fun c_2 => ?_)
      · exact absurd c_2 (by omega)
      · refine lv_iload_n hx hb dX1_active_17 rfl (lv_at hl 1 rfl) ?_
        refine lv_if_lt (tgt := 46) hx hb dX1_active_18 (by decide) (fun c_3 => ?_) (fun c_3 => ?_)
        · exact absurd c_3 (nI_pos (by omega))
        · refine lv_aload_n hx hb dX1_active_21 rfl (lv_at hl 0 rfl) ?_
          refine va_get (D := (dC, dI)) (ci := 1) (v := .ref b2) (C := RX1) (T := TX1) (N := 16) hx hb hall inX1 hown hK hP 0 rfl rfl 4 (by decide) (hall _ kw_327) (fun _ h9 => h9) rfl dX1_active_22 ?_
          refine lv_iload_n hx hb dX1_active_25 rfl (lv_at hl 3 rfl) ?_
          refine xa_zald hx hb hK hP 2 2 rfl rfl (by omega) (by omega) dX1_active_26 ?_
          refine xb_eq (tgt := 40) hx hb dX1_active_27 (by decide) (fun c_4 => ?_) (fun c_4 => ?_)
          · have c_A := c_4
            refine lv_iinc (v := nI (k + 1)) (lv' := [(3, .int (nI (k + 1))), (0, .ref y), (1, .int (nI q)), (2, .int (nI c0))]) hx hb dX1_active_40 hl (k := 3) rfl (nI_1 k) (by decide) rfl (fun ls hl => ?_)
            refine lv_goto (tgt := 9) hx hb dX1_active_43 (by decide) ?_
            exact ih (k + 1) (c0) ls (by omega) (by omega) (by rw [← hw]; show _ = if ac k = true then _ else _; rw [if_neg (by rw [c_A]; decide)]) (lv_sub hl [1, 2, 3, 0] rfl)
          · have c_A := c_4
            refine lv_iload_n hx hb dX1_active_30 rfl (lv_at hl 2 rfl) ?_
            refine lv_iload_n hx hb dX1_active_31 rfl (lv_at hl 1 rfl) ?_
            refine xc_ne (tgt := 37) hx hb (by omega) (by omega) dX1_active_32 (by decide) (fun c_5 => ?_) (fun c_5 => ?_)
            · have c_B := c_5
              refine lv_iinc (v := nI (c0 + 1)) (lv' := [(2, .int (nI (c0 + 1))), (0, .ref y), (1, .int (nI q)), (3, .int (nI k))]) hx hb dX1_active_37 hl (k := 2) rfl (nI_1 c0) (by decide) rfl (fun ls hl => ?_)
              refine lv_iinc (v := nI (k + 1)) (lv' := [(3, .int (nI (k + 1))), (2, .int (nI (c0 + 1))), (0, .ref y), (1, .int (nI q))]) hx hb dX1_active_40 hl (k := 3) rfl (nI_1 k) (by decide) rfl (fun ls hl => ?_)
              refine lv_goto (tgt := 9) hx hb dX1_active_43 (by decide) ?_
              exact ih (k + 1) (c0 + 1) ls (by omega) (by omega) (by rw [← hw]; show _ = if ac k = true then _ else _; rw [if_pos c_A, if_neg c_B]) (lv_sub hl [2, 3, 1, 0] rfl)
            · have c_B := c_5
              refine lv_iload_n hx hb dX1_active_35 rfl (lv_at hl 3 rfl) ?_
              exact W.iret (v := nI k) hx hb hr (fun t9 ht hW => ⟨⟨nI k, (), rfl, by rw [← hw]; show _ = if ac k = true then _ else _; rw [if_pos c_A, if_pos c_B], by rw [ht]; exact hP, va_K.moved hW.alike hK, hD⟩, hS.F ht⟩) hS.2.2 dX1_active_36
  exact hloop nD 0 0 ls (by omega) (by omega) rfl (lv_sub hl [2, 3, 1, 0] rfl)
set_option maxHeartbeats 4000000 in
set_option maxRecDepth 100000 in
theorem m_active1 (l : Launch) (dC : Nat → ClassId) (dI : Nat → Nat → Nat) (y b1 b2 b3 b4 b5 b6 b7 b8 b9 b10 : Nat) (cI cJ cZ : ClassId) (th nD nR : Nat) (vs : Nat → Int64) (ac : Nat → Bool) (now : Int64) (o : Nat → Nat) (mt mw : Nat → Int64) (nv dl : Nat → Int64) (el : Nat) (rt rv : Nat → Int64) (mk : Nat → Bool) (zs : List ZT) (sz : Nat) (hI : wm_I nD nR el zs) (hZ : wz zs o mt mw) (i : Int32) (hi : i < 0) : Met l yX1_active wsX1_active ({ frames := 0, cells := 0, slots := 0, locals := 0 }) (va_Pc [.ref y, .int i] (fun U => U.heap.size = sz ∧ va_P (dC, dI) vwCl (wm y b1 b2 b3 b4 b5 b6 b7 b8 b9 b10 cI cJ cZ th nD nR vs ac now o mt mw zs.length nv dl el rt rv mk) U.heap ∧ va_K (dC, dI) vwCl [(cI, .int), (cJ, .long), (cZ, .boolean)] U ∧ va_D (fun _ => True) (wm y b1 b2 b3 b4 b5 b6 b7 b8 b9 b10 cI cJ cZ th nD nR vs ac now o mt mw zs.length nv dl el rt rv mk))) (va_Qi (fun (v : Int32) (_ : Unit) => v = -1) (fun _ t9 => va_P (dC, dI) vwCl (wm y b1 b2 b3 b4 b5 b6 b7 b8 b9 b10 cI cJ cZ 0 nD nR vs ac now o mt mw zs.length nv dl el rt rv mk) t9.heap ∧ va_K (dC, dI) vwCl [(cI, .int), (cJ, .long), (cZ, .boolean)] t9 ∧ va_D (va_A (wm y b1 b2 b3 b4 b5 b6 b7 b8 b9 b10 cI cJ cZ th nD nR vs ac now o mt mw zs.length nv dl el rt rv mk) sz) (wm y b1 b2 b3 b4 b5 b6 b7 b8 b9 b10 cI cJ cZ 0 nD nR vs ac now o mt mw zs.length nv dl el rt rv mk)) (va_A (wm y b1 b2 b3 b4 b5 b6 b7 b8 b9 b10 cI cJ cZ th nD nR vs ac now o mt mw zs.length nv dl el rt rv mk) sz)) 0 0 (va_A (wm y b1 b2 b3 b4 b5 b6 b7 b8 b9 b10 cI cJ cZ th nD nR vs ac now o mt mw zs.length nv dl el rt rv mk) sz) := by
  refine Met.ofW (cc := cX1_active) (maxL := 4) (ret := (some .int)) (by decide) rfl ?_
  intro p e s m args below meth c s₁ B hml hv
  obtain ⟨rfl, hsz, hP, hK, hD0⟩ := hv
  subst hsz
  have hD := hD0.self (sz := s.heap.size)
  generalize hAe : va_A (wm y b1 b2 b3 b4 b5 b6 b7 b8 b9 b10 cI cJ cZ th nD nR vs ac now o mt mw zs.length nv dl el rt rv mk) s.heap.size = A at hD ⊢
  have hA : ∀ q : Nat, s.heap.size ≤ q → A q := fun q h => by rw [← hAe]; exact Or.inr h
  have hS : va_S A s.heap s.heap [] := va_S.rf
  have hx := B.exec
  have hb := B.bytes
  have hr := B.returns
  have hts := atoms_spec (ws := wsX1_active) B.pre
  have hown : s.vm.findClass RX1 = some m.cls := findClass_of_methodNamed B.named
  have hlocks := B.notSynchronized
  have hall := fun (w : Cond) (h : w ∈ allw) => hts w (List.mem_cons_of_mem _ h)
  have hl := lv_entry ([.ref y, .int i]) (n := 4) (Nat.le_of_ble_eq_true rfl)
  rw [lg_entry_eq]
  generalize (lg_sl ([.ref y, .int i]) ++ List.replicate (4 - (lg_sl ([.ref y, .int i])).length) Slot.unset).toArray = ls at hl ⊢
  have hl : lv_has ls 4 [(0, .ref y), (1, .int i)] := hl
  obtain ⟨hnD1, hnD, hnR1, hnR, hzR, hel, how⟩ := hI
  refine lv_aload_n hx hb dX1_active_0 rfl (lv_at hl 0 rfl) ?_
  refine lv_iconst (v := 0) hx hb dX1_active_1 (by decide) ?_
  refine tp_i (y := nI 0) nI_0.symm ?_
  refine va_put (D := (dC, dI)) (ci := 1) (v := .int (nI 0)) (ty := .int) (C := RX1) (T := TX1) (N := 16) hx hb hall inX1 tyX1 tyX1_ok nmX1 hown hK hP hD hS 0 rfl rfl 0 (by decide) (hall _ kw_323) (fun _ h9 => h9) rfl (by decide +kernel) rfl rfl (Nat.le_of_ble_eq_true rfl) dX1_active_2 (fun H locs hP hD hS => ?_)
  have hP : va_P (dC, dI) vwCl [(y, .inr (1, [.int (nI 0), .int (nI nD), .int (nI nR), .ref b1, .ref b2, .long now, .ref b3, .ref b4, .ref b5, .int (nI zs.length), .ref b6, .ref b7, .int (nI el), .ref b8, .ref b9, .ref b10])), (b1, .inl (cJ, 512, .inr (.inl vs))), (b2, .inl (cZ, 512, .inl (fun j => bI (ac j)))), (b3, .inl (cI, 8192, .inl (fun j => nI (o j)))), (b4, .inl (cJ, 8192, .inr (.inl mt))), (b5, .inl (cJ, 8192, .inr (.inl mw))), (b6, .inl (cJ, 16, .inr (.inl nv))), (b7, .inl (cJ, 16, .inr (.inl dl))), (b8, .inl (cJ, 8208, .inr (.inl rt))), (b9, .inl (cJ, 8208, .inr (.inl rv))), (b10, .inl (cZ, 8208, .inl (fun j => bI (mk j))))] H := hP
  have hD : va_D A [(y, .inr (1, [.int (nI 0), .int (nI nD), .int (nI nR), .ref b1, .ref b2, .long now, .ref b3, .ref b4, .ref b5, .int (nI zs.length), .ref b6, .ref b7, .int (nI el), .ref b8, .ref b9, .ref b10])), (b1, .inl (cJ, 512, .inr (.inl vs))), (b2, .inl (cZ, 512, .inl (fun j => bI (ac j)))), (b3, .inl (cI, 8192, .inl (fun j => nI (o j)))), (b4, .inl (cJ, 8192, .inr (.inl mt))), (b5, .inl (cJ, 8192, .inr (.inl mw))), (b6, .inl (cJ, 16, .inr (.inl nv))), (b7, .inl (cJ, 16, .inr (.inl dl))), (b8, .inl (cJ, 8208, .inr (.inl rt))), (b9, .inl (cJ, 8208, .inr (.inl rv))), (b10, .inl (cZ, 8208, .inl (fun j => bI (mk j))))] := hD
  refine lv_iconst (v := 0) hx hb dX1_active_5 (by decide) ?_
  refine tp_i (y := nI 0) nI_0.symm ?_
  refine lv_istore_n (lv' := [(2, .int (nI 0)), (0, .ref y), (1, .int i)]) hx hb dX1_active_6 rfl hl (by decide) rfl (fun ls hl => ?_)
  refine lv_iconst (v := 0) hx hb dX1_active_7 (by decide) ?_
  refine tp_i (y := nI 0) nI_0.symm ?_
  refine lv_istore_n (lv' := [(3, .int (nI 0)), (2, .int (nI 0)), (0, .ref y), (1, .int i)]) hx hb dX1_active_8 rfl hl (by decide) rfl (fun ls hl => ?_)
  refine lv_iload_n hx hb dX1_active_9 rfl (lv_at hl 0 rfl) ?_
  refine lv_aload_n hx hb dX1_active_10 rfl (lv_at hl 2 rfl) ?_
  refine va_get (D := (dC, dI)) (ci := 1) (v := .int (nI nD)) (C := RX1) (T := TX1) (N := 16) hx hb hall inX1 hown hK hP 0 rfl rfl 1 (by decide) (hall _ kw_324) (fun _ h9 => h9) rfl dX1_active_11 ?_
  refine xc_ge (tgt := 46) hx hb (by omega) (by omega) dX1_active_14 (by decide) (fun c_1 => ?_) (fun c_1 => ?_)
  · refine lv_iconst (v := (-1)) hx hb dX1_active_46 (by decide) ?_
    exact W.iret (v := (-1)) hx hb hr (fun t9 ht hW => ⟨⟨(-1), (), rfl, rfl, by rw [ht]; exact hP, va_K.moved hW.alike hK, hD⟩, hS.F ht⟩) hS.2.2 dX1_active_47
  · refine lv_iload_n hx hb dX1_active_17 rfl (lv_at hl 3 rfl) ?_
    refine lv_if_lt (tgt := 46) hx hb dX1_active_18 (by decide) (fun c_2 => ?_) (fun c_2 => ?_)
    · refine lv_iconst (v := (-1)) hx hb dX1_active_46 (by decide) ?_
      exact W.iret (v := (-1)) hx hb hr (fun t9 ht hW => ⟨⟨(-1), (), rfl, rfl, by rw [ht]; exact hP, va_K.moved hW.alike hK, hD⟩, hS.F ht⟩) hS.2.2 dX1_active_47
    · exact absurd hi c_2
