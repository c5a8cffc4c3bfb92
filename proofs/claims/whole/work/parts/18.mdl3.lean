set_option maxHeartbeats 4000000 in
set_option maxRecDepth 100000 in
theorem m_assign1 (l : Launch) (dC : Nat → ClassId) (dI : Nat → Nat → Nat) (y b1 b2 b3 b4 b5 b6 b7 b8 b9 b10 : Nat) (cI cJ cZ : ClassId) (th nD nR : Nat) (vs : Nat → Int64) (ac : Nat → Bool) (now : Int64) (o : Nat → Nat) (mt mw : Nat → Int64) (nv dl : Nat → Int64) (el : Nat) (rt rv : Nat → Int64) (mk : Nat → Bool) (zs : List ZT) (sz : Nat) (i : Int32) (hbad : i < 0 ∨ nI nD ≤ i) (mo : Int32) (t : Int64) : Met l yX1_assign wsX1_assign ({ frames := 1, cells := 0, slots := 0, locals := 24 }) (va_Pc [.ref y, .int i, .int mo, .long t] (fun U => U.heap.size = sz ∧ va_P (dC, dI) vwCl (wm y b1 b2 b3 b4 b5 b6 b7 b8 b9 b10 cI cJ cZ th nD nR vs ac now o mt mw zs.length nv dl el rt rv mk) U.heap ∧ va_K (dC, dI) vwCl [(cI, .int), (cJ, .long), (cZ, .boolean)] U ∧ va_D (fun _ => True) (wm y b1 b2 b3 b4 b5 b6 b7 b8 b9 b10 cI cJ cZ th nD nR vs ac now o mt mw zs.length nv dl el rt rv mk))) (va_Qi (fun (v : Int32) (_ : Unit) => True) (fun _ t9 => va_P (dC, dI) vwCl (wm y b1 b2 b3 b4 b5 b6 b7 b8 b9 b10 cI cJ cZ 1 nD nR vs ac now o mt mw zs.length nv dl el rt rv mk) t9.heap ∧ va_K (dC, dI) vwCl [(cI, .int), (cJ, .long), (cZ, .boolean)] t9 ∧ va_D (va_A (wm y b1 b2 b3 b4 b5 b6 b7 b8 b9 b10 cI cJ cZ th nD nR vs ac now o mt mw zs.length nv dl el rt rv mk) sz) (wm y b1 b2 b3 b4 b5 b6 b7 b8 b9 b10 cI cJ cZ 1 nD nR vs ac now o mt mw zs.length nv dl el rt rv mk)) (va_A (wm y b1 b2 b3 b4 b5 b6 b7 b8 b9 b10 cI cJ cZ th nD nR vs ac now o mt mw zs.length nv dl el rt rv mk) sz)) 0 0 (va_A (wm y b1 b2 b3 b4 b5 b6 b7 b8 b9 b10 cI cJ cZ th nD nR vs ac now o mt mw zs.length nv dl el rt rv mk) sz) := by
  refine Met.ofW (cc := cX1_assign) (maxL := 13) (ret := (some .int)) (by decide) rfl ?_
  intro p e s m args below meth c s₁ B hml hv
  obtain ⟨rfl, hsz, hP, hK, hD0⟩ := hv
  subst hsz
  have hD := hD0.self (sz := s.heap.size)
  generalize hAe : va_A (wm y b1 b2 b3 b4 b5 b6 b7 b8 b9 b10 cI cJ cZ th nD nR vs ac now o mt mw zs.length nv dl el rt rv mk) s.heap.size = A at hD ⊢
  have hA : ∀ q : Nat, s.heap.size ≤ q → A q := fun q h => by rw [← hAe]; exact Or.inr h
  have hS : va_S A s.heap s.heap [] := va_S.rf
  have hx := B.exec
  have hb := B.bytes
  have hr := B.returns
  have hts := atoms_spec (ws := wsX1_assign) B.pre
  have hown : s.vm.findClass RX1 = some m.cls := findClass_of_methodNamed B.named
  have hlocks := B.notSynchronized
  have hall := fun (w : Cond) (h : w ∈ allw) => hts w (List.mem_cons_of_mem _ h)
  have hl := lv_entry ([.ref y, .int i, .int mo, .long t]) (n := 13) (Nat.le_of_ble_eq_true rfl)
  rw [lg_entry_eq]
  generalize (lg_sl ([.ref y, .int i, .int mo, .long t]) ++ List.replicate (13 - (lg_sl ([.ref y, .int i, .int mo, .long t])).length) Slot.unset).toArray = ls at hl ⊢
  have hl : lv_has ls 13 [(0, .ref y), (1, .int i), (2, .int mo), (3, .long t)] := hl
  refine lv_aload_n hx hb dX1_assign_0 rfl (lv_at hl 0 rfl) ?_
  refine lv_aload_n hx hb dX1_assign_1 rfl (lv_at hl 0 rfl) ?_
  refine lv_iload_n hx hb dX1_assign_2 rfl (lv_at hl 1 rfl) ?_
  refine vp_callSi (W.runV (As := [.int i]) (rest := [.ref y]) ⟨hx, hb, hml, hown, hall⟩ (m_none1 l dC dI y b1 b2 b3 b4 b5 b6 b7 b8 b9 b10 cI cJ cZ th nD nR vs ac now o mt mw nv dl el rt rv mk zs i hbad) (cwV 1 hall gX1_60 rfl rfl rfl (by decide +kernel) ⟨Nat.le_of_ble_eq_true rfl, Nat.le_of_ble_eq_true rfl⟩) ⟨xr_blind, va_recv hK hP (ci := 1) (q0 := 0) rfl rfl, fun U hU hW => ⟨rfl, by rw [hU]; exact hP, va_K.moved hW.alike hK⟩⟩ rfl rfl hl.1 rfl (lv_room (Nat.le_of_ble_eq_true rfl)) dX1_assign_3 ⟨by first | exact Nat.zero_le _ | omega, by first | exact Nat.zero_le _ | omega⟩) (fun v_1 hv_2 => ?_)
  subst hv_2
  refine lv_if_eq (tgt := 13) hx hb dX1_assign_6 (by decide) (fun c_3 => ?_) (fun c_3 => ?_)
  · exact absurd c_3 (by decide)
  · refine lv_iconst (v := 1) hx hb dX1_assign_9 (by decide) ?_
    refine tp_i (y := nI 1) (by decide) ?_
    refine lv_goto (tgt := 25) hx hb dX1_assign_10 (by decide) ?_
    refine va_put (D := (dC, dI)) (ci := 1) (v := .int (nI 1)) (ty := .int) (C := RX1) (T := TX1) (N := 16) hx hb hall inX1 tyX1 tyX1_ok nmX1 hown hK hP hD hS 0 rfl rfl 0 (by decide) (hall _ kw_323) (fun _ h9 => h9) rfl (by decide +kernel) rfl rfl (Nat.le_of_ble_eq_true rfl) dX1_assign_25 (fun H locs hP hD hS => ?_)
    have hP : va_P (dC, dI) vwCl [(y, .inr (1, [.int (nI 1), .int (nI nD), .int (nI nR), .ref b1, .ref b2, .long now, .ref b3, .ref b4, .ref b5, .int (nI zs.length), .ref b6, .ref b7, .int (nI el), .ref b8, .ref b9, .ref b10])), (b1, .inl (cJ, 512, .inr (.inl vs))), (b2, .inl (cZ, 512, .inl (fun j => bI (ac j)))), (b3, .inl (cI, 8192, .inl (fun j => nI (o j)))), (b4, .inl (cJ, 8192, .inr (.inl mt))), (b5, .inl (cJ, 8192, .inr (.inl mw))), (b6, .inl (cJ, 16, .inr (.inl nv))), (b7, .inl (cJ, 16, .inr (.inl dl))), (b8, .inl (cJ, 8208, .inr (.inl rt))), (b9, .inl (cJ, 8208, .inr (.inl rv))), (b10, .inl (cZ, 8208, .inl (fun j => bI (mk j))))] H := hP
    have hD : va_D A [(y, .inr (1, [.int (nI 1), .int (nI nD), .int (nI nR), .ref b1, .ref b2, .long now, .ref b3, .ref b4, .ref b5, .int (nI zs.length), .ref b6, .ref b7, .int (nI el), .ref b8, .ref b9, .ref b10])), (b1, .inl (cJ, 512, .inr (.inl vs))), (b2, .inl (cZ, 512, .inl (fun j => bI (ac j)))), (b3, .inl (cI, 8192, .inl (fun j => nI (o j)))), (b4, .inl (cJ, 8192, .inr (.inl mt))), (b5, .inl (cJ, 8192, .inr (.inl mw))), (b6, .inl (cJ, 16, .inr (.inl nv))), (b7, .inl (cJ, 16, .inr (.inl dl))), (b8, .inl (cJ, 8208, .inr (.inl rt))), (b9, .inl (cJ, 8208, .inr (.inl rv))), (b10, .inl (cZ, 8208, .inl (fun j => bI (mk j))))] := hD
    refine lv_aload_n hx hb dX1_assign_28 rfl (lv_at hl 0 rfl) ?_
    refine va_get (D := (dC, dI)) (ci := 1) (v := .int (nI 1)) (C := RX1) (T := TX1) (N := 16) hx hb hall inX1 hown hK hP 0 rfl rfl 0 (by decide) (hall _ kw_323) (fun _ h9 => h9) rfl dX1_assign_29 ?_
    refine xz_le (tgt := 37) hx hb (by omega) dX1_assign_32 (by decide) (fun c_4 => ?_) (fun c_4 => ?_)
    · exact absurd c_4 (by omega)
    · refine lv_iconst (v := 0) hx hb dX1_assign_35 (by decide) ?_
      exact W.iret (v := 0) hx hb hr (fun t9 ht hW => ⟨⟨0, (), rfl, trivial, by rw [ht]; exact hP, va_K.moved hW.alike hK, hD⟩, hS.F ht⟩) hS.2.2 dX1_assign_36
set_option maxHeartbeats 4000000 in
set_option maxRecDepth 100000 in
theorem m_assign2 (l : Launch) (dC : Nat → ClassId) (dI : Nat → Nat → Nat) (y b1 b2 b3 b4 b5 b6 b7 b8 b9 b10 : Nat) (cI cJ cZ : ClassId) (th nD nR : Nat) (vs : Nat → Int64) (ac : Nat → Bool) (now : Int64) (o : Nat → Nat) (mt mw : Nat → Int64) (nv dl : Nat → Int64) (el : Nat) (rt rv : Nat → Int64) (mk : Nat → Bool) (zs : List ZT) (sz : Nat) (hI : wm_I nD nR el zs) (hZ : wz zs o mt mw) (d : Nat) (hd : d < nD) (mo : Int32) (t : Int64) (hz : el = 0) : Met l yX1_assign wsX1_assign ({ frames := 1, cells := 0, slots := 0, locals := 24 }) (va_Pc [.ref y, .int (nI d), .int mo, .long t] (fun U => U.heap.size = sz ∧ va_P (dC, dI) vwCl (wm y b1 b2 b3 b4 b5 b6 b7 b8 b9 b10 cI cJ cZ th nD nR vs ac now o mt mw zs.length nv dl el rt rv mk) U.heap ∧ va_K (dC, dI) vwCl [(cI, .int), (cJ, .long), (cZ, .boolean)] U ∧ va_D (fun _ => True) (wm y b1 b2 b3 b4 b5 b6 b7 b8 b9 b10 cI cJ cZ th nD nR vs ac now o mt mw zs.length nv dl el rt rv mk))) (va_Qi (fun (v : Int32) (_ : Unit) => True) (fun _ t9 => va_P (dC, dI) vwCl (wm y b1 b2 b3 b4 b5 b6 b7 b8 b9 b10 cI cJ cZ 2 nD nR vs ac now o mt mw zs.length nv dl el rt rv mk) t9.heap ∧ va_K (dC, dI) vwCl [(cI, .int), (cJ, .long), (cZ, .boolean)] t9 ∧ va_D (va_A (wm y b1 b2 b3 b4 b5 b6 b7 b8 b9 b10 cI cJ cZ th nD nR vs ac now o mt mw zs.length nv dl el rt rv mk) sz) (wm y b1 b2 b3 b4 b5 b6 b7 b8 b9 b10 cI cJ cZ 2 nD nR vs ac now o mt mw zs.length nv dl el rt rv mk)) (va_A (wm y b1 b2 b3 b4 b5 b6 b7 b8 b9 b10 cI cJ cZ th nD nR vs ac now o mt mw zs.length nv dl el rt rv mk) sz)) 0 0 (va_A (wm y b1 b2 b3 b4 b5 b6 b7 b8 b9 b10 cI cJ cZ th nD nR vs ac now o mt mw zs.length nv dl el rt rv mk) sz) := by
  refine Met.ofW (cc := cX1_assign) (maxL := 13) (ret := (some .int)) (by decide) rfl ?_
  intro p e s m args below meth c s₁ B hml hv
  obtain ⟨rfl, hsz, hP, hK, hD0⟩ := hv
  subst hsz
  have hD := hD0.self (sz := s.heap.size)
  generalize hAe : va_A (wm y b1 b2 b3 b4 b5 b6 b7 b8 b9 b10 cI cJ cZ th nD nR vs ac now o mt mw zs.length nv dl el rt rv mk) s.heap.size = A at hD ⊢
  have hA : ∀ q : Nat, s.heap.size ≤ q → A q := fun q h => by rw [← hAe]; exact Or.inr h
  have hS : va_S A s.heap s.heap [] := va_S.rf
  have hx := B.exec
  have hb := B.bytes
  have hr := B.returns
  have hts := atoms_spec (ws := wsX1_assign) B.pre
  have hown : s.vm.findClass RX1 = some m.cls := findClass_of_methodNamed B.named
  have hlocks := B.notSynchronized
  have hall := fun (w : Cond) (h : w ∈ allw) => hts w (List.mem_cons_of_mem _ h)
  have hl := lv_entry ([.ref y, .int (nI d), .int mo, .long t]) (n := 13) (Nat.le_of_ble_eq_true rfl)
  rw [lg_entry_eq]
  generalize (lg_sl ([.ref y, .int (nI d), .int mo, .long t]) ++ List.replicate (13 - (lg_sl ([.ref y, .int (nI d), .int mo, .long t])).length) Slot.unset).toArray = ls at hl ⊢
  have hl : lv_has ls 13 [(0, .ref y), (1, .int (nI d)), (2, .int mo), (3, .long t)] := hl
  have hI0 := hI
  obtain ⟨hnD1, hnD, hnR1, hnR, hzR, hel, how⟩ := hI
  refine lv_aload_n hx hb dX1_assign_0 rfl (lv_at hl 0 rfl) ?_
  refine lv_aload_n hx hb dX1_assign_1 rfl (lv_at hl 0 rfl) ?_
  refine lv_iload_n hx hb dX1_assign_2 rfl (lv_at hl 1 rfl) ?_
  refine vp_callSi (W.runV (As := [.int (nI d)]) (rest := [.ref y]) ⟨hx, hb, hml, hown, hall⟩ (m_none0 l dC dI y b1 b2 b3 b4 b5 b6 b7 b8 b9 b10 cI cJ cZ th nD nR vs ac now o mt mw nv dl el rt rv mk zs hI0 hZ d hd) (cwV 1 hall gX1_60 rfl rfl rfl (by decide +kernel) ⟨Nat.le_of_ble_eq_true rfl, Nat.le_of_ble_eq_true rfl⟩) ⟨xr_blind, va_recv hK hP (ci := 1) (q0 := 0) rfl rfl, fun U hU hW => ⟨rfl, by rw [hU]; exact hP, va_K.moved hW.alike hK⟩⟩ rfl rfl hl.1 rfl (lv_room (Nat.le_of_ble_eq_true rfl)) dX1_assign_3 ⟨by first | exact Nat.zero_le _ | omega, by first | exact Nat.zero_le _ | omega⟩) (fun v_1 hv_2 => ?_)
  subst hv_2
  refine lv_if_eq (tgt := 13) hx hb dX1_assign_6 (by decide) (fun c_3 => ?_) (fun c_3 => ?_)
  · refine lv_aload_n hx hb dX1_assign_13 rfl (lv_at hl 0 rfl) ?_
    refine va_get (D := (dC, dI)) (ci := 1) (v := .int (nI el)) (C := RX1) (T := TX1) (N := 16) hx hb hall inX1 hown hK hP 0 rfl rfl 12 (by decide) (hall _ kw_335) (fun _ h9 => h9) rfl dX1_assign_14 ?_
    refine xz_ne (tgt := 24) hx hb (by omega) dX1_assign_17 (by decide) (fun c_4 => ?_) (fun c_4 => ?_)
    · exact absurd c_4 (by omega)
    · refine lv_iconst (v := 2) hx hb dX1_assign_20 (by decide) ?_
      refine tp_i (y := nI 2) (by decide) ?_
      refine lv_goto (tgt := 25) hx hb dX1_assign_21 (by decide) ?_
      refine va_put (D := (dC, dI)) (ci := 1) (v := .int (nI 2)) (ty := .int) (C := RX1) (T := TX1) (N := 16) hx hb hall inX1 tyX1 tyX1_ok nmX1 hown hK hP hD hS 0 rfl rfl 0 (by decide) (hall _ kw_323) (fun _ h9 => h9) rfl (by decide +kernel) rfl rfl (Nat.le_of_ble_eq_true rfl) dX1_assign_25 (fun H locs hP hD hS => ?_)
      have hP : va_P (dC, dI) vwCl [(y, .inr (1, [.int (nI 2), .int (nI nD), .int (nI nR), .ref b1, .ref b2, .long now, .ref b3, .ref b4, .ref b5, .int (nI zs.length), .ref b6, .ref b7, .int (nI el), .ref b8, .ref b9, .ref b10])), (b1, .inl (cJ, 512, .inr (.inl vs))), (b2, .inl (cZ, 512, .inl (fun j => bI (ac j)))), (b3, .inl (cI, 8192, .inl (fun j => nI (o j)))), (b4, .inl (cJ, 8192, .inr (.inl mt))), (b5, .inl (cJ, 8192, .inr (.inl mw))), (b6, .inl (cJ, 16, .inr (.inl nv))), (b7, .inl (cJ, 16, .inr (.inl dl))), (b8, .inl (cJ, 8208, .inr (.inl rt))), (b9, .inl (cJ, 8208, .inr (.inl rv))), (b10, .inl (cZ, 8208, .inl (fun j => bI (mk j))))] H := hP
      have hD : va_D A [(y, .inr (1, [.int (nI 2), .int (nI nD), .int (nI nR), .ref b1, .ref b2, .long now, .ref b3, .ref b4, .ref b5, .int (nI zs.length), .ref b6, .ref b7, .int (nI el), .ref b8, .ref b9, .ref b10])), (b1, .inl (cJ, 512, .inr (.inl vs))), (b2, .inl (cZ, 512, .inl (fun j => bI (ac j)))), (b3, .inl (cI, 8192, .inl (fun j => nI (o j)))), (b4, .inl (cJ, 8192, .inr (.inl mt))), (b5, .inl (cJ, 8192, .inr (.inl mw))), (b6, .inl (cJ, 16, .inr (.inl nv))), (b7, .inl (cJ, 16, .inr (.inl dl))), (b8, .inl (cJ, 8208, .inr (.inl rt))), (b9, .inl (cJ, 8208, .inr (.inl rv))), (b10, .inl (cZ, 8208, .inl (fun j => bI (mk j))))] := hD
      refine lv_aload_n hx hb dX1_assign_28 rfl (lv_at hl 0 rfl) ?_
      refine va_get (D := (dC, dI)) (ci := 1) (v := .int (nI 2)) (C := RX1) (T := TX1) (N := 16) hx hb hall inX1 hown hK hP 0 rfl rfl 0 (by decide) (hall _ kw_323) (fun _ h9 => h9) rfl dX1_assign_29 ?_
      refine xz_le (tgt := 37) hx hb (by omega) dX1_assign_32 (by decide) (fun c_5 => ?_) (fun c_5 => ?_)
      · exact absurd c_5 (by omega)
      · refine lv_iconst (v := 0) hx hb dX1_assign_35 (by decide) ?_
        exact W.iret (v := 0) hx hb hr (fun t9 ht hW => ⟨⟨0, (), rfl, trivial, by rw [ht]; exact hP, va_K.moved hW.alike hK, hD⟩, hS.F ht⟩) hS.2.2 dX1_assign_36
  · exact absurd rfl c_3
set_option maxHeartbeats 4000000 in
set_option maxRecDepth 100000 in
theorem m_assign3 (l : Launch) (dC : Nat → ClassId) (dI : Nat → Nat → Nat) (y b1 b2 b3 b4 b5 b6 b7 b8 b9 b10 : Nat) (cI cJ cZ : ClassId) (th nD nR : Nat) (vs : Nat → Int64) (ac : Nat → Bool) (now : Int64) (o : Nat → Nat) (mt mw : Nat → Int64) (nv dl : Nat → Int64) (el : Nat) (rt rv : Nat → Int64) (mk : Nat → Bool) (zs : List ZT) (sz : Nat) (hI : wm_I nD nR el zs) (hZ : wz zs o mt mw) (d : Nat) (hd : d < nD) (mo : Int32) (t : Int64) (hz : 0 < el) (hbad : ¬ wm_g mo t now dl el) : Met l yX1_assign wsX1_assign ({ frames := 1, cells := 0, slots := 0, locals := 24 }) (va_Pc [.ref y, .int (nI d), .int mo, .long t] (fun U => U.heap.size = sz ∧ va_P (dC, dI) vwCl (wm y b1 b2 b3 b4 b5 b6 b7 b8 b9 b10 cI cJ cZ th nD nR vs ac now o mt mw zs.length nv dl el rt rv mk) U.heap ∧ va_K (dC, dI) vwCl [(cI, .int), (cJ, .long), (cZ, .boolean)] U ∧ va_D (fun _ => True) (wm y b1 b2 b3 b4 b5 b6 b7 b8 b9 b10 cI cJ cZ th nD nR vs ac now o mt mw zs.length nv dl el rt rv mk))) (va_Qi (fun (v : Int32) (_ : Unit) => True) (fun _ t9 => va_P (dC, dI) vwCl (wm y b1 b2 b3 b4 b5 b6 b7 b8 b9 b10 cI cJ cZ 3 nD nR vs ac now o mt mw zs.length nv dl el rt rv mk) t9.heap ∧ va_K (dC, dI) vwCl [(cI, .int), (cJ, .long), (cZ, .boolean)] t9 ∧ va_D (va_A (wm y b1 b2 b3 b4 b5 b6 b7 b8 b9 b10 cI cJ cZ th nD nR vs ac now o mt mw zs.length nv dl el rt rv mk) sz) (wm y b1 b2 b3 b4 b5 b6 b7 b8 b9 b10 cI cJ cZ 3 nD nR vs ac now o mt mw zs.length nv dl el rt rv mk)) (va_A (wm y b1 b2 b3 b4 b5 b6 b7 b8 b9 b10 cI cJ cZ th nD nR vs ac now o mt mw zs.length nv dl el rt rv mk) sz)) 0 0 (va_A (wm y b1 b2 b3 b4 b5 b6 b7 b8 b9 b10 cI cJ cZ th nD nR vs ac now o mt mw zs.length nv dl el rt rv mk) sz) := by
  refine Met.ofW (cc := cX1_assign) (maxL := 13) (ret := (some .int)) (by decide) rfl ?_
  intro p e s m args below meth c s₁ B hml hv
  obtain ⟨rfl, hsz, hP, hK, hD0⟩ := hv
  subst hsz
  have hD := hD0.self (sz := s.heap.size)
  generalize hAe : va_A (wm y b1 b2 b3 b4 b5 b6 b7 b8 b9 b10 cI cJ cZ th nD nR vs ac now o mt mw zs.length nv dl el rt rv mk) s.heap.size = A at hD ⊢
  have hA : ∀ q : Nat, s.heap.size ≤ q → A q := fun q h => by rw [← hAe]; exact Or.inr h
  have hS : va_S A s.heap s.heap [] := va_S.rf
  have hx := B.exec
  have hb := B.bytes
  have hr := B.returns
  have hts := atoms_spec (ws := wsX1_assign) B.pre
  have hown : s.vm.findClass RX1 = some m.cls := findClass_of_methodNamed B.named
  have hlocks := B.notSynchronized
  have hall := fun (w : Cond) (h : w ∈ allw) => hts w (List.mem_cons_of_mem _ h)
  have hl := lv_entry ([.ref y, .int (nI d), .int mo, .long t]) (n := 13) (Nat.le_of_ble_eq_true rfl)
  rw [lg_entry_eq]
  generalize (lg_sl ([.ref y, .int (nI d), .int mo, .long t]) ++ List.replicate (13 - (lg_sl ([.ref y, .int (nI d), .int mo, .long t])).length) Slot.unset).toArray = ls at hl ⊢
  have hl : lv_has ls 13 [(0, .ref y), (1, .int (nI d)), (2, .int mo), (3, .long t)] := hl
  have hI0 := hI
  obtain ⟨hnD1, hnD, hnR1, hnR, hzR, hel, how⟩ := hI
  refine lv_aload_n hx hb dX1_assign_0 rfl (lv_at hl 0 rfl) ?_
  refine lv_aload_n hx hb dX1_assign_1 rfl (lv_at hl 0 rfl) ?_
  refine lv_iload_n hx hb dX1_assign_2 rfl (lv_at hl 1 rfl) ?_
  refine vp_callSi (W.runV (As := [.int (nI d)]) (rest := [.ref y]) ⟨hx, hb, hml, hown, hall⟩ (m_none0 l dC dI y b1 b2 b3 b4 b5 b6 b7 b8 b9 b10 cI cJ cZ th nD nR vs ac now o mt mw nv dl el rt rv mk zs hI0 hZ d hd) (cwV 1 hall gX1_60 rfl rfl rfl (by decide +kernel) ⟨Nat.le_of_ble_eq_true rfl, Nat.le_of_ble_eq_true rfl⟩) ⟨xr_blind, va_recv hK hP (ci := 1) (q0 := 0) rfl rfl, fun U hU hW => ⟨rfl, by rw [hU]; exact hP, va_K.moved hW.alike hK⟩⟩ rfl rfl hl.1 rfl (lv_room (Nat.le_of_ble_eq_true rfl)) dX1_assign_3 ⟨by first | exact Nat.zero_le _ | omega, by first | exact Nat.zero_le _ | omega⟩) (fun v_1 hv_2 => ?_)
  subst hv_2
  refine lv_if_eq (tgt := 13) hx hb dX1_assign_6 (by decide) (fun c_3 => ?_) (fun c_3 => ?_)
  · refine lv_aload_n hx hb dX1_assign_13 rfl (lv_at hl 0 rfl) ?_
    refine va_get (D := (dC, dI)) (ci := 1) (v := .int (nI el)) (C := RX1) (T := TX1) (N := 16) hx hb hall inX1 hown hK hP 0 rfl rfl 12 (by decide) (hall _ kw_335) (fun _ h9 => h9) rfl dX1_assign_14 ?_
    refine xz_ne (tgt := 24) hx hb (by omega) dX1_assign_17 (by decide) (fun c_4 => ?_) (fun c_4 => ?_)
    · refine lv_iconst (v := 0) hx hb dX1_assign_24 (by decide) ?_
      refine tp_i (y := nI 0) nI_0.symm ?_
      refine va_put (D := (dC, dI)) (ci := 1) (v := .int (nI 0)) (ty := .int) (C := RX1) (T := TX1) (N := 16) hx hb hall inX1 tyX1 tyX1_ok nmX1 hown hK hP hD hS 0 rfl rfl 0 (by decide) (hall _ kw_323) (fun _ h9 => h9) rfl (by decide +kernel) rfl rfl (Nat.le_of_ble_eq_true rfl) dX1_assign_25 (fun H locs hP hD hS => ?_)
      have hP : va_P (dC, dI) vwCl [(y, .inr (1, [.int (nI 0), .int (nI nD), .int (nI nR), .ref b1, .ref b2, .long now, .ref b3, .ref b4, .ref b5, .int (nI zs.length), .ref b6, .ref b7, .int (nI el), .ref b8, .ref b9, .ref b10])), (b1, .inl (cJ, 512, .inr (.inl vs))), (b2, .inl (cZ, 512, .inl (fun j => bI (ac j)))), (b3, .inl (cI, 8192, .inl (fun j => nI (o j)))), (b4, .inl (cJ, 8192, .inr (.inl mt))), (b5, .inl (cJ, 8192, .inr (.inl mw))), (b6, .inl (cJ, 16, .inr (.inl nv))), (b7, .inl (cJ, 16, .inr (.inl dl))), (b8, .inl (cJ, 8208, .inr (.inl rt))), (b9, .inl (cJ, 8208, .inr (.inl rv))), (b10, .inl (cZ, 8208, .inl (fun j => bI (mk j))))] H := hP
      have hD : va_D A [(y, .inr (1, [.int (nI 0), .int (nI nD), .int (nI nR), .ref b1, .ref b2, .long now, .ref b3, .ref b4, .ref b5, .int (nI zs.length), .ref b6, .ref b7, .int (nI el), .ref b8, .ref b9, .ref b10])), (b1, .inl (cJ, 512, .inr (.inl vs))), (b2, .inl (cZ, 512, .inl (fun j => bI (ac j)))), (b3, .inl (cI, 8192, .inl (fun j => nI (o j)))), (b4, .inl (cJ, 8192, .inr (.inl mt))), (b5, .inl (cJ, 8192, .inr (.inl mw))), (b6, .inl (cJ, 16, .inr (.inl nv))), (b7, .inl (cJ, 16, .inr (.inl dl))), (b8, .inl (cJ, 8208, .inr (.inl rt))), (b9, .inl (cJ, 8208, .inr (.inl rv))), (b10, .inl (cZ, 8208, .inl (fun j => bI (mk j))))] := hD
      refine lv_aload_n hx hb dX1_assign_28 rfl (lv_at hl 0 rfl) ?_
      refine va_get (D := (dC, dI)) (ci := 1) (v := .int (nI 0)) (C := RX1) (T := TX1) (N := 16) hx hb hall inX1 hown hK hP 0 rfl rfl 0 (by decide) (hall _ kw_323) (fun _ h9 => h9) rfl dX1_assign_29 ?_
      refine xz_le (tgt := 37) hx hb (by omega) dX1_assign_32 (by decide) (fun c_5 => ?_) (fun c_5 => ?_)
      · refine lv_iload_n hx hb dX1_assign_37 rfl (lv_at hl 2 rfl) ?_
        refine lv_if_lt (tgt := 80) hx hb dX1_assign_38 (by decide) (fun c_6 => ?_) (fun c_6 => ?_)
        · have c_A := c_6
          refine lv_iconst (v := 0) hx hb dX1_assign_80 (by decide) ?_
          refine lv_istore (lv' := [(5, .int 0), (0, .ref y), (1, .int (nI d)), (2, .int mo), (3, .long t)]) hx hb dX1_assign_81 hl (by decide) rfl (fun ls hl => ?_)
          refine lv_iload hx hb dX1_assign_83 (lv_at hl 0 rfl) ?_
          refine lv_if_eq (tgt := 110) hx hb dX1_assign_85 (by decide) (fun c_7 => ?_) (fun c_7 => ?_)
          · refine lv_aload_n hx hb dX1_assign_110 rfl (lv_at hl 1 rfl) ?_
            refine lv_iconst (v := 3) hx hb dX1_assign_111 (by decide) ?_
            refine tp_i (y := nI 3) (by decide) ?_
            refine va_put (D := (dC, dI)) (ci := 1) (v := .int (nI 3)) (ty := .int) (C := RX1) (T := TX1) (N := 16) hx hb hall inX1 tyX1 tyX1_ok nmX1 hown hK hP hD hS 0 rfl rfl 0 (by decide) (hall _ kw_323) (fun _ h9 => h9) rfl (by decide +kernel) rfl rfl (Nat.le_of_ble_eq_true rfl) dX1_assign_112 (fun H locs hP hD hS => ?_)
            have hP : va_P (dC, dI) vwCl [(y, .inr (1, [.int (nI 3), .int (nI nD), .int (nI nR), .ref b1, .ref b2, .long now, .ref b3, .ref b4, .ref b5, .int (nI zs.length), .ref b6, .ref b7, .int (nI el), .ref b8, .ref b9, .ref b10])), (b1, .inl (cJ, 512, .inr (.inl vs))), (b2, .inl (cZ, 512, .inl (fun j => bI (ac j)))), (b3, .inl (cI, 8192, .inl (fun j => nI (o j)))), (b4, .inl (cJ, 8192, .inr (.inl mt))), (b5, .inl (cJ, 8192, .inr (.inl mw))), (b6, .inl (cJ, 16, .inr (.inl nv))), (b7, .inl (cJ, 16, .inr (.inl dl))), (b8, .inl (cJ, 8208, .inr (.inl rt))), (b9, .inl (cJ, 8208, .inr (.inl rv))), (b10, .inl (cZ, 8208, .inl (fun j => bI (mk j))))] H := hP
            have hD : va_D A [(y, .inr (1, [.int (nI 3), .int (nI nD), .int (nI nR), .ref b1, .ref b2, .long now, .ref b3, .ref b4, .ref b5, .int (nI zs.length), .ref b6, .ref b7, .int (nI el), .ref b8, .ref b9, .ref b10])), (b1, .inl (cJ, 512, .inr (.inl vs))), (b2, .inl (cZ, 512, .inl (fun j => bI (ac j)))), (b3, .inl (cI, 8192, .inl (fun j => nI (o j)))), (b4, .inl (cJ, 8192, .inr (.inl mt))), (b5, .inl (cJ, 8192, .inr (.inl mw))), (b6, .inl (cJ, 16, .inr (.inl nv))), (b7, .inl (cJ, 16, .inr (.inl dl))), (b8, .inl (cJ, 8208, .inr (.inl rt))), (b9, .inl (cJ, 8208, .inr (.inl rv))), (b10, .inl (cZ, 8208, .inl (fun j => bI (mk j))))] := hD
            refine lv_iconst (v := 0) hx hb dX1_assign_115 (by decide) ?_
            exact W.iret (v := 0) hx hb hr (fun t9 ht hW => ⟨⟨0, (), rfl, trivial, by rw [ht]; exact hP, va_K.moved hW.alike hK, hD⟩, hS.F ht⟩) hS.2.2 dX1_assign_116
          · exact absurd rfl c_7
        · have c_A := c_6
          refine lv_iload_n hx hb dX1_assign_41 rfl (lv_at hl 2 rfl) ?_
          refine lv_iconst (v := 2) hx hb dX1_assign_42 (by decide) ?_
          refine lv_icmp_gt (tgt := 80) hx hb dX1_assign_43 (by decide) (fun c_8 => ?_) (fun c_8 => ?_)
          · have c_B := c_8
            refine lv_iconst (v := 0) hx hb dX1_assign_80 (by decide) ?_
            refine lv_istore (lv' := [(5, .int 0), (0, .ref y), (1, .int (nI d)), (2, .int mo), (3, .long t)]) hx hb dX1_assign_81 hl (by decide) rfl (fun ls hl => ?_)
            refine lv_iload hx hb dX1_assign_83 (lv_at hl 0 rfl) ?_
            refine lv_if_eq (tgt := 110) hx hb dX1_assign_85 (by decide) (fun c_9 => ?_) (fun c_9 => ?_)
            · refine lv_aload_n hx hb dX1_assign_110 rfl (lv_at hl 1 rfl) ?_
              refine lv_iconst (v := 3) hx hb dX1_assign_111 (by decide) ?_
              refine tp_i (y := nI 3) (by decide) ?_
              refine va_put (D := (dC, dI)) (ci := 1) (v := .int (nI 3)) (ty := .int) (C := RX1) (T := TX1) (N := 16) hx hb hall inX1 tyX1 tyX1_ok nmX1 hown hK hP hD hS 0 rfl rfl 0 (by decide) (hall _ kw_323) (fun _ h9 => h9) rfl (by decide +kernel) rfl rfl (Nat.le_of_ble_eq_true rfl) dX1_assign_112 (fun H locs hP hD hS => ?_)
              have hP : va_P (dC, dI) vwCl [(y, .inr (1, [.int (nI 3), .int (nI nD), .int (nI nR), .ref b1, .ref b2, .long now, .ref b3, .ref b4, .ref b5, .int (nI zs.length), .ref b6, .ref b7, .int (nI el), .ref b8, .ref b9, .ref b10])), (b1, .inl (cJ, 512, .inr (.inl vs))), (b2, .inl (cZ, 512, .inl (fun j => bI (ac j)))), (b3, .inl (cI, 8192, .inl (fun j => nI (o j)))), (b4, .inl (cJ, 8192, .inr (.inl mt))), (b5, .inl (cJ, 8192, .inr (.inl mw))), (b6, .inl (cJ, 16, .inr (.inl nv))), (b7, .inl (cJ, 16, .inr (.inl dl))), (b8, .inl (cJ, 8208, .inr (.inl rt))), (b9, .inl (cJ, 8208, .inr (.inl rv))), (b10, .inl (cZ, 8208, .inl (fun j => bI (mk j))))] H := hP
              have hD : va_D A [(y, .inr (1, [.int (nI 3), .int (nI nD), .int (nI nR), .ref b1, .ref b2, .long now, .ref b3, .ref b4, .ref b5, .int (nI zs.length), .ref b6, .ref b7, .int (nI el), .ref b8, .ref b9, .ref b10])), (b1, .inl (cJ, 512, .inr (.inl vs))), (b2, .inl (cZ, 512, .inl (fun j => bI (ac j)))), (b3, .inl (cI, 8192, .inl (fun j => nI (o j)))), (b4, .inl (cJ, 8192, .inr (.inl mt))), (b5, .inl (cJ, 8192, .inr (.inl mw))), (b6, .inl (cJ, 16, .inr (.inl nv))), (b7, .inl (cJ, 16, .inr (.inl dl))), (b8, .inl (cJ, 8208, .inr (.inl rt))), (b9, .inl (cJ, 8208, .inr (.inl rv))), (b10, .inl (cZ, 8208, .inl (fun j => bI (mk j))))] := hD
              refine lv_iconst (v := 0) hx hb dX1_assign_115 (by decide) ?_
              exact W.iret (v := 0) hx hb hr (fun t9 ht hW => ⟨⟨0, (), rfl, trivial, by rw [ht]; exact hP, va_K.moved hW.alike hK, hD⟩, hS.F ht⟩) hS.2.2 dX1_assign_116
            · exact absurd rfl c_9
          · have c_B := c_8
            refine lv_aload_n hx hb dX1_assign_46 rfl (lv_at hl 0 rfl) ?_
            refine vp_callSi (W.runV (As := []) (rest := []) ⟨hx, hb, hml, hown, hall⟩ (m_rises l dC dI y b1 b2 b3 b4 b5 b6 b7 b8 b9 b10 cI cJ cZ 0 nD nR vs ac now o mt mw nv dl el rt rv mk zs hel) (cwV 0 hall gX1_64 rfl rfl rfl (by decide +kernel) ⟨Nat.le_of_ble_eq_true rfl, Nat.le_of_ble_eq_true rfl⟩) ⟨xr_blind, va_recv hK hP (ci := 1) (q0 := 0) rfl rfl, fun U hU hW => ⟨rfl, by rw [hU]; exact hP, va_K.moved hW.alike hK⟩⟩ rfl rfl hl.1 rfl (lv_room (Nat.le_of_ble_eq_true rfl)) dX1_assign_47 ⟨by first | exact Nat.zero_le _ | omega, by first | exact Nat.zero_le _ | omega⟩) (fun v_10 hv_11 => ?_)
            rcases hv_11 with ⟨rfl, hg2⟩ | ⟨rfl, hg2⟩
            · refine lv_if_eq (tgt := 80) hx hb dX1_assign_50 (by decide) (fun c_12 => ?_) (fun c_12 => ?_)
              · exact absurd c_12 (by decide)
              · refine lv_aload_n hx hb dX1_assign_53 rfl (lv_at hl 0 rfl) ?_
                refine va_get (D := (dC, dI)) (ci := 1) (v := .long now) (C := RX1) (T := TX1) (N := 16) hx hb hall inX1 hown hK hP 0 rfl rfl 5 (by decide) (hall _ kw_328) (fun _ h9 => h9) rfl dX1_assign_54 ?_
                refine lv_aload_n hx hb dX1_assign_57 rfl (lv_at hl 0 rfl) ?_
                refine va_get (D := (dC, dI)) (ci := 1) (v := .ref b7) (C := RX1) (T := TX1) (N := 16) hx hb hall inX1 hown hK hP 0 rfl rfl 11 (by decide) (hall _ kw_334) (fun _ h9 => h9) rfl dX1_assign_58 ?_
                refine lv_aload_n hx hb dX1_assign_61 rfl (lv_at hl 0 rfl) ?_
                refine va_get (D := (dC, dI)) (ci := 1) (v := .int (nI el)) (C := RX1) (T := TX1) (N := 16) hx hb hall inX1 hown hK hP 0 rfl rfl 12 (by decide) (hall _ kw_335) (fun _ h9 => h9) rfl dX1_assign_62 ?_
                refine lv_iconst (v := 1) hx hb dX1_assign_65 (by decide) ?_
                refine lv_isub hx hb dX1_assign_66 ?_
                refine tp_i (y := nI (el - 1)) (by rw [show el = (el - 1) + 1 by omega]; exact nI_pred (el - 1)) ?_
                refine xa_lald hx hb hK hP 7 1 rfl rfl (by omega) (by omega) dX1_assign_67 ?_
                refine lv_ladd hx hb dX1_assign_68 ?_
                refine lv_ldc2 (v := 1152921504606846976) hx hb hown (hall _ kw_381) dX1_assign_69 ?_
                refine xl_gt (tgt := 80) hx hb dX1_assign_72 dX1_assign_73 (by decide) (fun c_13 => ?_) (fun c_13 => ?_)
                · have c_C := c_13
                  refine lv_iconst (v := 0) hx hb dX1_assign_80 (by decide) ?_
                  refine lv_istore (lv' := [(5, .int 0), (0, .ref y), (1, .int (nI d)), (2, .int mo), (3, .long t)]) hx hb dX1_assign_81 hl (by decide) rfl (fun ls hl => ?_)
                  refine lv_iload hx hb dX1_assign_83 (lv_at hl 0 rfl) ?_
                  refine lv_if_eq (tgt := 110) hx hb dX1_assign_85 (by decide) (fun c_14 => ?_) (fun c_14 => ?_)
                  · refine lv_aload_n hx hb dX1_assign_110 rfl (lv_at hl 1 rfl) ?_
                    refine lv_iconst (v := 3) hx hb dX1_assign_111 (by decide) ?_
                    refine tp_i (y := nI 3) (by decide) ?_
                    refine va_put (D := (dC, dI)) (ci := 1) (v := .int (nI 3)) (ty := .int) (C := RX1) (T := TX1) (N := 16) hx hb hall inX1 tyX1 tyX1_ok nmX1 hown hK hP hD hS 0 rfl rfl 0 (by decide) (hall _ kw_323) (fun _ h9 => h9) rfl (by decide +kernel) rfl rfl (Nat.le_of_ble_eq_true rfl) dX1_assign_112 (fun H locs hP hD hS => ?_)
                    have hP : va_P (dC, dI) vwCl [(y, .inr (1, [.int (nI 3), .int (nI nD), .int (nI nR), .ref b1, .ref b2, .long now, .ref b3, .ref b4, .ref b5, .int (nI zs.length), .ref b6, .ref b7, .int (nI el), .ref b8, .ref b9, .ref b10])), (b1, .inl (cJ, 512, .inr (.inl vs))), (b2, .inl (cZ, 512, .inl (fun j => bI (ac j)))), (b3, .inl (cI, 8192, .inl (fun j => nI (o j)))), (b4, .inl (cJ, 8192, .inr (.inl mt))), (b5, .inl (cJ, 8192, .inr (.inl mw))), (b6, .inl (cJ, 16, .inr (.inl nv))), (b7, .inl (cJ, 16, .inr (.inl dl))), (b8, .inl (cJ, 8208, .inr (.inl rt))), (b9, .inl (cJ, 8208, .inr (.inl rv))), (b10, .inl (cZ, 8208, .inl (fun j => bI (mk j))))] H := hP
                    have hD : va_D A [(y, .inr (1, [.int (nI 3), .int (nI nD), .int (nI nR), .ref b1, .ref b2, .long now, .ref b3, .ref b4, .ref b5, .int (nI zs.length), .ref b6, .ref b7, .int (nI el), .ref b8, .ref b9, .ref b10])), (b1, .inl (cJ, 512, .inr (.inl vs))), (b2, .inl (cZ, 512, .inl (fun j => bI (ac j)))), (b3, .inl (cI, 8192, .inl (fun j => nI (o j)))), (b4, .inl (cJ, 8192, .inr (.inl mt))), (b5, .inl (cJ, 8192, .inr (.inl mw))), (b6, .inl (cJ, 16, .inr (.inl nv))), (b7, .inl (cJ, 16, .inr (.inl dl))), (b8, .inl (cJ, 8208, .inr (.inl rt))), (b9, .inl (cJ, 8208, .inr (.inl rv))), (b10, .inl (cZ, 8208, .inl (fun j => bI (mk j))))] := hD
                    refine lv_iconst (v := 0) hx hb dX1_assign_115 (by decide) ?_
                    exact W.iret (v := 0) hx hb hr (fun t9 ht hW => ⟨⟨0, (), rfl, trivial, by rw [ht]; exact hP, va_K.moved hW.alike hK, hD⟩, hS.F ht⟩) hS.2.2 dX1_assign_116
                  · exact absurd rfl c_14
                · have c_C := c_13
                  refine lv_iconst (v := 1) hx hb dX1_assign_76 (by decide) ?_
                  refine lv_goto (tgt := 81) hx hb dX1_assign_77 (by decide) ?_
                  refine lv_istore (lv' := [(5, .int 1), (0, .ref y), (1, .int (nI d)), (2, .int mo), (3, .long t)]) hx hb dX1_assign_81 hl (by decide) rfl (fun ls hl => ?_)
                  refine lv_iload hx hb dX1_assign_83 (lv_at hl 0 rfl) ?_
                  refine lv_if_eq (tgt := 110) hx hb dX1_assign_85 (by decide) (fun c_15 => ?_) (fun c_15 => ?_)
                  · exact absurd c_15 (by decide)
                  · refine lv_iload_n hx hb dX1_assign_88 rfl (lv_at hl 3 rfl) ?_
                    refine lv_iconst (v := 2) hx hb dX1_assign_89 (by decide) ?_
                    refine lv_icmp_ne (tgt := 117) hx hb dX1_assign_90 (by decide) (fun c_16 => ?_) (fun c_16 => ?_)
                    · have c_D := c_16
                      exact absurd ⟨⟨c_A, c_B⟩, hg2, c_C, fun q => by first | exact c_D q.1 | exact q.2.elim c_E (fun q => absurd q (Int64.not_lt.mpr c_F))⟩ hbad
                    · have c_D := c_16
                      refine lv_lload_n hx hb dX1_assign_93 rfl (lv_at hl 4 rfl) ?_
                      refine lv_lconst (v := 0) hx hb dX1_assign_94 (by decide) ?_
                      refine xl_lt (tgt := 110) hx hb dX1_assign_95 dX1_assign_96 (by decide) (fun c_17 => ?_) (fun c_17 => ?_)
                      · have c_E := c_17
                        refine lv_aload_n hx hb dX1_assign_110 rfl (lv_at hl 1 rfl) ?_
                        refine lv_iconst (v := 3) hx hb dX1_assign_111 (by decide) ?_
                        refine tp_i (y := nI 3) (by decide) ?_
                        refine va_put (D := (dC, dI)) (ci := 1) (v := .int (nI 3)) (ty := .int) (C := RX1) (T := TX1) (N := 16) hx hb hall inX1 tyX1 tyX1_ok nmX1 hown hK hP hD hS 0 rfl rfl 0 (by decide) (hall _ kw_323) (fun _ h9 => h9) rfl (by decide +kernel) rfl rfl (Nat.le_of_ble_eq_true rfl) dX1_assign_112 (fun H locs hP hD hS => ?_)
                        have hP : va_P (dC, dI) vwCl [(y, .inr (1, [.int (nI 3), .int (nI nD), .int (nI nR), .ref b1, .ref b2, .long now, .ref b3, .ref b4, .ref b5, .int (nI zs.length), .ref b6, .ref b7, .int (nI el), .ref b8, .ref b9, .ref b10])), (b1, .inl (cJ, 512, .inr (.inl vs))), (b2, .inl (cZ, 512, .inl (fun j => bI (ac j)))), (b3, .inl (cI, 8192, .inl (fun j => nI (o j)))), (b4, .inl (cJ, 8192, .inr (.inl mt))), (b5, .inl (cJ, 8192, .inr (.inl mw))), (b6, .inl (cJ, 16, .inr (.inl nv))), (b7, .inl (cJ, 16, .inr (.inl dl))), (b8, .inl (cJ, 8208, .inr (.inl rt))), (b9, .inl (cJ, 8208, .inr (.inl rv))), (b10, .inl (cZ, 8208, .inl (fun j => bI (mk j))))] H := hP
                        have hD : va_D A [(y, .inr (1, [.int (nI 3), .int (nI nD), .int (nI nR), .ref b1, .ref b2, .long now, .ref b3, .ref b4, .ref b5, .int (nI zs.length), .ref b6, .ref b7, .int (nI el), .ref b8, .ref b9, .ref b10])), (b1, .inl (cJ, 512, .inr (.inl vs))), (b2, .inl (cZ, 512, .inl (fun j => bI (ac j)))), (b3, .inl (cI, 8192, .inl (fun j => nI (o j)))), (b4, .inl (cJ, 8192, .inr (.inl mt))), (b5, .inl (cJ, 8192, .inr (.inl mw))), (b6, .inl (cJ, 16, .inr (.inl nv))), (b7, .inl (cJ, 16, .inr (.inl dl))), (b8, .inl (cJ, 8208, .inr (.inl rt))), (b9, .inl (cJ, 8208, .inr (.inl rv))), (b10, .inl (cZ, 8208, .inl (fun j => bI (mk j))))] := hD
                        refine lv_iconst (v := 0) hx hb dX1_assign_115 (by decide) ?_
                        exact W.iret (v := 0) hx hb hr (fun t9 ht hW => ⟨⟨0, (), rfl, trivial, by rw [ht]; exact hP, va_K.moved hW.alike hK, hD⟩, hS.F ht⟩) hS.2.2 dX1_assign_116
                      · have c_E := c_17
                        refine lv_lload_n hx hb dX1_assign_99 rfl (lv_at hl 4 rfl) ?_
                        refine lv_aload_n hx hb dX1_assign_100 rfl (lv_at hl 1 rfl) ?_
                        refine va_get (D := (dC, dI)) (ci := 1) (v := .ref b7) (C := RX1) (T := TX1) (N := 16) hx hb hall inX1 hown hK hP 0 rfl rfl 11 (by decide) (hall _ kw_334) (fun _ h9 => h9) rfl dX1_assign_101 ?_
                        refine lv_iconst (v := 0) hx hb dX1_assign_104 (by decide) ?_
                        refine tp_i (y := nI 0) nI_0.symm ?_
                        refine xa_lald hx hb hK hP 7 1 rfl rfl (by omega) (by omega) dX1_assign_105 ?_
                        refine xl_le (tgt := 117) hx hb dX1_assign_106 dX1_assign_107 (by decide) (fun c_18 => ?_) (fun c_18 => ?_)
                        · have c_F := c_18
                          exact absurd ⟨⟨c_A, c_B⟩, hg2, c_C, fun q => by first | exact c_D q.1 | exact q.2.elim c_E (fun q => absurd q (Int64.not_lt.mpr c_F))⟩ hbad
                        · have c_F := c_18
                          refine lv_aload_n hx hb dX1_assign_110 rfl (lv_at hl 1 rfl) ?_
                          refine lv_iconst (v := 3) hx hb dX1_assign_111 (by decide) ?_
                          refine tp_i (y := nI 3) (by decide) ?_
                          refine va_put (D := (dC, dI)) (ci := 1) (v := .int (nI 3)) (ty := .int) (C := RX1) (T := TX1) (N := 16) hx hb hall inX1 tyX1 tyX1_ok nmX1 hown hK hP hD hS 0 rfl rfl 0 (by decide) (hall _ kw_323) (fun _ h9 => h9) rfl (by decide +kernel) rfl rfl (Nat.le_of_ble_eq_true rfl) dX1_assign_112 (fun H locs hP hD hS => ?_)
                          have hP : va_P (dC, dI) vwCl [(y, .inr (1, [.int (nI 3), .int (nI nD), .int (nI nR), .ref b1, .ref b2, .long now, .ref b3, .ref b4, .ref b5, .int (nI zs.length), .ref b6, .ref b7, .int (nI el), .ref b8, .ref b9, .ref b10])), (b1, .inl (cJ, 512, .inr (.inl vs))), (b2, .inl (cZ, 512, .inl (fun j => bI (ac j)))), (b3, .inl (cI, 8192, .inl (fun j => nI (o j)))), (b4, .inl (cJ, 8192, .inr (.inl mt))), (b5, .inl (cJ, 8192, .inr (.inl mw))), (b6, .inl (cJ, 16, .inr (.inl nv))), (b7, .inl (cJ, 16, .inr (.inl dl))), (b8, .inl (cJ, 8208, .inr (.inl rt))), (b9, .inl (cJ, 8208, .inr (.inl rv))), (b10, .inl (cZ, 8208, .inl (fun j => bI (mk j))))] H := hP
                          have hD : va_D A [(y, .inr (1, [.int (nI 3), .int (nI nD), .int (nI nR), .ref b1, .ref b2, .long now, .ref b3, .ref b4, .ref b5, .int (nI zs.length), .ref b6, .ref b7, .int (nI el), .ref b8, .ref b9, .ref b10])), (b1, .inl (cJ, 512, .inr (.inl vs))), (b2, .inl (cZ, 512, .inl (fun j => bI (ac j)))), (b3, .inl (cI, 8192, .inl (fun j => nI (o j)))), (b4, .inl (cJ, 8192, .inr (.inl mt))), (b5, .inl (cJ, 8192, .inr (.inl mw))), (b6, .inl (cJ, 16, .inr (.inl nv))), (b7, .inl (cJ, 16, .inr (.inl dl))), (b8, .inl (cJ, 8208, .inr (.inl rt))), (b9, .inl (cJ, 8208, .inr (.inl rv))), (b10, .inl (cZ, 8208, .inl (fun j => bI (mk j))))] := hD
                          refine lv_iconst (v := 0) hx hb dX1_assign_115 (by decide) ?_
                          exact W.iret (v := 0) hx hb hr (fun t9 ht hW => ⟨⟨0, (), rfl, trivial, by rw [ht]; exact hP, va_K.moved hW.alike hK, hD⟩, hS.F ht⟩) hS.2.2 dX1_assign_116
            · refine lv_if_eq (tgt := 80) hx hb dX1_assign_50 (by decide) (fun c_19 => ?_) (fun c_19 => ?_)
              · refine lv_iconst (v := 0) hx hb dX1_assign_80 (by decide) ?_
                refine lv_istore (lv' := [(5, .int 0), (0, .ref y), (1, .int (nI d)), (2, .int mo), (3, .long t)]) hx hb dX1_assign_81 hl (by decide) rfl (fun ls hl => ?_)
                refine lv_iload hx hb dX1_assign_83 (lv_at hl 0 rfl) ?_
                refine lv_if_eq (tgt := 110) hx hb dX1_assign_85 (by decide) (fun c_20 => ?_) (fun c_20 => ?_)
                · refine lv_aload_n hx hb dX1_assign_110 rfl (lv_at hl 1 rfl) ?_
                  refine lv_iconst (v := 3) hx hb dX1_assign_111 (by decide) ?_
                  refine tp_i (y := nI 3) (by decide) ?_
                  refine va_put (D := (dC, dI)) (ci := 1) (v := .int (nI 3)) (ty := .int) (C := RX1) (T := TX1) (N := 16) hx hb hall inX1 tyX1 tyX1_ok nmX1 hown hK hP hD hS 0 rfl rfl 0 (by decide) (hall _ kw_323) (fun _ h9 => h9) rfl (by decide +kernel) rfl rfl (Nat.le_of_ble_eq_true rfl) dX1_assign_112 (fun H locs hP hD hS => ?_)
                  have hP : va_P (dC, dI) vwCl [(y, .inr (1, [.int (nI 3), .int (nI nD), .int (nI nR), .ref b1, .ref b2, .long now, .ref b3, .ref b4, .ref b5, .int (nI zs.length), .ref b6, .ref b7, .int (nI el), .ref b8, .ref b9, .ref b10])), (b1, .inl (cJ, 512, .inr (.inl vs))), (b2, .inl (cZ, 512, .inl (fun j => bI (ac j)))), (b3, .inl (cI, 8192, .inl (fun j => nI (o j)))), (b4, .inl (cJ, 8192, .inr (.inl mt))), (b5, .inl (cJ, 8192, .inr (.inl mw))), (b6, .inl (cJ, 16, .inr (.inl nv))), (b7, .inl (cJ, 16, .inr (.inl dl))), (b8, .inl (cJ, 8208, .inr (.inl rt))), (b9, .inl (cJ, 8208, .inr (.inl rv))), (b10, .inl (cZ, 8208, .inl (fun j => bI (mk j))))] H := hP
                  have hD : va_D A [(y, .inr (1, [.int (nI 3), .int (nI nD), .int (nI nR), .ref b1, .ref b2, .long now, .ref b3, .ref b4, .ref b5, .int (nI zs.length), .ref b6, .ref b7, .int (nI el), .ref b8, .ref b9, .ref b10])), (b1, .inl (cJ, 512, .inr (.inl vs))), (b2, .inl (cZ, 512, .inl (fun j => bI (ac j)))), (b3, .inl (cI, 8192, .inl (fun j => nI (o j)))), (b4, .inl (cJ, 8192, .inr (.inl mt))), (b5, .inl (cJ, 8192, .inr (.inl mw))), (b6, .inl (cJ, 16, .inr (.inl nv))), (b7, .inl (cJ, 16, .inr (.inl dl))), (b8, .inl (cJ, 8208, .inr (.inl rt))), (b9, .inl (cJ, 8208, .inr (.inl rv))), (b10, .inl (cZ, 8208, .inl (fun j => bI (mk j))))] := hD
                  refine lv_iconst (v := 0) hx hb dX1_assign_115 (by decide) ?_
                  exact W.iret (v := 0) hx hb hr (fun t9 ht hW => ⟨⟨0, (), rfl, trivial, by rw [ht]; exact hP, va_K.moved hW.alike hK, hD⟩, hS.F ht⟩) hS.2.2 dX1_assign_116
                · exact absurd rfl c_20
              · exact absurd rfl c_19
      · exact absurd c_5 (by omega)
    · exact absurd c_4 (by omega)
  · exact absurd rfl c_3
set_option maxHeartbeats 4000000 in
set_option maxRecDepth 100000 in
theorem m_assign0 (l : Launch) (dC : Nat → ClassId) (dI : Nat → Nat → Nat) (y b1 b2 b3 b4 b5 b6 b7 b8 b9 b10 : Nat) (cI cJ cZ : ClassId) (th nD nR : Nat) (vs : Nat → Int64) (ac : Nat → Bool) (now : Int64) (o : Nat → Nat) (mt mw : Nat → Int64) (nv dl : Nat → Int64) (el : Nat) (rt rv : Nat → Int64) (mk : Nat → Bool) (zs : List ZT) (sz : Nat) (hI : wm_I nD nR el zs) (hZ : wz zs o mt mw) (d : Nat) (hd : d < nD) (mo : Int32) (t : Int64) (hz : 0 < el) (hg : wm_g mo t now dl el) (lm : Int64) (hlm : lm = if mo = 0 then dl 0 else t) (hroom : zs.length - wc d zs + wst (wro d (now + dl 0) lm mo zs).length (wmr (wro d (now + dl 0) lm mo zs ++ wel now dl nv el 0)) + el ≤ nR) : Met l yX1_assign wsX1_assign ({ frames := 1, cells := 0, slots := 0, locals := 24 }) (va_Pc [.ref y, .int (nI d), .int mo, .long t] (fun U => U.heap.size = sz ∧ va_P (dC, dI) vwCl (wm y b1 b2 b3 b4 b5 b6 b7 b8 b9 b10 cI cJ cZ th nD nR vs ac now o mt mw zs.length nv dl el rt rv mk) U.heap ∧ va_K (dC, dI) vwCl [(cI, .int), (cJ, .long), (cZ, .boolean)] U ∧ va_D (fun _ => True) (wm y b1 b2 b3 b4 b5 b6 b7 b8 b9 b10 cI cJ cZ th nD nR vs ac now o mt mw zs.length nv dl el rt rv mk))) (va_Qi (fun (v : Int32) (_ : Unit) => v = nI (wc d zs - wst (wro d (now + dl 0) lm mo zs).length (wmr (wro d (now + dl 0) lm mo zs ++ wel now dl nv el 0)))) (fun _ t9 => ∃ (o9 : Nat → Nat) (t8 w9 r9 v9 : Nat → Int64) (m9 : Nat → Bool), wz (wot d zs ++ wml d (wmr (wro d (now + dl 0) lm mo zs ++ wel now dl nv el 0))) o9 t8 w9 ∧ va_P (dC, dI) vwCl (wm y b1 b2 b3 b4 b5 b6 b7 b8 b9 b10 cI cJ cZ 0 nD nR vs ac now o9 t8 w9 ((wot d zs ++ wml d (wmr (wro d (now + dl 0) lm mo zs ++ wel now dl nv el 0))).length) nv dl 0 r9 v9 m9) t9.heap ∧ va_K (dC, dI) vwCl [(cI, .int), (cJ, .long), (cZ, .boolean)] t9 ∧ va_D (va_A (wm y b1 b2 b3 b4 b5 b6 b7 b8 b9 b10 cI cJ cZ th nD nR vs ac now o mt mw zs.length nv dl el rt rv mk) sz) (wm y b1 b2 b3 b4 b5 b6 b7 b8 b9 b10 cI cJ cZ 0 nD nR vs ac now o9 t8 w9 ((wot d zs ++ wml d (wmr (wro d (now + dl 0) lm mo zs ++ wel now dl nv el 0))).length) nv dl 0 r9 v9 m9)) (va_A (wm y b1 b2 b3 b4 b5 b6 b7 b8 b9 b10 cI cJ cZ th nD nR vs ac now o mt mw zs.length nv dl el rt rv mk) sz)) 0 0 (va_A (wm y b1 b2 b3 b4 b5 b6 b7 b8 b9 b10 cI cJ cZ th nD nR vs ac now o mt mw zs.length nv dl el rt rv mk) sz) := by
  refine Met.ofW (cc := cX1_assign) (maxL := 13) (ret := (some .int)) (by decide) rfl ?_
  intro p e s m args below meth c s₁ B hml hv
  obtain ⟨rfl, hsz, hP, hK, hD0⟩ := hv
  subst hsz
  have hD := hD0.self (sz := s.heap.size)
  generalize hAe : va_A (wm y b1 b2 b3 b4 b5 b6 b7 b8 b9 b10 cI cJ cZ th nD nR vs ac now o mt mw zs.length nv dl el rt rv mk) s.heap.size = A at hD ⊢
  have hA : ∀ q : Nat, s.heap.size ≤ q → A q := fun q h => by rw [← hAe]; exact Or.inr h
  have hS : va_S A s.heap s.heap [] := va_S.rf
  have hx := B.exec
  have hb := B.bytes
  have hr := B.returns
  have hts := atoms_spec (ws := wsX1_assign) B.pre
  have hown : s.vm.findClass RX1 = some m.cls := findClass_of_methodNamed B.named
  have hlocks := B.notSynchronized
  have hall := fun (w : Cond) (h : w ∈ allw) => hts w (List.mem_cons_of_mem _ h)
  have hl := lv_entry ([.ref y, .int (nI d), .int mo, .long t]) (n := 13) (Nat.le_of_ble_eq_true rfl)
  rw [lg_entry_eq]
  generalize (lg_sl ([.ref y, .int (nI d), .int mo, .long t]) ++ List.replicate (13 - (lg_sl ([.ref y, .int (nI d), .int mo, .long t])).length) Slot.unset).toArray = ls at hl ⊢
  have hl : lv_has ls 13 [(0, .ref y), (1, .int (nI d)), (2, .int mo), (3, .long t)] := hl
  have hI0 := hI
  obtain ⟨hnD1, hnD, hnR1, hnR, hzR, hel, how⟩ := hI
  have hwc := wc_le d zs
  have hro := wro_len d (now + dl 0) lm mo zs
  have hEl : (wro d (now + dl 0) lm mo zs ++ wel now dl nv el 0).length = (wro d (now + dl 0) lm mo zs).length + el := by rw [List.length_append, wel_len]
  have hst1 := wst_le (wro d (now + dl 0) lm mo zs).length (wmr (wro d (now + dl 0) lm mo zs ++ wel now dl nv el 0))
  have hst2 := wE_st (R := wro d (now + dl 0) lm mo zs) (now := now) (dl := dl) (nv := nv) (el := el)
  have hmll := wml_len d (wmr (wro d (now + dl 0) lm mo zs ++ wel now dl nv el 0))
  rw [wmr_len, hst2] at hmll
  have how2 := wot_wc d zs
  have hfl : (wot d zs ++ wml d (wmr (wro d (now + dl 0) lm mo zs ++ wel now dl nv el 0))).length = (wot d zs).length + (wml d (wmr (wro d (now + dl 0) lm mo zs ++ wel now dl nv el 0))).length := List.length_append
  have h117 : ∀ (H : Heap) (locs : List Loc), va_P (dC, dI) vwCl [(y, .inr (1, [.int (nI 0), .int (nI nD), .int (nI nR), .ref b1, .ref b2, .long now, .ref b3, .ref b4, .ref b5, .int (nI zs.length), .ref b6, .ref b7, .int (nI el), .ref b8, .ref b9, .ref b10])), (b1, .inl (cJ, 512, .inr (.inl vs))), (b2, .inl (cZ, 512, .inl (fun j => bI (ac j)))), (b3, .inl (cI, 8192, .inl (fun j => nI (o j)))), (b4, .inl (cJ, 8192, .inr (.inl mt))), (b5, .inl (cJ, 8192, .inr (.inl mw))), (b6, .inl (cJ, 16, .inr (.inl nv))), (b7, .inl (cJ, 16, .inr (.inl dl))), (b8, .inl (cJ, 8208, .inr (.inl rt))), (b9, .inl (cJ, 8208, .inr (.inl rv))), (b10, .inl (cZ, 8208, .inl (fun j => bI (mk j))))] H → va_D A [(y, .inr (1, [.int (nI 0), .int (nI nD), .int (nI nR), .ref b1, .ref b2, .long now, .ref b3, .ref b4, .ref b5, .int (nI zs.length), .ref b6, .ref b7, .int (nI el), .ref b8, .ref b9, .ref b10])), (b1, .inl (cJ, 512, .inr (.inl vs))), (b2, .inl (cZ, 512, .inl (fun j => bI (ac j)))), (b3, .inl (cI, 8192, .inl (fun j => nI (o j)))), (b4, .inl (cJ, 8192, .inr (.inl mt))), (b5, .inl (cJ, 8192, .inr (.inl mw))), (b6, .inl (cJ, 16, .inr (.inl nv))), (b7, .inl (cJ, 16, .inr (.inl dl))), (b8, .inl (cJ, 8208, .inr (.inl rt))), (b9, .inl (cJ, 8208, .inr (.inl rv))), (b10, .inl (cZ, 8208, .inl (fun j => bI (mk j))))] → va_S A s.heap H locs → ∀ (ls : Array Slot), lv_has ls 13 [(0, .ref y), (1, .int (nI d)), (2, .int mo), (3, .long t)] → W p l e (headSpec wsX1_assign ({ frames := 1, cells := 0, slots := 0, locals := 24 })).room s m (([.ref y, .int (nI d), .int mo, .long t] : List Value).toArray) below meth c H locs 0 0 (MQ below (va_Qi (fun (v : Int32) (_ : Unit) => v = nI (wc d zs - wst (wro d (now + dl 0) lm mo zs).length (wmr (wro d (now + dl 0) lm mo zs ++ wel now dl nv el 0)))) (fun _ t9 => ∃ (o9 : Nat → Nat) (t8 w9 r9 v9 : Nat → Int64) (m9 : Nat → Bool), wz (wot d zs ++ wml d (wmr (wro d (now + dl 0) lm mo zs ++ wel now dl nv el 0))) o9 t8 w9 ∧ va_P (dC, dI) vwCl (wm y b1 b2 b3 b4 b5 b6 b7 b8 b9 b10 cI cJ cZ 0 nD nR vs ac now o9 t8 w9 ((wot d zs ++ wml d (wmr (wro d (now + dl 0) lm mo zs ++ wel now dl nv el 0))).length) nv dl 0 r9 v9 m9) t9.heap ∧ va_K (dC, dI) vwCl [(cI, .int), (cJ, .long), (cZ, .boolean)] t9 ∧ va_D A (wm y b1 b2 b3 b4 b5 b6 b7 b8 b9 b10 cI cJ cZ 0 nD nR vs ac now o9 t8 w9 ((wot d zs ++ wml d (wmr (wro d (now + dl 0) lm mo zs ++ wel now dl nv el 0))).length) nv dl 0 r9 v9 m9)) A) (([.ref y, .int (nI d), .int mo, .long t] : List Value).toArray) s 0 0 A) (F0 m 117 ls []) := by
    intro H locs hP hD hS ls hl
    refine lv_aload_n hx hb dX1_assign_117 rfl (lv_at hl 0 rfl) ?_
    refine va_get (D := (dC, dI)) (ci := 1) (v := .long now) (C := RX1) (T := TX1) (N := 16) hx hb hall inX1 hown hK hP 0 rfl rfl 5 (by decide) (hall _ kw_328) (fun _ h9 => h9) rfl dX1_assign_118 ?_
    refine lv_aload_n hx hb dX1_assign_121 rfl (lv_at hl 0 rfl) ?_
    refine va_get (D := (dC, dI)) (ci := 1) (v := .ref b7) (C := RX1) (T := TX1) (N := 16) hx hb hall inX1 hown hK hP 0 rfl rfl 11 (by decide) (hall _ kw_334) (fun _ h9 => h9) rfl dX1_assign_122 ?_
    refine lv_iconst (v := 0) hx hb dX1_assign_125 (by decide) ?_
    refine tp_i (y := nI 0) nI_0.symm ?_
    refine xa_lald hx hb hK hP 7 1 rfl rfl (by omega) (by omega) dX1_assign_126 ?_
    refine lv_ladd hx hb dX1_assign_127 ?_
    refine lv_lstore (lv' := [(6, .long (now + (dl 0))), (0, .ref y), (1, .int (nI d)), (2, .int mo), (3, .long t)]) hx hb dX1_assign_128 hl (by decide) rfl (fun ls hl => ?_)
    refine lv_iconst (v := 0) hx hb dX1_assign_130 (by decide) ?_
    refine tp_i (y := nI 0) nI_0.symm ?_
    refine lv_istore (lv' := [(8, .int (nI 0)), (6, .long (now + (dl 0))), (0, .ref y), (1, .int (nI d)), (2, .int mo), (3, .long t)]) hx hb dX1_assign_131 hl (by decide) rfl (fun ls hl => ?_)
    refine lv_iconst (v := 0) hx hb dX1_assign_133 (by decide) ?_
    refine tp_i (y := nI 0) nI_0.symm ?_
    refine lv_istore (lv' := [(9, .int (nI 0)), (8, .int (nI 0)), (6, .long (now + (dl 0))), (0, .ref y), (1, .int (nI d)), (2, .int mo), (3, .long t)]) hx hb dX1_assign_134 hl (by decide) rfl (fun ls hl => ?_)
    refine lv_iconst (v := 0) hx hb dX1_assign_136 (by decide) ?_
    refine tp_i (y := nI 0) nI_0.symm ?_
    refine lv_istore (lv' := [(10, .int (nI 0)), (9, .int (nI 0)), (8, .int (nI 0)), (6, .long (now + (dl 0))), (0, .ref y), (1, .int (nI d)), (2, .int mo), (3, .long t)]) hx hb dX1_assign_137 hl (by decide) rfl (fun ls hl => ?_)
    have hloop4 : ∀ (rtc rvc : Nat → Int64) (mkc : Nat → Bool) (H : Heap) (locs : List Loc), wx (wmr (wro d (now + dl 0) lm mo zs ++ wel now dl nv el 0)) rtc rvc mkc → va_P (dC, dI) vwCl [(y, .inr (1, [.int (nI 0), .int (nI nD), .int (nI nR), .ref b1, .ref b2, .long now, .ref b3, .ref b4, .ref b5, .int (nI zs.length), .ref b6, .ref b7, .int (nI el), .ref b8, .ref b9, .ref b10])), (b1, .inl (cJ, 512, .inr (.inl vs))), (b2, .inl (cZ, 512, .inl (fun j => bI (ac j)))), (b3, .inl (cI, 8192, .inl (fun j => nI (o j)))), (b4, .inl (cJ, 8192, .inr (.inl mt))), (b5, .inl (cJ, 8192, .inr (.inl mw))), (b6, .inl (cJ, 16, .inr (.inl nv))), (b7, .inl (cJ, 16, .inr (.inl dl))), (b8, .inl (cJ, 8208, .inr (.inl rtc))), (b9, .inl (cJ, 8208, .inr (.inl rvc))), (b10, .inl (cZ, 8208, .inl (fun j => bI (mkc j))))] H → va_D A [(y, .inr (1, [.int (nI 0), .int (nI nD), .int (nI nR), .ref b1, .ref b2, .long now, .ref b3, .ref b4, .ref b5, .int (nI zs.length), .ref b6, .ref b7, .int (nI el), .ref b8, .ref b9, .ref b10])), (b1, .inl (cJ, 512, .inr (.inl vs))), (b2, .inl (cZ, 512, .inl (fun j => bI (ac j)))), (b3, .inl (cI, 8192, .inl (fun j => nI (o j)))), (b4, .inl (cJ, 8192, .inr (.inl mt))), (b5, .inl (cJ, 8192, .inr (.inl mw))), (b6, .inl (cJ, 16, .inr (.inl nv))), (b7, .inl (cJ, 16, .inr (.inl dl))), (b8, .inl (cJ, 8208, .inr (.inl rtc))), (b9, .inl (cJ, 8208, .inr (.inl rvc))), (b10, .inl (cZ, 8208, .inl (fun j => bI (mkc j))))] → va_S A s.heap H locs → ∀ (n k c0 : Nat) (ls : Array Slot), k + n = (wro d (now + dl 0) lm mo zs).length → c0 ≤ k → c0 + wcn mkc n k = wcn mkc (wro d (now + dl 0) lm mo zs).length 0 → lv_has ls 13 [(0, .ref y), (1, .int (nI d)), (8, .int (nI (wro d (now + dl 0) lm mo zs ++ wel now dl nv el 0).length)), (9, .int (nI (wc d zs))), (10, .int (nI (wro d (now + dl 0) lm mo zs).length)), (11, .int (nI c0)), (12, .int (nI k))] → W p l e (headSpec wsX1_assign ({ frames := 1, cells := 0, slots := 0, locals := 24 })).room s m (([.ref y, .int (nI d), .int mo, .long t] : List Value).toArray) below meth c H locs 0 0 (MQ below (va_Qi (fun (v : Int32) (_ : Unit) => v = nI (wc d zs - wst (wro d (now + dl 0) lm mo zs).length (wmr (wro d (now + dl 0) lm mo zs ++ wel now dl nv el 0)))) (fun _ t9 => ∃ (o9 : Nat → Nat) (t8 w9 r9 v9 : Nat → Int64) (m9 : Nat → Bool), wz (wot d zs ++ wml d (wmr (wro d (now + dl 0) lm mo zs ++ wel now dl nv el 0))) o9 t8 w9 ∧ va_P (dC, dI) vwCl (wm y b1 b2 b3 b4 b5 b6 b7 b8 b9 b10 cI cJ cZ 0 nD nR vs ac now o9 t8 w9 ((wot d zs ++ wml d (wmr (wro d (now + dl 0) lm mo zs ++ wel now dl nv el 0))).length) nv dl 0 r9 v9 m9) t9.heap ∧ va_K (dC, dI) vwCl [(cI, .int), (cJ, .long), (cZ, .boolean)] t9 ∧ va_D A (wm y b1 b2 b3 b4 b5 b6 b7 b8 b9 b10 cI cJ cZ 0 nD nR vs ac now o9 t8 w9 ((wot d zs ++ wml d (wmr (wro d (now + dl 0) lm mo zs ++ wel now dl nv el 0))).length) nv dl 0 r9 v9 m9)) A) (([.ref y, .int (nI d), .int mo, .long t] : List Value).toArray) s 0 0 A) (F0 m 400 ls []) := by
      intro rtc rvc mkc H locs hM hP hD hS n
      induction n with
      | zero =>
        intro k c0 ls hk hck hc hl
        obtain rfl : c0 = wst (wro d (now + dl 0) lm mo zs).length (wmr (wro d (now + dl 0) lm mo zs ++ wel now dl nv el 0)) := (show c0 = wcn mkc (wro d (now + dl 0) lm mo zs).length 0 from hc).trans ((wcn_st hM (wro d (now + dl 0) lm mo zs).length 0 (by rw [wmr_len]; omega)).trans (by rw [List.drop_zero]))
        have e9 : wot d zs ++ wmk d rtc rvc mkc (wro d (now + dl 0) lm mo zs ++ wel now dl nv el 0).length 0 = wot d zs ++ wml d (wmr (wro d (now + dl 0) lm mo zs ++ wel now dl nv el 0)) := by rw [show (wro d (now + dl 0) lm mo zs ++ wel now dl nv el 0).length = (wmr (wro d (now + dl 0) lm mo zs ++ wel now dl nv el 0)).length from (wmr_len _).symm, wmk_ml d hM (wmr (wro d (now + dl 0) lm mo zs ++ wel now dl nv el 0)) 0 List.drop_zero]
        refine lv_iload hx hb dX1_assign_400 (lv_at hl 6 rfl) ?_
        refine lv_iload hx hb dX1_assign_402 (lv_at hl 4 rfl) ?_
        refine xc_ge (tgt := 434) hx hb (by omega) (by omega) dX1_assign_404 (by decide) (fun c_1 => ?_) (fun c_1 => ?_)
        · refine lv_aload_n hx hb dX1_assign_434 rfl (lv_at hl 0 rfl) ?_
          refine va_get (D := (dC, dI)) (ci := 1) (v := .int (nI zs.length)) (C := RX1) (T := TX1) (N := 16) hx hb hall inX1 hown hK hP 0 rfl rfl 9 (by decide) (hall _ kw_332) (fun _ h9 => h9) rfl dX1_assign_435 ?_
          refine lv_iload hx hb dX1_assign_438 (lv_at hl 3 rfl) ?_
          refine lv_isub hx hb dX1_assign_440 ?_
          refine tp_i (y := nI (zs.length - wc d zs)) (pk_sub hwc) ?_
          refine lv_iload hx hb dX1_assign_441 (lv_at hl 5 rfl) ?_
          refine lv_iadd hx hb dX1_assign_443 ?_
          refine tp_i (y := nI (zs.length - wc d zs + wst (wro d (now + dl 0) lm mo zs).length (wmr (wro d (now + dl 0) lm mo zs ++ wel now dl nv el 0)))) (nI_add _ _) ?_
          refine lv_aload_n hx hb dX1_assign_444 rfl (lv_at hl 0 rfl) ?_
          refine va_get (D := (dC, dI)) (ci := 1) (v := .int (nI el)) (C := RX1) (T := TX1) (N := 16) hx hb hall inX1 hown hK hP 0 rfl rfl 12 (by decide) (hall _ kw_335) (fun _ h9 => h9) rfl dX1_assign_445 ?_
          refine lv_iadd hx hb dX1_assign_448 ?_
          refine tp_i (y := nI (zs.length - wc d zs + wst (wro d (now + dl 0) lm mo zs).length (wmr (wro d (now + dl 0) lm mo zs ++ wel now dl nv el 0)) + el)) (nI_add _ _) ?_
          refine lv_aload_n hx hb dX1_assign_449 rfl (lv_at hl 0 rfl) ?_
          refine va_get (D := (dC, dI)) (ci := 1) (v := .int (nI nR)) (C := RX1) (T := TX1) (N := 16) hx hb hall inX1 hown hK hP 0 rfl rfl 2 (by decide) (hall _ kw_325) (fun _ h9 => h9) rfl dX1_assign_450 ?_
          refine xc_le (tgt := 463) hx hb (by omega) (by omega) dX1_assign_453 (by decide) (fun c_2 => ?_) (fun c_2 => ?_)
          · refine lv_aload_n hx hb dX1_assign_463 rfl (lv_at hl 0 rfl) ?_
            refine lv_iload_n hx hb dX1_assign_464 rfl (lv_at hl 1 rfl) ?_
            refine lv_iload hx hb dX1_assign_465 (lv_at hl 2 rfl) ?_
            have hFc := va_free (wc := [(y, .inr (1, [.int (nI 0), .int (nI nD), .int (nI nR), .ref b1, .ref b2, .long now, .ref b3, .ref b4, .ref b5, .int (nI zs.length), .ref b6, .ref b7, .int (nI el), .ref b8, .ref b9, .ref b10])), (b1, .inl (cJ, 512, .inr (.inl vs))), (b2, .inl (cZ, 512, .inl (fun j => bI (ac j)))), (b3, .inl (cI, 8192, .inl (fun j => nI (o j)))), (b4, .inl (cJ, 8192, .inr (.inl mt))), (b5, .inl (cJ, 8192, .inr (.inl mw))), (b6, .inl (cJ, 16, .inr (.inl nv))), (b7, .inl (cJ, 16, .inr (.inl dl))), (b8, .inl (cJ, 8208, .inr (.inl rtc))), (b9, .inl (cJ, 8208, .inr (.inl rvc))), (b10, .inl (cZ, 8208, .inl (fun j => bI (mkc j))))]) hD hS hA [0, 1, 2, 3, 4, 5, 6, 7, 8, 9, 10] rfl
            refine va_callv (va_runV (As := [.int (nI d), .int (nI (wro d (now + dl 0) lm mo zs ++ wel now dl nv el 0).length)]) (rest := []) ⟨hx, hb, hml, hown, hall⟩ (m_replace l dC dI y b1 b2 b3 b4 b5 b6 b7 b8 b9 b10 cI cJ cZ 0 nD nR vs ac now o mt mw nv dl el rtc rvc mkc zs H.size hI0 hZ d hd (wro d (now + dl 0) lm mo zs ++ wel now dl nv el 0).length (by omega) (by rw [e9]; omega)) (cwV 2 hall gX1_72 rfl rfl rfl (by decide +kernel) ⟨Nat.le_of_ble_eq_true rfl, Nat.le_of_ble_eq_true rfl⟩) ⟨xu_blind, va_recv hK hP (ci := 1) (q0 := 0) rfl rfl, fun U hU hW => ⟨rfl, by rw [hU], by rw [hU]; exact hP, va_K.moved hW.alike hK, hD.weaken (fun _ _ _ _ => trivial)⟩⟩ rfl rfl hl.1 rfl (lv_room (Nat.le_of_ble_eq_true rfl)) dX1_assign_467 ⟨Nat.le_of_ble_eq_true rfl, Nat.le_of_ble_eq_true rfl⟩) hS (fun q _ h => hFc q h) hFc (fun u9 t9 H1 locs ht9 hvm hw9 hB hz1 hk1 hS => ?_)
            obtain ⟨o9, t8, w9, hZ9, hP1, hK1, hD1⟩ := hB
            rw [ht9] at hP1
            obtain ⟨hP, hD⟩ := va_join (wr := []) (w1 := [(y, .inr (1, [.int (nI 0), .int (nI nD), .int (nI nR), .ref b1, .ref b2, .long now, .ref b3, .ref b4, .ref b5, .int (nI ((wot d zs ++ wmk d rtc rvc mkc (wro d (now + dl 0) lm mo zs ++ wel now dl nv el 0).length 0).length)), .ref b6, .ref b7, .int (nI el), .ref b8, .ref b9, .ref b10])), (b1, .inl (cJ, 512, .inr (.inl vs))), (b2, .inl (cZ, 512, .inl (fun j => bI (ac j)))), (b3, .inl (cI, 8192, .inl (fun j => nI (o9 j)))), (b4, .inl (cJ, 8192, .inr (.inl t8))), (b5, .inl (cJ, 8192, .inr (.inl w9))), (b6, .inl (cJ, 16, .inr (.inl nv))), (b7, .inl (cJ, 16, .inr (.inl dl))), (b8, .inl (cJ, 8208, .inr (.inl rtc))), (b9, .inl (cJ, 8208, .inr (.inl rvc))), (b10, .inl (cZ, 8208, .inl (fun j => bI (mkc j))))]) hP hD [0, 1, 2, 3, 4, 5, 6, 7, 8, 9, 10] [] rfl rfl (by decide) (by decide) hk1 hFc hP1 hD1
            generalize H1 = H at hP hS ⊢
            have hP : va_P (dC, dI) vwCl [(y, .inr (1, [.int (nI 0), .int (nI nD), .int (nI nR), .ref b1, .ref b2, .long now, .ref b3, .ref b4, .ref b5, .int (nI ((wot d zs ++ wmk d rtc rvc mkc (wro d (now + dl 0) lm mo zs ++ wel now dl nv el 0).length 0).length)), .ref b6, .ref b7, .int (nI el), .ref b8, .ref b9, .ref b10])), (b1, .inl (cJ, 512, .inr (.inl vs))), (b2, .inl (cZ, 512, .inl (fun j => bI (ac j)))), (b3, .inl (cI, 8192, .inl (fun j => nI (o9 j)))), (b4, .inl (cJ, 8192, .inr (.inl t8))), (b5, .inl (cJ, 8192, .inr (.inl w9))), (b6, .inl (cJ, 16, .inr (.inl nv))), (b7, .inl (cJ, 16, .inr (.inl dl))), (b8, .inl (cJ, 8208, .inr (.inl rtc))), (b9, .inl (cJ, 8208, .inr (.inl rvc))), (b10, .inl (cZ, 8208, .inl (fun j => bI (mkc j))))] H := hP
            have hD : va_D A [(y, .inr (1, [.int (nI 0), .int (nI nD), .int (nI nR), .ref b1, .ref b2, .long now, .ref b3, .ref b4, .ref b5, .int (nI ((wot d zs ++ wmk d rtc rvc mkc (wro d (now + dl 0) lm mo zs ++ wel now dl nv el 0).length 0).length)), .ref b6, .ref b7, .int (nI el), .ref b8, .ref b9, .ref b10])), (b1, .inl (cJ, 512, .inr (.inl vs))), (b2, .inl (cZ, 512, .inl (fun j => bI (ac j)))), (b3, .inl (cI, 8192, .inl (fun j => nI (o9 j)))), (b4, .inl (cJ, 8192, .inr (.inl t8))), (b5, .inl (cJ, 8192, .inr (.inl w9))), (b6, .inl (cJ, 16, .inr (.inl nv))), (b7, .inl (cJ, 16, .inr (.inl dl))), (b8, .inl (cJ, 8208, .inr (.inl rtc))), (b9, .inl (cJ, 8208, .inr (.inl rvc))), (b10, .inl (cZ, 8208, .inl (fun j => bI (mkc j))))] := hD
            rw [e9] at hZ9 hP hD
            refine lv_aload_n hx hb dX1_assign_470 rfl (lv_at hl 0 rfl) ?_
            refine lv_iconst (v := 0) hx hb dX1_assign_471 (by decide) ?_
            refine tp_i (y := nI 0) nI_0.symm ?_
            refine va_put (D := (dC, dI)) (ci := 1) (v := .int (nI 0)) (ty := .int) (C := RX1) (T := TX1) (N := 16) hx hb hall inX1 tyX1 tyX1_ok nmX1 hown hK hP hD hS 0 rfl rfl 12 (by decide) (hall _ kw_335) (fun _ h9 => h9) rfl (by decide +kernel) rfl rfl (Nat.le_of_ble_eq_true rfl) dX1_assign_472 (fun H locs hP hD hS => ?_)
            have hP : va_P (dC, dI) vwCl [(y, .inr (1, [.int (nI 0), .int (nI nD), .int (nI nR), .ref b1, .ref b2, .long now, .ref b3, .ref b4, .ref b5, .int (nI (wot d zs ++ wml d (wmr (wro d (now + dl 0) lm mo zs ++ wel now dl nv el 0))).length), .ref b6, .ref b7, .int (nI 0), .ref b8, .ref b9, .ref b10])), (b1, .inl (cJ, 512, .inr (.inl vs))), (b2, .inl (cZ, 512, .inl (fun j => bI (ac j)))), (b3, .inl (cI, 8192, .inl (fun j => nI (o9 j)))), (b4, .inl (cJ, 8192, .inr (.inl t8))), (b5, .inl (cJ, 8192, .inr (.inl w9))), (b6, .inl (cJ, 16, .inr (.inl nv))), (b7, .inl (cJ, 16, .inr (.inl dl))), (b8, .inl (cJ, 8208, .inr (.inl rtc))), (b9, .inl (cJ, 8208, .inr (.inl rvc))), (b10, .inl (cZ, 8208, .inl (fun j => bI (mkc j))))] H := hP
            have hD : va_D A [(y, .inr (1, [.int (nI 0), .int (nI nD), .int (nI nR), .ref b1, .ref b2, .long now, .ref b3, .ref b4, .ref b5, .int (nI (wot d zs ++ wml d (wmr (wro d (now + dl 0) lm mo zs ++ wel now dl nv el 0))).length), .ref b6, .ref b7, .int (nI 0), .ref b8, .ref b9, .ref b10])), (b1, .inl (cJ, 512, .inr (.inl vs))), (b2, .inl (cZ, 512, .inl (fun j => bI (ac j)))), (b3, .inl (cI, 8192, .inl (fun j => nI (o9 j)))), (b4, .inl (cJ, 8192, .inr (.inl t8))), (b5, .inl (cJ, 8192, .inr (.inl w9))), (b6, .inl (cJ, 16, .inr (.inl nv))), (b7, .inl (cJ, 16, .inr (.inl dl))), (b8, .inl (cJ, 8208, .inr (.inl rtc))), (b9, .inl (cJ, 8208, .inr (.inl rvc))), (b10, .inl (cZ, 8208, .inl (fun j => bI (mkc j))))] := hD
            refine lv_iload hx hb dX1_assign_475 (lv_at hl 3 rfl) ?_
            refine lv_iload hx hb dX1_assign_477 (lv_at hl 5 rfl) ?_
            refine lv_isub hx hb dX1_assign_479 ?_
            refine tp_i (y := nI (wc d zs - wst (wro d (now + dl 0) lm mo zs).length (wmr (wro d (now + dl 0) lm mo zs ++ wel now dl nv el 0)))) (pk_sub (by omega)) ?_
            exact W.iret (v := nI (wc d zs - wst (wro d (now + dl 0) lm mo zs).length (wmr (wro d (now + dl 0) lm mo zs ++ wel now dl nv el 0)))) hx hb hr (fun t9 ht hW => ⟨⟨nI (wc d zs - wst (wro d (now + dl 0) lm mo zs).length (wmr (wro d (now + dl 0) lm mo zs ++ wel now dl nv el 0))), (), rfl, rfl, o9, t8, w9, rtc, rvc, mkc, hZ9, by rw [ht]; exact hP, va_K.moved hW.alike hK, hD⟩, hS.F ht⟩) hS.2.2 dX1_assign_480
          · exact absurd c_2 (by omega)
        · exact absurd c_1 (by omega)
      | succ n ih =>
        intro k c0 ls hk hck hc hl
        refine lv_iload hx hb dX1_assign_400 (lv_at hl 6 rfl) ?_
        refine lv_iload hx hb dX1_assign_402 (lv_at hl 4 rfl) ?_
        refine xc_ge (tgt := 434) hx hb (by omega) (by omega) dX1_assign_404 (by decide) (fun c_4 => ?_) (fun c_4 => ?_)
        · exact absurd c_4 (by omega)
        · refine lv_aload_n hx hb dX1_assign_407 rfl (lv_at hl 0 rfl) ?_
          refine va_get (D := (dC, dI)) (ci := 1) (v := .ref b10) (C := RX1) (T := TX1) (N := 16) hx hb hall inX1 hown hK hP 0 rfl rfl 15 (by decide) (hall _ kw_338) (fun _ h9 => h9) rfl dX1_assign_408 ?_
          refine lv_iload hx hb dX1_assign_411 (lv_at hl 6 rfl) ?_
          refine xa_zald hx hb hK hP 10 2 rfl rfl (by omega) (by omega) dX1_assign_413 ?_
          refine xb_eq (tgt := 424) hx hb dX1_assign_414 (by decide) (fun c_5 => ?_) (fun c_5 => ?_)
          · have c_A := c_5
            refine lv_iload hx hb dX1_assign_424 (lv_at hl 5 rfl) ?_
            refine lv_istore (lv' := [(11, .int (nI c0)), (0, .ref y), (1, .int (nI d)), (8, .int (nI (wro d (now + dl 0) lm mo zs ++ wel now dl nv el 0).length)), (9, .int (nI (wc d zs))), (10, .int (nI (wro d (now + dl 0) lm mo zs).length)), (12, .int (nI k))]) hx hb dX1_assign_426 hl (by decide) rfl (fun ls hl => ?_)
            refine lv_iinc (v := nI (k + 1)) (lv' := [(12, .int (nI (k + 1))), (11, .int (nI c0)), (0, .ref y), (1, .int (nI d)), (8, .int (nI (wro d (now + dl 0) lm mo zs ++ wel now dl nv el 0).length)), (9, .int (nI (wc d zs))), (10, .int (nI (wro d (now + dl 0) lm mo zs).length))]) hx hb dX1_assign_428 hl (k := 6) rfl (nI_1 k) (by decide) rfl (fun ls hl => ?_)
            refine lv_goto (tgt := 400) hx hb dX1_assign_431 (by decide) ?_
            exact ih (k + 1) (c0) ls (by omega) (by omega) (by rw [← hc]; show _ = _ + ((if mkc k = true then 1 else 0) + _); first | rw [if_pos c_A]; omega | rw [if_neg (by rw [c_A]; decide)]; omega) (lv_sub hl [2, 3, 4, 5, 6, 1, 0] rfl)
          · have c_A := c_5
            refine lv_iload hx hb dX1_assign_417 (lv_at hl 5 rfl) ?_
            refine lv_iconst (v := 1) hx hb dX1_assign_419 (by decide) ?_
            refine lv_iadd hx hb dX1_assign_420 ?_
            refine tp_i (y := nI (c0 + 1)) (nI_1 c0) ?_
            refine lv_goto (tgt := 426) hx hb dX1_assign_421 (by decide) ?_
            refine lv_istore (lv' := [(11, .int (nI (c0 + 1))), (0, .ref y), (1, .int (nI d)), (8, .int (nI (wro d (now + dl 0) lm mo zs ++ wel now dl nv el 0).length)), (9, .int (nI (wc d zs))), (10, .int (nI (wro d (now + dl 0) lm mo zs).length)), (12, .int (nI k))]) hx hb dX1_assign_426 hl (by decide) rfl (fun ls hl => ?_)
            refine lv_iinc (v := nI (k + 1)) (lv' := [(12, .int (nI (k + 1))), (11, .int (nI (c0 + 1))), (0, .ref y), (1, .int (nI d)), (8, .int (nI (wro d (now + dl 0) lm mo zs ++ wel now dl nv el 0).length)), (9, .int (nI (wc d zs))), (10, .int (nI (wro d (now + dl 0) lm mo zs).length))]) hx hb dX1_assign_428 hl (k := 6) rfl (nI_1 k) (by decide) rfl (fun ls hl => ?_)
            refine lv_goto (tgt := 400) hx hb dX1_assign_431 (by decide) ?_
            exact ih (k + 1) (c0 + 1) ls (by omega) (by omega) (by rw [← hc]; show _ = _ + ((if mkc k = true then 1 else 0) + _); first | rw [if_pos c_A]; omega | rw [if_neg (by rw [c_A]; decide)]; omega) (lv_sub hl [2, 3, 4, 5, 6, 1, 0] rfl)
    have hloop3 : ∀ (rtc rvc : Nat → Int64) (mk0 : Nat → Bool), wx (wro d (now + dl 0) lm mo zs ++ wel now dl nv el 0) rtc rvc mk0 → ∀ (n : Nat) (mkc : Nat → Bool) (H : Heap) (locs : List Loc) (ls : Array Slot), n ≤ (wro d (now + dl 0) lm mo zs).length → wbm (wro d (now + dl 0) lm mo zs ++ wel now dl nv el 0) n mkc → va_P (dC, dI) vwCl [(y, .inr (1, [.int (nI 0), .int (nI nD), .int (nI nR), .ref b1, .ref b2, .long now, .ref b3, .ref b4, .ref b5, .int (nI zs.length), .ref b6, .ref b7, .int (nI el), .ref b8, .ref b9, .ref b10])), (b1, .inl (cJ, 512, .inr (.inl vs))), (b2, .inl (cZ, 512, .inl (fun j => bI (ac j)))), (b3, .inl (cI, 8192, .inl (fun j => nI (o j)))), (b4, .inl (cJ, 8192, .inr (.inl mt))), (b5, .inl (cJ, 8192, .inr (.inl mw))), (b6, .inl (cJ, 16, .inr (.inl nv))), (b7, .inl (cJ, 16, .inr (.inl dl))), (b8, .inl (cJ, 8208, .inr (.inl rtc))), (b9, .inl (cJ, 8208, .inr (.inl rvc))), (b10, .inl (cZ, 8208, .inl (fun j => bI (mkc j))))] H → va_D A [(y, .inr (1, [.int (nI 0), .int (nI nD), .int (nI nR), .ref b1, .ref b2, .long now, .ref b3, .ref b4, .ref b5, .int (nI zs.length), .ref b6, .ref b7, .int (nI el), .ref b8, .ref b9, .ref b10])), (b1, .inl (cJ, 512, .inr (.inl vs))), (b2, .inl (cZ, 512, .inl (fun j => bI (ac j)))), (b3, .inl (cI, 8192, .inl (fun j => nI (o j)))), (b4, .inl (cJ, 8192, .inr (.inl mt))), (b5, .inl (cJ, 8192, .inr (.inl mw))), (b6, .inl (cJ, 16, .inr (.inl nv))), (b7, .inl (cJ, 16, .inr (.inl dl))), (b8, .inl (cJ, 8208, .inr (.inl rtc))), (b9, .inl (cJ, 8208, .inr (.inl rvc))), (b10, .inl (cZ, 8208, .inl (fun j => bI (mkc j))))] → va_S A s.heap H locs → lv_has ls 13 [(0, .ref y), (1, .int (nI d)), (8, .int (nI (wro d (now + dl 0) lm mo zs ++ wel now dl nv el 0).length)), (9, .int (nI (wc d zs))), (10, .int (nI (wro d (now + dl 0) lm mo zs).length)), (11, .int (nI n - 1))] → W p l e (headSpec wsX1_assign ({ frames := 1, cells := 0, slots := 0, locals := 24 })).room s m (([.ref y, .int (nI d), .int mo, .long t] : List Value).toArray) below meth c H locs 0 0 (MQ below (va_Qi (fun (v : Int32) (_ : Unit) => v = nI (wc d zs - wst (wro d (now + dl 0) lm mo zs).length (wmr (wro d (now + dl 0) lm mo zs ++ wel now dl nv el 0)))) (fun _ t9 => ∃ (o9 : Nat → Nat) (t8 w9 r9 v9 : Nat → Int64) (m9 : Nat → Bool), wz (wot d zs ++ wml d (wmr (wro d (now + dl 0) lm mo zs ++ wel now dl nv el 0))) o9 t8 w9 ∧ va_P (dC, dI) vwCl (wm y b1 b2 b3 b4 b5 b6 b7 b8 b9 b10 cI cJ cZ 0 nD nR vs ac now o9 t8 w9 ((wot d zs ++ wml d (wmr (wro d (now + dl 0) lm mo zs ++ wel now dl nv el 0))).length) nv dl 0 r9 v9 m9) t9.heap ∧ va_K (dC, dI) vwCl [(cI, .int), (cJ, .long), (cZ, .boolean)] t9 ∧ va_D A (wm y b1 b2 b3 b4 b5 b6 b7 b8 b9 b10 cI cJ cZ 0 nD nR vs ac now o9 t8 w9 ((wot d zs ++ wml d (wmr (wro d (now + dl 0) lm mo zs ++ wel now dl nv el 0))).length) nv dl 0 r9 v9 m9)) A) (([.ref y, .int (nI d), .int mo, .long t] : List Value).toArray) s 0 0 A) (F0 m 329 ls []) := by
      intro rtc rvc mk0 hE n
      induction n with
      | zero =>
        intro mkc H locs ls hn hbm hP hD hS hl
        refine lv_iload hx hb dX1_assign_329 (lv_at hl 5 rfl) ?_
        refine lv_if_lt (tgt := 394) hx hb dX1_assign_331 (by decide) (fun c_6 => ?_) (fun c_6 => ?_)
        · refine lv_iconst (v := 0) hx hb dX1_assign_394 (by decide) ?_
          refine tp_i (y := nI 0) nI_0.symm ?_
          refine lv_istore (lv' := [(11, .int (nI 0)), (0, .ref y), (1, .int (nI d)), (8, .int (nI (wro d (now + dl 0) lm mo zs ++ wel now dl nv el 0).length)), (9, .int (nI (wc d zs))), (10, .int (nI (wro d (now + dl 0) lm mo zs).length))]) hx hb dX1_assign_395 hl (by decide) rfl (fun ls hl => ?_)
          refine lv_iconst (v := 0) hx hb dX1_assign_397 (by decide) ?_
          refine tp_i (y := nI 0) nI_0.symm ?_
          refine lv_istore (lv' := [(12, .int (nI 0)), (11, .int (nI 0)), (0, .ref y), (1, .int (nI d)), (8, .int (nI (wro d (now + dl 0) lm mo zs ++ wel now dl nv el 0).length)), (9, .int (nI (wc d zs))), (10, .int (nI (wro d (now + dl 0) lm mo zs).length))]) hx hb dX1_assign_398 hl (by decide) rfl (fun ls hl => ?_)
          exact hloop4 rtc rvc mkc H locs (wbm_end hE hbm) hP hD hS (wro d (now + dl 0) lm mo zs).length 0 0 ls (by omega) (by omega) (by omega) (lv_sub hl [2, 3, 4, 5, 6, 1, 0] rfl)
        · exact absurd (by decide) c_6
      | succ n ih =>
        intro mkc H locs ls hn hbm hP hD hS hl
        have hl : lv_has ls 13 [(0, .ref y), (1, .int (nI d)), (8, .int (nI (wro d (now + dl 0) lm mo zs ++ wel now dl nv el 0).length)), (9, .int (nI (wc d zs))), (10, .int (nI (wro d (now + dl 0) lm mo zs).length)), (11, .int (nI n))] := by rw [show nI n = nI (n + 1) - 1 from (nI_pred n).symm]; exact hl
        refine lv_iload hx hb dX1_assign_329 (lv_at hl 5 rfl) ?_
        refine lv_if_lt (tgt := 394) hx hb dX1_assign_331 (by decide) (fun c_7 => ?_) (fun c_7 => ?_)
        · exact absurd c_7 (nI_pos (by omega))
        · refine lv_aload_n hx hb dX1_assign_334 rfl (lv_at hl 0 rfl) ?_
          refine va_get (D := (dC, dI)) (ci := 1) (v := .ref b10) (C := RX1) (T := TX1) (N := 16) hx hb hall inX1 hown hK hP 0 rfl rfl 15 (by decide) (hall _ kw_338) (fun _ h9 => h9) rfl dX1_assign_335 ?_
          refine lv_iload hx hb dX1_assign_338 (lv_at hl 5 rfl) ?_
          refine lv_aload_n hx hb dX1_assign_340 rfl (lv_at hl 0 rfl) ?_
          refine va_get (D := (dC, dI)) (ci := 1) (v := .ref b10) (C := RX1) (T := TX1) (N := 16) hx hb hall inX1 hown hK hP 0 rfl rfl 15 (by decide) (hall _ kw_338) (fun _ h9 => h9) rfl dX1_assign_341 ?_
          refine lv_iload hx hb dX1_assign_344 (lv_at hl 5 rfl) ?_
          refine xa_zald hx hb hK hP 10 2 rfl rfl (by omega) (by omega) dX1_assign_346 ?_
          refine xb_ne (tgt := 382) hx hb dX1_assign_347 (by decide) (fun c_8 => ?_) (fun c_8 => ?_)
          · have c_P := c_8
            refine lv_iconst (v := 1) hx hb dX1_assign_382 (by decide) ?_
            refine tp_i (y := bI (mkc n || (mkc (n + 1) && decide (rvc (n + 1) = rvc n)))) (by first | (rw [c_P]; rfl) | (rw [c_P, c_S, decide_eq_true c_V]; rfl)) ?_
            refine lv_goto (tgt := 387) hx hb dX1_assign_383 (by decide) ?_
            refine xa_zast hx hb hK hP hD hS 10 2 rfl rfl (by omega) (by omega) dX1_assign_387 (fun H locs hP hD hS => ?_)
            have hP : va_P (dC, dI) vwCl [(y, .inr (1, [.int (nI 0), .int (nI nD), .int (nI nR), .ref b1, .ref b2, .long now, .ref b3, .ref b4, .ref b5, .int (nI zs.length), .ref b6, .ref b7, .int (nI el), .ref b8, .ref b9, .ref b10])), (b1, .inl (cJ, 512, .inr (.inl vs))), (b2, .inl (cZ, 512, .inl (fun j => bI (ac j)))), (b3, .inl (cI, 8192, .inl (fun j => nI (o j)))), (b4, .inl (cJ, 8192, .inr (.inl mt))), (b5, .inl (cJ, 8192, .inr (.inl mw))), (b6, .inl (cJ, 16, .inr (.inl nv))), (b7, .inl (cJ, 16, .inr (.inl dl))), (b8, .inl (cJ, 8208, .inr (.inl rtc))), (b9, .inl (cJ, 8208, .inr (.inl rvc))), (b10, .inl (cZ, 8208, .inl (fun j => bI (ub mkc n (mkc n || (mkc (n + 1) && decide (rvc (n + 1) = rvc n))) j))))] H := hP
            have hD : va_D A [(y, .inr (1, [.int (nI 0), .int (nI nD), .int (nI nR), .ref b1, .ref b2, .long now, .ref b3, .ref b4, .ref b5, .int (nI zs.length), .ref b6, .ref b7, .int (nI el), .ref b8, .ref b9, .ref b10])), (b1, .inl (cJ, 512, .inr (.inl vs))), (b2, .inl (cZ, 512, .inl (fun j => bI (ac j)))), (b3, .inl (cI, 8192, .inl (fun j => nI (o j)))), (b4, .inl (cJ, 8192, .inr (.inl mt))), (b5, .inl (cJ, 8192, .inr (.inl mw))), (b6, .inl (cJ, 16, .inr (.inl nv))), (b7, .inl (cJ, 16, .inr (.inl dl))), (b8, .inl (cJ, 8208, .inr (.inl rtc))), (b9, .inl (cJ, 8208, .inr (.inl rvc))), (b10, .inl (cZ, 8208, .inl (fun j => bI (ub mkc n (mkc n || (mkc (n + 1) && decide (rvc (n + 1) = rvc n))) j))))] := hD
            refine lv_iinc (v := nI n - 1) (lv' := [(11, .int (nI n - 1)), (0, .ref y), (1, .int (nI d)), (8, .int (nI (wro d (now + dl 0) lm mo zs ++ wel now dl nv el 0).length)), (9, .int (nI (wc d zs))), (10, .int (nI (wro d (now + dl 0) lm mo zs).length))]) hx hb dX1_assign_388 hl (k := 5) rfl (by rw [Int32.sub_eq_add_neg]; rfl) (by decide) rfl (fun ls hl => ?_)
            refine lv_goto (tgt := 329) hx hb dX1_assign_391 (by decide) ?_
            exact ih (ub mkc n (mkc n || (mkc (n + 1) && decide (rvc (n + 1) = rvc n)))) H locs ls (by omega) (wbm_step hE hbm (by omega) rfl) hP hD hS (lv_sub hl [1, 2, 3, 4, 5, 0] rfl)
          · have c_P := c_8
            refine lv_aload_n hx hb dX1_assign_350 rfl (lv_at hl 0 rfl) ?_
            refine va_get (D := (dC, dI)) (ci := 1) (v := .ref b10) (C := RX1) (T := TX1) (N := 16) hx hb hall inX1 hown hK hP 0 rfl rfl 15 (by decide) (hall _ kw_338) (fun _ h9 => h9) rfl dX1_assign_351 ?_
            refine lv_iload hx hb dX1_assign_354 (lv_at hl 5 rfl) ?_
            refine lv_iconst (v := 1) hx hb dX1_assign_356 (by decide) ?_
            refine lv_iadd hx hb dX1_assign_357 ?_
            refine tp_i (y := nI (n + 1)) (nI_1 n) ?_
            refine xa_zald hx hb hK hP 10 2 rfl rfl (by omega) (by omega) dX1_assign_358 ?_
            refine xb_eq (tgt := 386) hx hb dX1_assign_359 (by decide) (fun c_9 => ?_) (fun c_9 => ?_)
            · have c_S := c_9
              refine lv_iconst (v := 0) hx hb dX1_assign_386 (by decide) ?_
              refine tp_i (y := bI (mkc n || (mkc (n + 1) && decide (rvc (n + 1) = rvc n)))) (by first | (rw [c_P, c_S, decide_eq_false c_V]; rfl) | (rw [c_P, c_S]; rfl)) ?_
              refine xa_zast hx hb hK hP hD hS 10 2 rfl rfl (by omega) (by omega) dX1_assign_387 (fun H locs hP hD hS => ?_)
              have hP : va_P (dC, dI) vwCl [(y, .inr (1, [.int (nI 0), .int (nI nD), .int (nI nR), .ref b1, .ref b2, .long now, .ref b3, .ref b4, .ref b5, .int (nI zs.length), .ref b6, .ref b7, .int (nI el), .ref b8, .ref b9, .ref b10])), (b1, .inl (cJ, 512, .inr (.inl vs))), (b2, .inl (cZ, 512, .inl (fun j => bI (ac j)))), (b3, .inl (cI, 8192, .inl (fun j => nI (o j)))), (b4, .inl (cJ, 8192, .inr (.inl mt))), (b5, .inl (cJ, 8192, .inr (.inl mw))), (b6, .inl (cJ, 16, .inr (.inl nv))), (b7, .inl (cJ, 16, .inr (.inl dl))), (b8, .inl (cJ, 8208, .inr (.inl rtc))), (b9, .inl (cJ, 8208, .inr (.inl rvc))), (b10, .inl (cZ, 8208, .inl (fun j => bI (ub mkc n (mkc n || (mkc (n + 1) && decide (rvc (n + 1) = rvc n))) j))))] H := hP
              have hD : va_D A [(y, .inr (1, [.int (nI 0), .int (nI nD), .int (nI nR), .ref b1, .ref b2, .long now, .ref b3, .ref b4, .ref b5, .int (nI zs.length), .ref b6, .ref b7, .int (nI el), .ref b8, .ref b9, .ref b10])), (b1, .inl (cJ, 512, .inr (.inl vs))), (b2, .inl (cZ, 512, .inl (fun j => bI (ac j)))), (b3, .inl (cI, 8192, .inl (fun j => nI (o j)))), (b4, .inl (cJ, 8192, .inr (.inl mt))), (b5, .inl (cJ, 8192, .inr (.inl mw))), (b6, .inl (cJ, 16, .inr (.inl nv))), (b7, .inl (cJ, 16, .inr (.inl dl))), (b8, .inl (cJ, 8208, .inr (.inl rtc))), (b9, .inl (cJ, 8208, .inr (.inl rvc))), (b10, .inl (cZ, 8208, .inl (fun j => bI (ub mkc n (mkc n || (mkc (n + 1) && decide (rvc (n + 1) = rvc n))) j))))] := hD
              refine lv_iinc (v := nI n - 1) (lv' := [(11, .int (nI n - 1)), (0, .ref y), (1, .int (nI d)), (8, .int (nI (wro d (now + dl 0) lm mo zs ++ wel now dl nv el 0).length)), (9, .int (nI (wc d zs))), (10, .int (nI (wro d (now + dl 0) lm mo zs).length))]) hx hb dX1_assign_388 hl (k := 5) rfl (by rw [Int32.sub_eq_add_neg]; rfl) (by decide) rfl (fun ls hl => ?_)
              refine lv_goto (tgt := 329) hx hb dX1_assign_391 (by decide) ?_
              exact ih (ub mkc n (mkc n || (mkc (n + 1) && decide (rvc (n + 1) = rvc n)))) H locs ls (by omega) (wbm_step hE hbm (by omega) rfl) hP hD hS (lv_sub hl [1, 2, 3, 4, 5, 0] rfl)
            · have c_S := c_9
              refine lv_aload_n hx hb dX1_assign_362 rfl (lv_at hl 0 rfl) ?_
              refine va_get (D := (dC, dI)) (ci := 1) (v := .ref b9) (C := RX1) (T := TX1) (N := 16) hx hb hall inX1 hown hK hP 0 rfl rfl 14 (by decide) (hall _ kw_337) (fun _ h9 => h9) rfl dX1_assign_363 ?_
              refine lv_iload hx hb dX1_assign_366 (lv_at hl 5 rfl) ?_
              refine lv_iconst (v := 1) hx hb dX1_assign_368 (by decide) ?_
              refine lv_iadd hx hb dX1_assign_369 ?_
              refine tp_i (y := nI (n + 1)) (nI_1 n) ?_
              refine xa_lald hx hb hK hP 9 1 rfl rfl (by omega) (by omega) dX1_assign_370 ?_
              refine lv_aload_n hx hb dX1_assign_371 rfl (lv_at hl 0 rfl) ?_
              refine va_get (D := (dC, dI)) (ci := 1) (v := .ref b9) (C := RX1) (T := TX1) (N := 16) hx hb hall inX1 hown hK hP 0 rfl rfl 14 (by decide) (hall _ kw_337) (fun _ h9 => h9) rfl dX1_assign_372 ?_
              refine lv_iload hx hb dX1_assign_375 (lv_at hl 5 rfl) ?_
              refine xa_lald hx hb hK hP 9 1 rfl rfl (by omega) (by omega) dX1_assign_377 ?_
              refine xl_ne (tgt := 386) hx hb dX1_assign_378 dX1_assign_379 (by decide) (fun c_10 => ?_) (fun c_10 => ?_)
              · have c_V := c_10
                refine lv_iconst (v := 0) hx hb dX1_assign_386 (by decide) ?_
                refine tp_i (y := bI (mkc n || (mkc (n + 1) && decide (rvc (n + 1) = rvc n)))) (by first | (rw [c_P, c_S, decide_eq_false c_V]; rfl) | (rw [c_P, c_S]; rfl)) ?_
                refine xa_zast hx hb hK hP hD hS 10 2 rfl rfl (by omega) (by omega) dX1_assign_387 (fun H locs hP hD hS => ?_)
                have hP : va_P (dC, dI) vwCl [(y, .inr (1, [.int (nI 0), .int (nI nD), .int (nI nR), .ref b1, .ref b2, .long now, .ref b3, .ref b4, .ref b5, .int (nI zs.length), .ref b6, .ref b7, .int (nI el), .ref b8, .ref b9, .ref b10])), (b1, .inl (cJ, 512, .inr (.inl vs))), (b2, .inl (cZ, 512, .inl (fun j => bI (ac j)))), (b3, .inl (cI, 8192, .inl (fun j => nI (o j)))), (b4, .inl (cJ, 8192, .inr (.inl mt))), (b5, .inl (cJ, 8192, .inr (.inl mw))), (b6, .inl (cJ, 16, .inr (.inl nv))), (b7, .inl (cJ, 16, .inr (.inl dl))), (b8, .inl (cJ, 8208, .inr (.inl rtc))), (b9, .inl (cJ, 8208, .inr (.inl rvc))), (b10, .inl (cZ, 8208, .inl (fun j => bI (ub mkc n (mkc n || (mkc (n + 1) && decide (rvc (n + 1) = rvc n))) j))))] H := hP
                have hD : va_D A [(y, .inr (1, [.int (nI 0), .int (nI nD), .int (nI nR), .ref b1, .ref b2, .long now, .ref b3, .ref b4, .ref b5, .int (nI zs.length), .ref b6, .ref b7, .int (nI el), .ref b8, .ref b9, .ref b10])), (b1, .inl (cJ, 512, .inr (.inl vs))), (b2, .inl (cZ, 512, .inl (fun j => bI (ac j)))), (b3, .inl (cI, 8192, .inl (fun j => nI (o j)))), (b4, .inl (cJ, 8192, .inr (.inl mt))), (b5, .inl (cJ, 8192, .inr (.inl mw))), (b6, .inl (cJ, 16, .inr (.inl nv))), (b7, .inl (cJ, 16, .inr (.inl dl))), (b8, .inl (cJ, 8208, .inr (.inl rtc))), (b9, .inl (cJ, 8208, .inr (.inl rvc))), (b10, .inl (cZ, 8208, .inl (fun j => bI (ub mkc n (mkc n || (mkc (n + 1) && decide (rvc (n + 1) = rvc n))) j))))] := hD
                refine lv_iinc (v := nI n - 1) (lv' := [(11, .int (nI n - 1)), (0, .ref y), (1, .int (nI d)), (8, .int (nI (wro d (now + dl 0) lm mo zs ++ wel now dl nv el 0).length)), (9, .int (nI (wc d zs))), (10, .int (nI (wro d (now + dl 0) lm mo zs).length))]) hx hb dX1_assign_388 hl (k := 5) rfl (by rw [Int32.sub_eq_add_neg]; rfl) (by decide) rfl (fun ls hl => ?_)
                refine lv_goto (tgt := 329) hx hb dX1_assign_391 (by decide) ?_
                exact ih (ub mkc n (mkc n || (mkc (n + 1) && decide (rvc (n + 1) = rvc n)))) H locs ls (by omega) (wbm_step hE hbm (by omega) rfl) hP hD hS (lv_sub hl [1, 2, 3, 4, 5, 0] rfl)
              · have c_V := c_10
                refine lv_iconst (v := 1) hx hb dX1_assign_382 (by decide) ?_
                refine tp_i (y := bI (mkc n || (mkc (n + 1) && decide (rvc (n + 1) = rvc n)))) (by first | (rw [c_P]; rfl) | (rw [c_P, c_S, decide_eq_true c_V]; rfl)) ?_
                refine lv_goto (tgt := 387) hx hb dX1_assign_383 (by decide) ?_
                refine xa_zast hx hb hK hP hD hS 10 2 rfl rfl (by omega) (by omega) dX1_assign_387 (fun H locs hP hD hS => ?_)
                have hP : va_P (dC, dI) vwCl [(y, .inr (1, [.int (nI 0), .int (nI nD), .int (nI nR), .ref b1, .ref b2, .long now, .ref b3, .ref b4, .ref b5, .int (nI zs.length), .ref b6, .ref b7, .int (nI el), .ref b8, .ref b9, .ref b10])), (b1, .inl (cJ, 512, .inr (.inl vs))), (b2, .inl (cZ, 512, .inl (fun j => bI (ac j)))), (b3, .inl (cI, 8192, .inl (fun j => nI (o j)))), (b4, .inl (cJ, 8192, .inr (.inl mt))), (b5, .inl (cJ, 8192, .inr (.inl mw))), (b6, .inl (cJ, 16, .inr (.inl nv))), (b7, .inl (cJ, 16, .inr (.inl dl))), (b8, .inl (cJ, 8208, .inr (.inl rtc))), (b9, .inl (cJ, 8208, .inr (.inl rvc))), (b10, .inl (cZ, 8208, .inl (fun j => bI (ub mkc n (mkc n || (mkc (n + 1) && decide (rvc (n + 1) = rvc n))) j))))] H := hP
                have hD : va_D A [(y, .inr (1, [.int (nI 0), .int (nI nD), .int (nI nR), .ref b1, .ref b2, .long now, .ref b3, .ref b4, .ref b5, .int (nI zs.length), .ref b6, .ref b7, .int (nI el), .ref b8, .ref b9, .ref b10])), (b1, .inl (cJ, 512, .inr (.inl vs))), (b2, .inl (cZ, 512, .inl (fun j => bI (ac j)))), (b3, .inl (cI, 8192, .inl (fun j => nI (o j)))), (b4, .inl (cJ, 8192, .inr (.inl mt))), (b5, .inl (cJ, 8192, .inr (.inl mw))), (b6, .inl (cJ, 16, .inr (.inl nv))), (b7, .inl (cJ, 16, .inr (.inl dl))), (b8, .inl (cJ, 8208, .inr (.inl rtc))), (b9, .inl (cJ, 8208, .inr (.inl rvc))), (b10, .inl (cZ, 8208, .inl (fun j => bI (ub mkc n (mkc n || (mkc (n + 1) && decide (rvc (n + 1) = rvc n))) j))))] := hD
                refine lv_iinc (v := nI n - 1) (lv' := [(11, .int (nI n - 1)), (0, .ref y), (1, .int (nI d)), (8, .int (nI (wro d (now + dl 0) lm mo zs ++ wel now dl nv el 0).length)), (9, .int (nI (wc d zs))), (10, .int (nI (wro d (now + dl 0) lm mo zs).length))]) hx hb dX1_assign_388 hl (k := 5) rfl (by rw [Int32.sub_eq_add_neg]; rfl) (by decide) rfl (fun ls hl => ?_)
                refine lv_goto (tgt := 329) hx hb dX1_assign_391 (by decide) ?_
                exact ih (ub mkc n (mkc n || (mkc (n + 1) && decide (rvc (n + 1) = rvc n)))) H locs ls (by omega) (wbm_step hE hbm (by omega) rfl) hP hD hS (lv_sub hl [1, 2, 3, 4, 5, 0] rfl)
    have hloop2 : ∀ (n k : Nat) (G : List XT) (rtc rvc : Nat → Int64) (mkc : Nat → Bool) (H : Heap) (locs : List Loc) (ls : Array Slot), k + n = el → wx G rtc rvc mkc → G ++ wel now dl nv n k = (wro d (now + dl 0) lm mo zs ++ wel now dl nv el 0) → va_P (dC, dI) vwCl [(y, .inr (1, [.int (nI 0), .int (nI nD), .int (nI nR), .ref b1, .ref b2, .long now, .ref b3, .ref b4, .ref b5, .int (nI zs.length), .ref b6, .ref b7, .int (nI el), .ref b8, .ref b9, .ref b10])), (b1, .inl (cJ, 512, .inr (.inl vs))), (b2, .inl (cZ, 512, .inl (fun j => bI (ac j)))), (b3, .inl (cI, 8192, .inl (fun j => nI (o j)))), (b4, .inl (cJ, 8192, .inr (.inl mt))), (b5, .inl (cJ, 8192, .inr (.inl mw))), (b6, .inl (cJ, 16, .inr (.inl nv))), (b7, .inl (cJ, 16, .inr (.inl dl))), (b8, .inl (cJ, 8208, .inr (.inl rtc))), (b9, .inl (cJ, 8208, .inr (.inl rvc))), (b10, .inl (cZ, 8208, .inl (fun j => bI (mkc j))))] H → va_D A [(y, .inr (1, [.int (nI 0), .int (nI nD), .int (nI nR), .ref b1, .ref b2, .long now, .ref b3, .ref b4, .ref b5, .int (nI zs.length), .ref b6, .ref b7, .int (nI el), .ref b8, .ref b9, .ref b10])), (b1, .inl (cJ, 512, .inr (.inl vs))), (b2, .inl (cZ, 512, .inl (fun j => bI (ac j)))), (b3, .inl (cI, 8192, .inl (fun j => nI (o j)))), (b4, .inl (cJ, 8192, .inr (.inl mt))), (b5, .inl (cJ, 8192, .inr (.inl mw))), (b6, .inl (cJ, 16, .inr (.inl nv))), (b7, .inl (cJ, 16, .inr (.inl dl))), (b8, .inl (cJ, 8208, .inr (.inl rtc))), (b9, .inl (cJ, 8208, .inr (.inl rvc))), (b10, .inl (cZ, 8208, .inl (fun j => bI (mkc j))))] → va_S A s.heap H locs → lv_has ls 13 [(0, .ref y), (1, .int (nI d)), (8, .int (nI G.length)), (9, .int (nI (wc d zs))), (10, .int (nI (wro d (now + dl 0) lm mo zs).length)), (11, .int (nI k))] → W p l e (headSpec wsX1_assign ({ frames := 1, cells := 0, slots := 0, locals := 24 })).room s m (([.ref y, .int (nI d), .int mo, .long t] : List Value).toArray) below meth c H locs 0 0 (MQ below (va_Qi (fun (v : Int32) (_ : Unit) => v = nI (wc d zs - wst (wro d (now + dl 0) lm mo zs).length (wmr (wro d (now + dl 0) lm mo zs ++ wel now dl nv el 0)))) (fun _ t9 => ∃ (o9 : Nat → Nat) (t8 w9 r9 v9 : Nat → Int64) (m9 : Nat → Bool), wz (wot d zs ++ wml d (wmr (wro d (now + dl 0) lm mo zs ++ wel now dl nv el 0))) o9 t8 w9 ∧ va_P (dC, dI) vwCl (wm y b1 b2 b3 b4 b5 b6 b7 b8 b9 b10 cI cJ cZ 0 nD nR vs ac now o9 t8 w9 ((wot d zs ++ wml d (wmr (wro d (now + dl 0) lm mo zs ++ wel now dl nv el 0))).length) nv dl 0 r9 v9 m9) t9.heap ∧ va_K (dC, dI) vwCl [(cI, .int), (cJ, .long), (cZ, .boolean)] t9 ∧ va_D A (wm y b1 b2 b3 b4 b5 b6 b7 b8 b9 b10 cI cJ cZ 0 nD nR vs ac now o9 t8 w9 ((wot d zs ++ wml d (wmr (wro d (now + dl 0) lm mo zs ++ wel now dl nv el 0))).length) nv dl 0 r9 v9 m9)) A) (([.ref y, .int (nI d), .int mo, .long t] : List Value).toArray) s 0 0 A) (F0 m 264 ls []) := by
      intro n
      induction n with
      | zero =>
        intro k G rtc rvc mkc H locs ls hk hG hGe hP hD hS hl
        obtain rfl : G = (wro d (now + dl 0) lm mo zs ++ wel now dl nv el 0) := (List.append_nil G).symm.trans hGe
        refine lv_iload hx hb dX1_assign_264 (lv_at hl 5 rfl) ?_
        refine lv_aload_n hx hb dX1_assign_266 rfl (lv_at hl 0 rfl) ?_
        refine va_get (D := (dC, dI)) (ci := 1) (v := .int (nI el)) (C := RX1) (T := TX1) (N := 16) hx hb hall inX1 hown hK hP 0 rfl rfl 12 (by decide) (hall _ kw_335) (fun _ h9 => h9) rfl dX1_assign_267 ?_
        refine xc_ge (tgt := 323) hx hb (by omega) (by omega) dX1_assign_270 (by decide) (fun c_11 => ?_) (fun c_11 => ?_)
        · refine lv_iload hx hb dX1_assign_323 (lv_at hl 4 rfl) ?_
          refine lv_iconst (v := 1) hx hb dX1_assign_325 (by decide) ?_
          refine lv_isub hx hb dX1_assign_326 ?_
          refine lv_istore (lv' := [(11, .int ((nI (wro d (now + dl 0) lm mo zs).length) - 1)), (0, .ref y), (1, .int (nI d)), (8, .int (nI (wro d (now + dl 0) lm mo zs ++ wel now dl nv el 0).length)), (9, .int (nI (wc d zs))), (10, .int (nI (wro d (now + dl 0) lm mo zs).length))]) hx hb dX1_assign_327 hl (by decide) rfl (fun ls hl => ?_)
          exact hloop3 rtc rvc mkc hG (wro d (now + dl 0) lm mo zs).length mkc H locs ls (Nat.le_refl _) (wbm_init hG wE_mark) hP hD hS (lv_sub hl [1, 2, 3, 4, 5, 0] rfl)
        · exact absurd c_11 (by omega)
      | succ n ih =>
        intro k G rtc rvc mkc H locs ls hk hG hGe hP hD hS hl
        have hGl : G.length < 8208 := by have := congrArg List.length hGe; rw [List.length_append, wel_len] at this; omega
        refine lv_iload hx hb dX1_assign_264 (lv_at hl 5 rfl) ?_
        refine lv_aload_n hx hb dX1_assign_266 rfl (lv_at hl 0 rfl) ?_
        refine va_get (D := (dC, dI)) (ci := 1) (v := .int (nI el)) (C := RX1) (T := TX1) (N := 16) hx hb hall inX1 hown hK hP 0 rfl rfl 12 (by decide) (hall _ kw_335) (fun _ h9 => h9) rfl dX1_assign_267 ?_
        refine xc_ge (tgt := 323) hx hb (by omega) (by omega) dX1_assign_270 (by decide) (fun c_12 => ?_) (fun c_12 => ?_)
        · exact absurd c_12 (by omega)
        · refine lv_aload_n hx hb dX1_assign_273 rfl (lv_at hl 0 rfl) ?_
          refine va_get (D := (dC, dI)) (ci := 1) (v := .ref b8) (C := RX1) (T := TX1) (N := 16) hx hb hall inX1 hown hK hP 0 rfl rfl 13 (by decide) (hall _ kw_336) (fun _ h9 => h9) rfl dX1_assign_274 ?_
          refine lv_iload hx hb dX1_assign_277 (lv_at hl 2 rfl) ?_
          refine lv_aload_n hx hb dX1_assign_279 rfl (lv_at hl 0 rfl) ?_
          refine va_get (D := (dC, dI)) (ci := 1) (v := .long now) (C := RX1) (T := TX1) (N := 16) hx hb hall inX1 hown hK hP 0 rfl rfl 5 (by decide) (hall _ kw_328) (fun _ h9 => h9) rfl dX1_assign_280 ?_
          refine lv_aload_n hx hb dX1_assign_283 rfl (lv_at hl 0 rfl) ?_
          refine va_get (D := (dC, dI)) (ci := 1) (v := .ref b7) (C := RX1) (T := TX1) (N := 16) hx hb hall inX1 hown hK hP 0 rfl rfl 11 (by decide) (hall _ kw_334) (fun _ h9 => h9) rfl dX1_assign_284 ?_
          refine lv_iload hx hb dX1_assign_287 (lv_at hl 5 rfl) ?_
          refine xa_lald hx hb hK hP 7 1 rfl rfl (by omega) (by omega) dX1_assign_289 ?_
          refine lv_ladd hx hb dX1_assign_290 ?_
          refine xa_last hx hb hK hP hD hS 8 1 rfl rfl (by omega) (by omega) dX1_assign_291 (fun H locs hP hD hS => ?_)
          have hP : va_P (dC, dI) vwCl [(y, .inr (1, [.int (nI 0), .int (nI nD), .int (nI nR), .ref b1, .ref b2, .long now, .ref b3, .ref b4, .ref b5, .int (nI zs.length), .ref b6, .ref b7, .int (nI el), .ref b8, .ref b9, .ref b10])), (b1, .inl (cJ, 512, .inr (.inl vs))), (b2, .inl (cZ, 512, .inl (fun j => bI (ac j)))), (b3, .inl (cI, 8192, .inl (fun j => nI (o j)))), (b4, .inl (cJ, 8192, .inr (.inl mt))), (b5, .inl (cJ, 8192, .inr (.inl mw))), (b6, .inl (cJ, 16, .inr (.inl nv))), (b7, .inl (cJ, 16, .inr (.inl dl))), (b8, .inl (cJ, 8208, .inr (.inl (vp_updL rtc G.length (now + (dl k)))))), (b9, .inl (cJ, 8208, .inr (.inl rvc))), (b10, .inl (cZ, 8208, .inl (fun j => bI (mkc j))))] H := hP
          have hD : va_D A [(y, .inr (1, [.int (nI 0), .int (nI nD), .int (nI nR), .ref b1, .ref b2, .long now, .ref b3, .ref b4, .ref b5, .int (nI zs.length), .ref b6, .ref b7, .int (nI el), .ref b8, .ref b9, .ref b10])), (b1, .inl (cJ, 512, .inr (.inl vs))), (b2, .inl (cZ, 512, .inl (fun j => bI (ac j)))), (b3, .inl (cI, 8192, .inl (fun j => nI (o j)))), (b4, .inl (cJ, 8192, .inr (.inl mt))), (b5, .inl (cJ, 8192, .inr (.inl mw))), (b6, .inl (cJ, 16, .inr (.inl nv))), (b7, .inl (cJ, 16, .inr (.inl dl))), (b8, .inl (cJ, 8208, .inr (.inl (vp_updL rtc G.length (now + (dl k)))))), (b9, .inl (cJ, 8208, .inr (.inl rvc))), (b10, .inl (cZ, 8208, .inl (fun j => bI (mkc j))))] := hD
          refine lv_aload_n hx hb dX1_assign_292 rfl (lv_at hl 0 rfl) ?_
          refine va_get (D := (dC, dI)) (ci := 1) (v := .ref b9) (C := RX1) (T := TX1) (N := 16) hx hb hall inX1 hown hK hP 0 rfl rfl 14 (by decide) (hall _ kw_337) (fun _ h9 => h9) rfl dX1_assign_293 ?_
          refine lv_iload hx hb dX1_assign_296 (lv_at hl 2 rfl) ?_
          refine lv_aload_n hx hb dX1_assign_298 rfl (lv_at hl 0 rfl) ?_
          refine va_get (D := (dC, dI)) (ci := 1) (v := .ref b6) (C := RX1) (T := TX1) (N := 16) hx hb hall inX1 hown hK hP 0 rfl rfl 10 (by decide) (hall _ kw_333) (fun _ h9 => h9) rfl dX1_assign_299 ?_
          refine lv_iload hx hb dX1_assign_302 (lv_at hl 5 rfl) ?_
          refine xa_lald hx hb hK hP 6 1 rfl rfl (by omega) (by omega) dX1_assign_304 ?_
          refine xa_last hx hb hK hP hD hS 9 1 rfl rfl (by omega) (by omega) dX1_assign_305 (fun H locs hP hD hS => ?_)
          have hP : va_P (dC, dI) vwCl [(y, .inr (1, [.int (nI 0), .int (nI nD), .int (nI nR), .ref b1, .ref b2, .long now, .ref b3, .ref b4, .ref b5, .int (nI zs.length), .ref b6, .ref b7, .int (nI el), .ref b8, .ref b9, .ref b10])), (b1, .inl (cJ, 512, .inr (.inl vs))), (b2, .inl (cZ, 512, .inl (fun j => bI (ac j)))), (b3, .inl (cI, 8192, .inl (fun j => nI (o j)))), (b4, .inl (cJ, 8192, .inr (.inl mt))), (b5, .inl (cJ, 8192, .inr (.inl mw))), (b6, .inl (cJ, 16, .inr (.inl nv))), (b7, .inl (cJ, 16, .inr (.inl dl))), (b8, .inl (cJ, 8208, .inr (.inl (vp_updL rtc G.length (now + (dl k)))))), (b9, .inl (cJ, 8208, .inr (.inl (vp_updL rvc G.length (nv k))))), (b10, .inl (cZ, 8208, .inl (fun j => bI (mkc j))))] H := hP
          have hD : va_D A [(y, .inr (1, [.int (nI 0), .int (nI nD), .int (nI nR), .ref b1, .ref b2, .long now, .ref b3, .ref b4, .ref b5, .int (nI zs.length), .ref b6, .ref b7, .int (nI el), .ref b8, .ref b9, .ref b10])), (b1, .inl (cJ, 512, .inr (.inl vs))), (b2, .inl (cZ, 512, .inl (fun j => bI (ac j)))), (b3, .inl (cI, 8192, .inl (fun j => nI (o j)))), (b4, .inl (cJ, 8192, .inr (.inl mt))), (b5, .inl (cJ, 8192, .inr (.inl mw))), (b6, .inl (cJ, 16, .inr (.inl nv))), (b7, .inl (cJ, 16, .inr (.inl dl))), (b8, .inl (cJ, 8208, .inr (.inl (vp_updL rtc G.length (now + (dl k)))))), (b9, .inl (cJ, 8208, .inr (.inl (vp_updL rvc G.length (nv k))))), (b10, .inl (cZ, 8208, .inl (fun j => bI (mkc j))))] := hD
          refine lv_aload_n hx hb dX1_assign_306 rfl (lv_at hl 0 rfl) ?_
          refine va_get (D := (dC, dI)) (ci := 1) (v := .ref b10) (C := RX1) (T := TX1) (N := 16) hx hb hall inX1 hown hK hP 0 rfl rfl 15 (by decide) (hall _ kw_338) (fun _ h9 => h9) rfl dX1_assign_307 ?_
          refine lv_iload hx hb dX1_assign_310 (lv_at hl 2 rfl) ?_
          refine lv_iconst (v := 1) hx hb dX1_assign_312 (by decide) ?_
          refine tp_i (y := bI true) bI_t ?_
          refine xa_zast hx hb hK hP hD hS 10 2 rfl rfl (by omega) (by omega) dX1_assign_313 (fun H locs hP hD hS => ?_)
          have hP : va_P (dC, dI) vwCl [(y, .inr (1, [.int (nI 0), .int (nI nD), .int (nI nR), .ref b1, .ref b2, .long now, .ref b3, .ref b4, .ref b5, .int (nI zs.length), .ref b6, .ref b7, .int (nI el), .ref b8, .ref b9, .ref b10])), (b1, .inl (cJ, 512, .inr (.inl vs))), (b2, .inl (cZ, 512, .inl (fun j => bI (ac j)))), (b3, .inl (cI, 8192, .inl (fun j => nI (o j)))), (b4, .inl (cJ, 8192, .inr (.inl mt))), (b5, .inl (cJ, 8192, .inr (.inl mw))), (b6, .inl (cJ, 16, .inr (.inl nv))), (b7, .inl (cJ, 16, .inr (.inl dl))), (b8, .inl (cJ, 8208, .inr (.inl (vp_updL rtc G.length (now + (dl k)))))), (b9, .inl (cJ, 8208, .inr (.inl (vp_updL rvc G.length (nv k))))), (b10, .inl (cZ, 8208, .inl (fun j => bI (ub mkc G.length true j))))] H := hP
          have hD : va_D A [(y, .inr (1, [.int (nI 0), .int (nI nD), .int (nI nR), .ref b1, .ref b2, .long now, .ref b3, .ref b4, .ref b5, .int (nI zs.length), .ref b6, .ref b7, .int (nI el), .ref b8, .ref b9, .ref b10])), (b1, .inl (cJ, 512, .inr (.inl vs))), (b2, .inl (cZ, 512, .inl (fun j => bI (ac j)))), (b3, .inl (cI, 8192, .inl (fun j => nI (o j)))), (b4, .inl (cJ, 8192, .inr (.inl mt))), (b5, .inl (cJ, 8192, .inr (.inl mw))), (b6, .inl (cJ, 16, .inr (.inl nv))), (b7, .inl (cJ, 16, .inr (.inl dl))), (b8, .inl (cJ, 8208, .inr (.inl (vp_updL rtc G.length (now + (dl k)))))), (b9, .inl (cJ, 8208, .inr (.inl (vp_updL rvc G.length (nv k))))), (b10, .inl (cZ, 8208, .inl (fun j => bI (ub mkc G.length true j))))] := hD
          refine lv_iinc (v := nI (G.length + 1)) (lv' := [(8, .int (nI (G.length + 1))), (0, .ref y), (1, .int (nI d)), (9, .int (nI (wc d zs))), (10, .int (nI (wro d (now + dl 0) lm mo zs).length)), (11, .int (nI k))]) hx hb dX1_assign_314 hl (k := 2) rfl (nI_1 _) (by decide) rfl (fun ls hl => ?_)
          refine lv_iinc (v := nI (k + 1)) (lv' := [(11, .int (nI (k + 1))), (8, .int (nI (G.length + 1))), (0, .ref y), (1, .int (nI d)), (9, .int (nI (wc d zs))), (10, .int (nI (wro d (now + dl 0) lm mo zs).length))]) hx hb dX1_assign_317 hl (k := 5) rfl (nI_1 k) (by decide) rfl (fun ls hl => ?_)
          refine lv_goto (tgt := 264) hx hb dX1_assign_320 (by decide) ?_
          exact ih (k + 1) (G ++ [(now + dl k, nv k, true)]) _ _ _ H locs ls (by omega) (wx_push (now + dl k, nv k, true) hG) (by rw [← hGe, List.append_assoc]; rfl) hP hD hS (by rw [wz_len]; exact lv_sub hl [2, 3, 1, 4, 5, 0] rfl)
    have hloop1 : ∀ (ss : List ZT) (k : Nat) (X : List XT) (c0 : Nat) (rtc rvc : Nat → Int64) (mkc : Nat → Bool) (H : Heap) (locs : List Loc) (ls : Array Slot), zs.drop k = ss → k ≤ zs.length → X.length ≤ k → c0 ≤ k → c0 + wc d ss = wc d zs → wx X rtc rvc mkc → X ++ wro d (now + dl 0) lm mo ss = wro d (now + dl 0) lm mo zs → va_P (dC, dI) vwCl [(y, .inr (1, [.int (nI 0), .int (nI nD), .int (nI nR), .ref b1, .ref b2, .long now, .ref b3, .ref b4, .ref b5, .int (nI zs.length), .ref b6, .ref b7, .int (nI el), .ref b8, .ref b9, .ref b10])), (b1, .inl (cJ, 512, .inr (.inl vs))), (b2, .inl (cZ, 512, .inl (fun j => bI (ac j)))), (b3, .inl (cI, 8192, .inl (fun j => nI (o j)))), (b4, .inl (cJ, 8192, .inr (.inl mt))), (b5, .inl (cJ, 8192, .inr (.inl mw))), (b6, .inl (cJ, 16, .inr (.inl nv))), (b7, .inl (cJ, 16, .inr (.inl dl))), (b8, .inl (cJ, 8208, .inr (.inl rtc))), (b9, .inl (cJ, 8208, .inr (.inl rvc))), (b10, .inl (cZ, 8208, .inl (fun j => bI (mkc j))))] H → va_D A [(y, .inr (1, [.int (nI 0), .int (nI nD), .int (nI nR), .ref b1, .ref b2, .long now, .ref b3, .ref b4, .ref b5, .int (nI zs.length), .ref b6, .ref b7, .int (nI el), .ref b8, .ref b9, .ref b10])), (b1, .inl (cJ, 512, .inr (.inl vs))), (b2, .inl (cZ, 512, .inl (fun j => bI (ac j)))), (b3, .inl (cI, 8192, .inl (fun j => nI (o j)))), (b4, .inl (cJ, 8192, .inr (.inl mt))), (b5, .inl (cJ, 8192, .inr (.inl mw))), (b6, .inl (cJ, 16, .inr (.inl nv))), (b7, .inl (cJ, 16, .inr (.inl dl))), (b8, .inl (cJ, 8208, .inr (.inl rtc))), (b9, .inl (cJ, 8208, .inr (.inl rvc))), (b10, .inl (cZ, 8208, .inl (fun j => bI (mkc j))))] → va_S A s.heap H locs → lv_has ls 13 [(0, .ref y), (1, .int (nI d)), (2, .int mo), (3, .long t), (6, .long (now + dl 0)), (8, .int (nI X.length)), (9, .int (nI c0)), (10, .int (nI k))] → W p l e (headSpec wsX1_assign ({ frames := 1, cells := 0, slots := 0, locals := 24 })).room s m (([.ref y, .int (nI d), .int mo, .long t] : List Value).toArray) below meth c H locs 0 0 (MQ below (va_Qi (fun (v : Int32) (_ : Unit) => v = nI (wc d zs - wst (wro d (now + dl 0) lm mo zs).length (wmr (wro d (now + dl 0) lm mo zs ++ wel now dl nv el 0)))) (fun _ t9 => ∃ (o9 : Nat → Nat) (t8 w9 r9 v9 : Nat → Int64) (m9 : Nat → Bool), wz (wot d zs ++ wml d (wmr (wro d (now + dl 0) lm mo zs ++ wel now dl nv el 0))) o9 t8 w9 ∧ va_P (dC, dI) vwCl (wm y b1 b2 b3 b4 b5 b6 b7 b8 b9 b10 cI cJ cZ 0 nD nR vs ac now o9 t8 w9 ((wot d zs ++ wml d (wmr (wro d (now + dl 0) lm mo zs ++ wel now dl nv el 0))).length) nv dl 0 r9 v9 m9) t9.heap ∧ va_K (dC, dI) vwCl [(cI, .int), (cJ, .long), (cZ, .boolean)] t9 ∧ va_D A (wm y b1 b2 b3 b4 b5 b6 b7 b8 b9 b10 cI cJ cZ 0 nD nR vs ac now o9 t8 w9 ((wot d zs ++ wml d (wmr (wro d (now + dl 0) lm mo zs ++ wel now dl nv el 0))).length) nv dl 0 r9 v9 m9)) A) (([.ref y, .int (nI d), .int mo, .long t] : List Value).toArray) s 0 0 A) (F0 m 139 ls []) := by
      intro ss
      induction ss with
      | nil =>
        intro k X c0 rtc rvc mkc H locs ls hss hkl hXk hck hc hX hXe hP hD hS hl
        have hk := wz_nil hss
        obtain rfl : X = wro d (now + dl 0) lm mo zs := (List.append_nil X).symm.trans hXe
        obtain rfl : c0 = wc d zs := hc
        refine lv_iload hx hb dX1_assign_139 (lv_at hl 7 rfl) ?_
        refine lv_aload_n hx hb dX1_assign_141 rfl (lv_at hl 0 rfl) ?_
        refine va_get (D := (dC, dI)) (ci := 1) (v := .int (nI zs.length)) (C := RX1) (T := TX1) (N := 16) hx hb hall inX1 hown hK hP 0 rfl rfl 9 (by decide) (hall _ kw_332) (fun _ h9 => h9) rfl dX1_assign_142 ?_
        refine xc_ge (tgt := 257) hx hb (by omega) (by omega) dX1_assign_145 (by decide) (fun c_13 => ?_) (fun c_13 => ?_)
        · refine lv_iload hx hb dX1_assign_257 (lv_at hl 5 rfl) ?_
          refine lv_istore (lv' := [(10, .int (nI (wro d (now + dl 0) lm mo zs).length)), (0, .ref y), (1, .int (nI d)), (2, .int mo), (3, .long t), (6, .long (now + dl 0)), (8, .int (nI (wro d (now + dl 0) lm mo zs).length)), (9, .int (nI (wc d zs)))]) hx hb dX1_assign_259 hl (by decide) rfl (fun ls hl => ?_)
          refine lv_iconst (v := 0) hx hb dX1_assign_261 (by decide) ?_
          refine tp_i (y := nI 0) nI_0.symm ?_
          refine lv_istore (lv' := [(11, .int (nI 0)), (10, .int (nI (wro d (now + dl 0) lm mo zs).length)), (0, .ref y), (1, .int (nI d)), (2, .int mo), (3, .long t), (6, .long (now + dl 0)), (8, .int (nI (wro d (now + dl 0) lm mo zs).length)), (9, .int (nI (wc d zs)))]) hx hb dX1_assign_262 hl (by decide) rfl (fun ls hl => ?_)
          exact hloop2 el 0 (wro d (now + dl 0) lm mo zs) rtc rvc mkc H locs ls (by omega) hX rfl hP hD hS (lv_sub hl [2, 3, 7, 8, 1, 0] rfl)
        · exact absurd c_13 (by omega)
      | cons z tl ih =>
        intro k X c0 rtc rvc mkc H locs ls hss hkl hXk hck hc hX hXe hP hD hS hl
        obtain ⟨hk, hzk, htl⟩ := wz_drop hss
        obtain ⟨ez1, ez2, ez3⟩ := hZ k z hzk
        have hod := how z (List.mem_of_getElem? hzk)
        refine lv_iload hx hb dX1_assign_139 (lv_at hl 7 rfl) ?_
        refine lv_aload_n hx hb dX1_assign_141 rfl (lv_at hl 0 rfl) ?_
        refine va_get (D := (dC, dI)) (ci := 1) (v := .int (nI zs.length)) (C := RX1) (T := TX1) (N := 16) hx hb hall inX1 hown hK hP 0 rfl rfl 9 (by decide) (hall _ kw_332) (fun _ h9 => h9) rfl dX1_assign_142 ?_
        refine xc_ge (tgt := 257) hx hb (by omega) (by omega) dX1_assign_145 (by decide) (fun c_14 => ?_) (fun c_14 => ?_)
        · exact absurd c_14 (by omega)
        · refine lv_aload_n hx hb dX1_assign_148 rfl (lv_at hl 0 rfl) ?_
          refine va_get (D := (dC, dI)) (ci := 1) (v := .ref b3) (C := RX1) (T := TX1) (N := 16) hx hb hall inX1 hown hK hP 0 rfl rfl 6 (by decide) (hall _ kw_329) (fun _ h9 => h9) rfl dX1_assign_149 ?_
          refine lv_iload hx hb dX1_assign_152 (lv_at hl 7 rfl) ?_
          refine xa_iald hx hb hK hP 3 0 rfl rfl (by omega) (by omega) dX1_assign_154 ?_
          refine tp_i (y := nI z.1) (by rw [ez1]) ?_
          refine lv_iload_n hx hb dX1_assign_155 rfl (lv_at hl 1 rfl) ?_
          refine xc_ne (tgt := 251) hx hb (by omega) (by omega) dX1_assign_156 (by decide) (fun c_15 => ?_) (fun c_15 => ?_)
          · have c_O := c_15
            refine lv_iinc (v := nI (k + 1)) (lv' := [(10, .int (nI (k + 1))), (0, .ref y), (1, .int (nI d)), (2, .int mo), (3, .long t), (6, .long (now + dl 0)), (8, .int (nI X.length)), (9, .int (nI c0))]) hx hb dX1_assign_251 hl (k := 7) rfl (nI_1 k) (by decide) rfl (fun ls hl => ?_)
            refine lv_goto (tgt := 139) hx hb dX1_assign_254 (by decide) ?_
            exact ih (k + 1) X c0 rtc rvc mkc H locs ls htl (by omega) (by omega) (by omega) (by rw [← hc]; show _ = _ + ((if z.1 = d then 1 else 0) + wc d tl); rw [if_neg c_O]; omega) hX (by rw [← hXe]; show _ = _ ++ (if z.1 = d ∧ z.2.1 < now + dl 0 then (z.2.1, z.2.2, decide (mo = 1 ∨ z.2.1 < now + dl 0 - lm)) :: wro d (now + dl 0) lm mo tl else wro d (now + dl 0) lm mo tl); rw [if_neg (fun q => c_O q.1)]) hP hD hS (lv_sub hl [1, 2, 3, 4, 5, 6, 7, 0] rfl)
          · have c_O := c_15
            refine lv_iinc (v := nI (c0 + 1)) (lv' := [(9, .int (nI (c0 + 1))), (0, .ref y), (1, .int (nI d)), (2, .int mo), (3, .long t), (6, .long (now + dl 0)), (8, .int (nI X.length)), (10, .int (nI k))]) hx hb dX1_assign_159 hl (k := 6) rfl (nI_1 c0) (by decide) rfl (fun ls hl => ?_)
            refine lv_aload_n hx hb dX1_assign_162 rfl (lv_at hl 1 rfl) ?_
            refine va_get (D := (dC, dI)) (ci := 1) (v := .ref b4) (C := RX1) (T := TX1) (N := 16) hx hb hall inX1 hown hK hP 0 rfl rfl 7 (by decide) (hall _ kw_330) (fun _ h9 => h9) rfl dX1_assign_163 ?_
            refine lv_iload hx hb dX1_assign_166 (lv_at hl 7 rfl) ?_
            refine xa_lald hx hb hK hP 4 1 rfl rfl (by omega) (by omega) dX1_assign_168 ?_
            refine tp_l (y := z.2.1) ez2 ?_
            refine lv_lload hx hb dX1_assign_169 (lv_at hl 5 rfl) ?_
            refine xl_ge (tgt := 251) hx hb dX1_assign_171 dX1_assign_172 (by decide) (fun c_16 => ?_) (fun c_16 => ?_)
            · have c_B := c_16
              refine lv_iinc (v := nI (k + 1)) (lv' := [(10, .int (nI (k + 1))), (9, .int (nI (c0 + 1))), (0, .ref y), (1, .int (nI d)), (2, .int mo), (3, .long t), (6, .long (now + dl 0)), (8, .int (nI X.length))]) hx hb dX1_assign_251 hl (k := 7) rfl (nI_1 k) (by decide) rfl (fun ls hl => ?_)
              refine lv_goto (tgt := 139) hx hb dX1_assign_254 (by decide) ?_
              exact ih (k + 1) X (c0 + 1) rtc rvc mkc H locs ls htl (by omega) (by omega) (by omega) (by rw [← hc]; show _ = _ + ((if z.1 = d then 1 else 0) + wc d tl); rw [if_pos c_O]; omega) hX (by rw [← hXe]; show _ = _ ++ (if z.1 = d ∧ z.2.1 < now + dl 0 then (z.2.1, z.2.2, decide (mo = 1 ∨ z.2.1 < now + dl 0 - lm)) :: wro d (now + dl 0) lm mo tl else wro d (now + dl 0) lm mo tl); rw [if_neg (fun q => absurd q.2 (Int64.not_lt.mpr c_B))]) hP hD hS (lv_sub hl [2, 3, 4, 5, 6, 7, 1, 0] rfl)
            · have c_B := c_16
              refine lv_aload_n hx hb dX1_assign_175 rfl (lv_at hl 1 rfl) ?_
              refine va_get (D := (dC, dI)) (ci := 1) (v := .ref b8) (C := RX1) (T := TX1) (N := 16) hx hb hall inX1 hown hK hP 0 rfl rfl 13 (by decide) (hall _ kw_336) (fun _ h9 => h9) rfl dX1_assign_176 ?_
              refine lv_iload hx hb dX1_assign_179 (lv_at hl 6 rfl) ?_
              refine lv_aload_n hx hb dX1_assign_181 rfl (lv_at hl 1 rfl) ?_
              refine va_get (D := (dC, dI)) (ci := 1) (v := .ref b4) (C := RX1) (T := TX1) (N := 16) hx hb hall inX1 hown hK hP 0 rfl rfl 7 (by decide) (hall _ kw_330) (fun _ h9 => h9) rfl dX1_assign_182 ?_
              refine lv_iload hx hb dX1_assign_185 (lv_at hl 7 rfl) ?_
              refine xa_lald hx hb hK hP 4 1 rfl rfl (by omega) (by omega) dX1_assign_187 ?_
              refine tp_l (y := z.2.1) ez2 ?_
              refine xa_last hx hb hK hP hD hS 8 1 rfl rfl (by omega) (by omega) dX1_assign_188 (fun H locs hP hD hS => ?_)
              have hP : va_P (dC, dI) vwCl [(y, .inr (1, [.int (nI 0), .int (nI nD), .int (nI nR), .ref b1, .ref b2, .long now, .ref b3, .ref b4, .ref b5, .int (nI zs.length), .ref b6, .ref b7, .int (nI el), .ref b8, .ref b9, .ref b10])), (b1, .inl (cJ, 512, .inr (.inl vs))), (b2, .inl (cZ, 512, .inl (fun j => bI (ac j)))), (b3, .inl (cI, 8192, .inl (fun j => nI (o j)))), (b4, .inl (cJ, 8192, .inr (.inl mt))), (b5, .inl (cJ, 8192, .inr (.inl mw))), (b6, .inl (cJ, 16, .inr (.inl nv))), (b7, .inl (cJ, 16, .inr (.inl dl))), (b8, .inl (cJ, 8208, .inr (.inl (vp_updL rtc X.length z.2.1)))), (b9, .inl (cJ, 8208, .inr (.inl rvc))), (b10, .inl (cZ, 8208, .inl (fun j => bI (mkc j))))] H := hP
              have hD : va_D A [(y, .inr (1, [.int (nI 0), .int (nI nD), .int (nI nR), .ref b1, .ref b2, .long now, .ref b3, .ref b4, .ref b5, .int (nI zs.length), .ref b6, .ref b7, .int (nI el), .ref b8, .ref b9, .ref b10])), (b1, .inl (cJ, 512, .inr (.inl vs))), (b2, .inl (cZ, 512, .inl (fun j => bI (ac j)))), (b3, .inl (cI, 8192, .inl (fun j => nI (o j)))), (b4, .inl (cJ, 8192, .inr (.inl mt))), (b5, .inl (cJ, 8192, .inr (.inl mw))), (b6, .inl (cJ, 16, .inr (.inl nv))), (b7, .inl (cJ, 16, .inr (.inl dl))), (b8, .inl (cJ, 8208, .inr (.inl (vp_updL rtc X.length z.2.1)))), (b9, .inl (cJ, 8208, .inr (.inl rvc))), (b10, .inl (cZ, 8208, .inl (fun j => bI (mkc j))))] := hD
              refine lv_aload_n hx hb dX1_assign_189 rfl (lv_at hl 1 rfl) ?_
              refine va_get (D := (dC, dI)) (ci := 1) (v := .ref b9) (C := RX1) (T := TX1) (N := 16) hx hb hall inX1 hown hK hP 0 rfl rfl 14 (by decide) (hall _ kw_337) (fun _ h9 => h9) rfl dX1_assign_190 ?_
              refine lv_iload hx hb dX1_assign_193 (lv_at hl 6 rfl) ?_
              refine lv_aload_n hx hb dX1_assign_195 rfl (lv_at hl 1 rfl) ?_
              refine va_get (D := (dC, dI)) (ci := 1) (v := .ref b5) (C := RX1) (T := TX1) (N := 16) hx hb hall inX1 hown hK hP 0 rfl rfl 8 (by decide) (hall _ kw_331) (fun _ h9 => h9) rfl dX1_assign_196 ?_
              refine lv_iload hx hb dX1_assign_199 (lv_at hl 7 rfl) ?_
              refine xa_lald hx hb hK hP 5 1 rfl rfl (by omega) (by omega) dX1_assign_201 ?_
              refine tp_l (y := z.2.2) ez3 ?_
              refine xa_last hx hb hK hP hD hS 9 1 rfl rfl (by omega) (by omega) dX1_assign_202 (fun H locs hP hD hS => ?_)
              have hP : va_P (dC, dI) vwCl [(y, .inr (1, [.int (nI 0), .int (nI nD), .int (nI nR), .ref b1, .ref b2, .long now, .ref b3, .ref b4, .ref b5, .int (nI zs.length), .ref b6, .ref b7, .int (nI el), .ref b8, .ref b9, .ref b10])), (b1, .inl (cJ, 512, .inr (.inl vs))), (b2, .inl (cZ, 512, .inl (fun j => bI (ac j)))), (b3, .inl (cI, 8192, .inl (fun j => nI (o j)))), (b4, .inl (cJ, 8192, .inr (.inl mt))), (b5, .inl (cJ, 8192, .inr (.inl mw))), (b6, .inl (cJ, 16, .inr (.inl nv))), (b7, .inl (cJ, 16, .inr (.inl dl))), (b8, .inl (cJ, 8208, .inr (.inl (vp_updL rtc X.length z.2.1)))), (b9, .inl (cJ, 8208, .inr (.inl (vp_updL rvc X.length z.2.2)))), (b10, .inl (cZ, 8208, .inl (fun j => bI (mkc j))))] H := hP
              have hD : va_D A [(y, .inr (1, [.int (nI 0), .int (nI nD), .int (nI nR), .ref b1, .ref b2, .long now, .ref b3, .ref b4, .ref b5, .int (nI zs.length), .ref b6, .ref b7, .int (nI el), .ref b8, .ref b9, .ref b10])), (b1, .inl (cJ, 512, .inr (.inl vs))), (b2, .inl (cZ, 512, .inl (fun j => bI (ac j)))), (b3, .inl (cI, 8192, .inl (fun j => nI (o j)))), (b4, .inl (cJ, 8192, .inr (.inl mt))), (b5, .inl (cJ, 8192, .inr (.inl mw))), (b6, .inl (cJ, 16, .inr (.inl nv))), (b7, .inl (cJ, 16, .inr (.inl dl))), (b8, .inl (cJ, 8208, .inr (.inl (vp_updL rtc X.length z.2.1)))), (b9, .inl (cJ, 8208, .inr (.inl (vp_updL rvc X.length z.2.2)))), (b10, .inl (cZ, 8208, .inl (fun j => bI (mkc j))))] := hD
              refine lv_aload_n hx hb dX1_assign_203 rfl (lv_at hl 1 rfl) ?_
              refine va_get (D := (dC, dI)) (ci := 1) (v := .ref b10) (C := RX1) (T := TX1) (N := 16) hx hb hall inX1 hown hK hP 0 rfl rfl 15 (by decide) (hall _ kw_338) (fun _ h9 => h9) rfl dX1_assign_204 ?_
              refine lv_iload hx hb dX1_assign_207 (lv_at hl 6 rfl) ?_
              refine lv_iload_n hx hb dX1_assign_209 rfl (lv_at hl 3 rfl) ?_
              refine lv_iconst (v := 1) hx hb dX1_assign_210 (by decide) ?_
              refine lv_icmp_eq (tgt := 242) hx hb dX1_assign_211 (by decide) (fun c_17 => ?_) (fun c_17 => ?_)
              · have c_P := c_17
                refine lv_iconst (v := 1) hx hb dX1_assign_242 (by decide) ?_
                refine tp_i (y := bI (decide (mo = 1 ∨ z.2.1 < now + dl 0 - lm))) (by rw [decide_eq_true (show mo = 1 ∨ z.2.1 < now + dl 0 - lm from by first | exact Or.inl c_P | (right; rw [hlm, if_pos c_M]; exact Int64.not_le.mp c_T) | (right; rw [hlm, if_neg c_M]; exact Int64.not_le.mp c_T))]; rfl) ?_
                refine lv_goto (tgt := 247) hx hb dX1_assign_243 (by decide) ?_
                refine xa_zast hx hb hK hP hD hS 10 2 rfl rfl (by omega) (by omega) dX1_assign_247 (fun H locs hP hD hS => ?_)
                have hP : va_P (dC, dI) vwCl [(y, .inr (1, [.int (nI 0), .int (nI nD), .int (nI nR), .ref b1, .ref b2, .long now, .ref b3, .ref b4, .ref b5, .int (nI zs.length), .ref b6, .ref b7, .int (nI el), .ref b8, .ref b9, .ref b10])), (b1, .inl (cJ, 512, .inr (.inl vs))), (b2, .inl (cZ, 512, .inl (fun j => bI (ac j)))), (b3, .inl (cI, 8192, .inl (fun j => nI (o j)))), (b4, .inl (cJ, 8192, .inr (.inl mt))), (b5, .inl (cJ, 8192, .inr (.inl mw))), (b6, .inl (cJ, 16, .inr (.inl nv))), (b7, .inl (cJ, 16, .inr (.inl dl))), (b8, .inl (cJ, 8208, .inr (.inl (vp_updL rtc X.length z.2.1)))), (b9, .inl (cJ, 8208, .inr (.inl (vp_updL rvc X.length z.2.2)))), (b10, .inl (cZ, 8208, .inl (fun j => bI (ub mkc X.length (decide (mo = 1 ∨ z.2.1 < now + dl 0 - lm)) j))))] H := hP
                have hD : va_D A [(y, .inr (1, [.int (nI 0), .int (nI nD), .int (nI nR), .ref b1, .ref b2, .long now, .ref b3, .ref b4, .ref b5, .int (nI zs.length), .ref b6, .ref b7, .int (nI el), .ref b8, .ref b9, .ref b10])), (b1, .inl (cJ, 512, .inr (.inl vs))), (b2, .inl (cZ, 512, .inl (fun j => bI (ac j)))), (b3, .inl (cI, 8192, .inl (fun j => nI (o j)))), (b4, .inl (cJ, 8192, .inr (.inl mt))), (b5, .inl (cJ, 8192, .inr (.inl mw))), (b6, .inl (cJ, 16, .inr (.inl nv))), (b7, .inl (cJ, 16, .inr (.inl dl))), (b8, .inl (cJ, 8208, .inr (.inl (vp_updL rtc X.length z.2.1)))), (b9, .inl (cJ, 8208, .inr (.inl (vp_updL rvc X.length z.2.2)))), (b10, .inl (cZ, 8208, .inl (fun j => bI (ub mkc X.length (decide (mo = 1 ∨ z.2.1 < now + dl 0 - lm)) j))))] := hD
                refine lv_iinc (v := nI (X.length + 1)) (lv' := [(8, .int (nI (X.length + 1))), (9, .int (nI (c0 + 1))), (0, .ref y), (1, .int (nI d)), (2, .int mo), (3, .long t), (6, .long (now + dl 0)), (10, .int (nI k))]) hx hb dX1_assign_248 hl (k := 6) rfl (nI_1 _) (by decide) rfl (fun ls hl => ?_)
                refine lv_iinc (v := nI (k + 1)) (lv' := [(10, .int (nI (k + 1))), (8, .int (nI (X.length + 1))), (9, .int (nI (c0 + 1))), (0, .ref y), (1, .int (nI d)), (2, .int mo), (3, .long t), (6, .long (now + dl 0))]) hx hb dX1_assign_251 hl (k := 7) rfl (nI_1 k) (by decide) rfl (fun ls hl => ?_)
                refine lv_goto (tgt := 139) hx hb dX1_assign_254 (by decide) ?_
                exact ih (k + 1) (X ++ [(z.2.1, z.2.2, decide (mo = 1 ∨ z.2.1 < now + dl 0 - lm))]) (c0 + 1) _ _ _ H locs ls htl (by omega) (by rw [wz_len]; omega) (by omega) (by rw [← hc]; show _ = _ + ((if z.1 = d then 1 else 0) + wc d tl); rw [if_pos c_O]; omega) (wx_push (z.2.1, z.2.2, decide (mo = 1 ∨ z.2.1 < now + dl 0 - lm)) hX) (by rw [← hXe, List.append_assoc]; show _ = _ ++ (if z.1 = d ∧ z.2.1 < now + dl 0 then (z.2.1, z.2.2, decide (mo = 1 ∨ z.2.1 < now + dl 0 - lm)) :: wro d (now + dl 0) lm mo tl else wro d (now + dl 0) lm mo tl); rw [if_pos ⟨c_O, Int64.not_le.mp c_B⟩]; rfl) hP hD hS (by rw [wz_len]; exact lv_sub hl [3, 4, 5, 6, 7, 1, 2, 0] rfl)
              · have c_P := c_17
                refine lv_aload_n hx hb dX1_assign_214 rfl (lv_at hl 1 rfl) ?_
                refine va_get (D := (dC, dI)) (ci := 1) (v := .ref b4) (C := RX1) (T := TX1) (N := 16) hx hb hall inX1 hown hK hP 0 rfl rfl 7 (by decide) (hall _ kw_330) (fun _ h9 => h9) rfl dX1_assign_215 ?_
                refine lv_iload hx hb dX1_assign_218 (lv_at hl 7 rfl) ?_
                refine xa_lald hx hb hK hP 4 1 rfl rfl (by omega) (by omega) dX1_assign_220 ?_
                refine tp_l (y := z.2.1) ez2 ?_
                refine lv_lload hx hb dX1_assign_221 (lv_at hl 5 rfl) ?_
                refine lv_iload_n hx hb dX1_assign_223 rfl (lv_at hl 3 rfl) ?_
                refine lv_if_ne (tgt := 236) hx hb dX1_assign_224 (by decide) (fun c_18 => ?_) (fun c_18 => ?_)
                · have c_M := c_18
                  refine lv_lload_n hx hb dX1_assign_236 rfl (lv_at hl 4 rfl) ?_
                  refine lv_lsub hx hb dX1_assign_237 ?_
                  refine xl_ge (tgt := 246) hx hb dX1_assign_238 dX1_assign_239 (by decide) (fun c_19 => ?_) (fun c_19 => ?_)
                  · have c_T := c_19
                    refine lv_iconst (v := 0) hx hb dX1_assign_246 (by decide) ?_
                    refine tp_i (y := bI (decide (mo = 1 ∨ z.2.1 < now + dl 0 - lm))) (by rw [decide_eq_false (show ¬ (mo = 1 ∨ z.2.1 < now + dl 0 - lm) from fun q => q.elim c_P (fun q => by first | (rw [hlm, if_pos c_M] at q; exact absurd q (Int64.not_lt.mpr c_T)) | (rw [hlm, if_neg c_M] at q; exact absurd q (Int64.not_lt.mpr c_T))))]; rfl) ?_
                    refine xa_zast hx hb hK hP hD hS 10 2 rfl rfl (by omega) (by omega) dX1_assign_247 (fun H locs hP hD hS => ?_)
                    have hP : va_P (dC, dI) vwCl [(y, .inr (1, [.int (nI 0), .int (nI nD), .int (nI nR), .ref b1, .ref b2, .long now, .ref b3, .ref b4, .ref b5, .int (nI zs.length), .ref b6, .ref b7, .int (nI el), .ref b8, .ref b9, .ref b10])), (b1, .inl (cJ, 512, .inr (.inl vs))), (b2, .inl (cZ, 512, .inl (fun j => bI (ac j)))), (b3, .inl (cI, 8192, .inl (fun j => nI (o j)))), (b4, .inl (cJ, 8192, .inr (.inl mt))), (b5, .inl (cJ, 8192, .inr (.inl mw))), (b6, .inl (cJ, 16, .inr (.inl nv))), (b7, .inl (cJ, 16, .inr (.inl dl))), (b8, .inl (cJ, 8208, .inr (.inl (vp_updL rtc X.length z.2.1)))), (b9, .inl (cJ, 8208, .inr (.inl (vp_updL rvc X.length z.2.2)))), (b10, .inl (cZ, 8208, .inl (fun j => bI (ub mkc X.length (decide (mo = 1 ∨ z.2.1 < now + dl 0 - lm)) j))))] H := hP
                    have hD : va_D A [(y, .inr (1, [.int (nI 0), .int (nI nD), .int (nI nR), .ref b1, .ref b2, .long now, .ref b3, .ref b4, .ref b5, .int (nI zs.length), .ref b6, .ref b7, .int (nI el), .ref b8, .ref b9, .ref b10])), (b1, .inl (cJ, 512, .inr (.inl vs))), (b2, .inl (cZ, 512, .inl (fun j => bI (ac j)))), (b3, .inl (cI, 8192, .inl (fun j => nI (o j)))), (b4, .inl (cJ, 8192, .inr (.inl mt))), (b5, .inl (cJ, 8192, .inr (.inl mw))), (b6, .inl (cJ, 16, .inr (.inl nv))), (b7, .inl (cJ, 16, .inr (.inl dl))), (b8, .inl (cJ, 8208, .inr (.inl (vp_updL rtc X.length z.2.1)))), (b9, .inl (cJ, 8208, .inr (.inl (vp_updL rvc X.length z.2.2)))), (b10, .inl (cZ, 8208, .inl (fun j => bI (ub mkc X.length (decide (mo = 1 ∨ z.2.1 < now + dl 0 - lm)) j))))] := hD
                    refine lv_iinc (v := nI (X.length + 1)) (lv' := [(8, .int (nI (X.length + 1))), (9, .int (nI (c0 + 1))), (0, .ref y), (1, .int (nI d)), (2, .int mo), (3, .long t), (6, .long (now + dl 0)), (10, .int (nI k))]) hx hb dX1_assign_248 hl (k := 6) rfl (nI_1 _) (by decide) rfl (fun ls hl => ?_)
                    refine lv_iinc (v := nI (k + 1)) (lv' := [(10, .int (nI (k + 1))), (8, .int (nI (X.length + 1))), (9, .int (nI (c0 + 1))), (0, .ref y), (1, .int (nI d)), (2, .int mo), (3, .long t), (6, .long (now + dl 0))]) hx hb dX1_assign_251 hl (k := 7) rfl (nI_1 k) (by decide) rfl (fun ls hl => ?_)
                    refine lv_goto (tgt := 139) hx hb dX1_assign_254 (by decide) ?_
                    exact ih (k + 1) (X ++ [(z.2.1, z.2.2, decide (mo = 1 ∨ z.2.1 < now + dl 0 - lm))]) (c0 + 1) _ _ _ H locs ls htl (by omega) (by rw [wz_len]; omega) (by omega) (by rw [← hc]; show _ = _ + ((if z.1 = d then 1 else 0) + wc d tl); rw [if_pos c_O]; omega) (wx_push (z.2.1, z.2.2, decide (mo = 1 ∨ z.2.1 < now + dl 0 - lm)) hX) (by rw [← hXe, List.append_assoc]; show _ = _ ++ (if z.1 = d ∧ z.2.1 < now + dl 0 then (z.2.1, z.2.2, decide (mo = 1 ∨ z.2.1 < now + dl 0 - lm)) :: wro d (now + dl 0) lm mo tl else wro d (now + dl 0) lm mo tl); rw [if_pos ⟨c_O, Int64.not_le.mp c_B⟩]; rfl) hP hD hS (by rw [wz_len]; exact lv_sub hl [3, 4, 5, 6, 7, 1, 2, 0] rfl)
                  · have c_T := c_19
                    refine lv_iconst (v := 1) hx hb dX1_assign_242 (by decide) ?_
                    refine tp_i (y := bI (decide (mo = 1 ∨ z.2.1 < now + dl 0 - lm))) (by rw [decide_eq_true (show mo = 1 ∨ z.2.1 < now + dl 0 - lm from by first | exact Or.inl c_P | (right; rw [hlm, if_pos c_M]; exact Int64.not_le.mp c_T) | (right; rw [hlm, if_neg c_M]; exact Int64.not_le.mp c_T))]; rfl) ?_
                    refine lv_goto (tgt := 247) hx hb dX1_assign_243 (by decide) ?_
                    refine xa_zast hx hb hK hP hD hS 10 2 rfl rfl (by omega) (by omega) dX1_assign_247 (fun H locs hP hD hS => ?_)
                    have hP : va_P (dC, dI) vwCl [(y, .inr (1, [.int (nI 0), .int (nI nD), .int (nI nR), .ref b1, .ref b2, .long now, .ref b3, .ref b4, .ref b5, .int (nI zs.length), .ref b6, .ref b7, .int (nI el), .ref b8, .ref b9, .ref b10])), (b1, .inl (cJ, 512, .inr (.inl vs))), (b2, .inl (cZ, 512, .inl (fun j => bI (ac j)))), (b3, .inl (cI, 8192, .inl (fun j => nI (o j)))), (b4, .inl (cJ, 8192, .inr (.inl mt))), (b5, .inl (cJ, 8192, .inr (.inl mw))), (b6, .inl (cJ, 16, .inr (.inl nv))), (b7, .inl (cJ, 16, .inr (.inl dl))), (b8, .inl (cJ, 8208, .inr (.inl (vp_updL rtc X.length z.2.1)))), (b9, .inl (cJ, 8208, .inr (.inl (vp_updL rvc X.length z.2.2)))), (b10, .inl (cZ, 8208, .inl (fun j => bI (ub mkc X.length (decide (mo = 1 ∨ z.2.1 < now + dl 0 - lm)) j))))] H := hP
                    have hD : va_D A [(y, .inr (1, [.int (nI 0), .int (nI nD), .int (nI nR), .ref b1, .ref b2, .long now, .ref b3, .ref b4, .ref b5, .int (nI zs.length), .ref b6, .ref b7, .int (nI el), .ref b8, .ref b9, .ref b10])), (b1, .inl (cJ, 512, .inr (.inl vs))), (b2, .inl (cZ, 512, .inl (fun j => bI (ac j)))), (b3, .inl (cI, 8192, .inl (fun j => nI (o j)))), (b4, .inl (cJ, 8192, .inr (.inl mt))), (b5, .inl (cJ, 8192, .inr (.inl mw))), (b6, .inl (cJ, 16, .inr (.inl nv))), (b7, .inl (cJ, 16, .inr (.inl dl))), (b8, .inl (cJ, 8208, .inr (.inl (vp_updL rtc X.length z.2.1)))), (b9, .inl (cJ, 8208, .inr (.inl (vp_updL rvc X.length z.2.2)))), (b10, .inl (cZ, 8208, .inl (fun j => bI (ub mkc X.length (decide (mo = 1 ∨ z.2.1 < now + dl 0 - lm)) j))))] := hD
                    refine lv_iinc (v := nI (X.length + 1)) (lv' := [(8, .int (nI (X.length + 1))), (9, .int (nI (c0 + 1))), (0, .ref y), (1, .int (nI d)), (2, .int mo), (3, .long t), (6, .long (now + dl 0)), (10, .int (nI k))]) hx hb dX1_assign_248 hl (k := 6) rfl (nI_1 _) (by decide) rfl (fun ls hl => ?_)
                    refine lv_iinc (v := nI (k + 1)) (lv' := [(10, .int (nI (k + 1))), (8, .int (nI (X.length + 1))), (9, .int (nI (c0 + 1))), (0, .ref y), (1, .int (nI d)), (2, .int mo), (3, .long t), (6, .long (now + dl 0))]) hx hb dX1_assign_251 hl (k := 7) rfl (nI_1 k) (by decide) rfl (fun ls hl => ?_)
                    refine lv_goto (tgt := 139) hx hb dX1_assign_254 (by decide) ?_
                    exact ih (k + 1) (X ++ [(z.2.1, z.2.2, decide (mo = 1 ∨ z.2.1 < now + dl 0 - lm))]) (c0 + 1) _ _ _ H locs ls htl (by omega) (by rw [wz_len]; omega) (by omega) (by rw [← hc]; show _ = _ + ((if z.1 = d then 1 else 0) + wc d tl); rw [if_pos c_O]; omega) (wx_push (z.2.1, z.2.2, decide (mo = 1 ∨ z.2.1 < now + dl 0 - lm)) hX) (by rw [← hXe, List.append_assoc]; show _ = _ ++ (if z.1 = d ∧ z.2.1 < now + dl 0 then (z.2.1, z.2.2, decide (mo = 1 ∨ z.2.1 < now + dl 0 - lm)) :: wro d (now + dl 0) lm mo tl else wro d (now + dl 0) lm mo tl); rw [if_pos ⟨c_O, Int64.not_le.mp c_B⟩]; rfl) hP hD hS (by rw [wz_len]; exact lv_sub hl [3, 4, 5, 6, 7, 1, 2, 0] rfl)
                · have c_M := c_18
                  refine lv_aload_n hx hb dX1_assign_227 rfl (lv_at hl 1 rfl) ?_
                  refine va_get (D := (dC, dI)) (ci := 1) (v := .ref b7) (C := RX1) (T := TX1) (N := 16) hx hb hall inX1 hown hK hP 0 rfl rfl 11 (by decide) (hall _ kw_334) (fun _ h9 => h9) rfl dX1_assign_228 ?_
                  refine lv_iconst (v := 0) hx hb dX1_assign_231 (by decide) ?_
                  refine tp_i (y := nI 0) nI_0.symm ?_
                  refine xa_lald hx hb hK hP 7 1 rfl rfl (by omega) (by omega) dX1_assign_232 ?_
                  refine lv_goto (tgt := 237) hx hb dX1_assign_233 (by decide) ?_
                  refine lv_lsub hx hb dX1_assign_237 ?_
                  refine xl_ge (tgt := 246) hx hb dX1_assign_238 dX1_assign_239 (by decide) (fun c_20 => ?_) (fun c_20 => ?_)
                  · have c_T := c_20
                    refine lv_iconst (v := 0) hx hb dX1_assign_246 (by decide) ?_
                    refine tp_i (y := bI (decide (mo = 1 ∨ z.2.1 < now + dl 0 - lm))) (by rw [decide_eq_false (show ¬ (mo = 1 ∨ z.2.1 < now + dl 0 - lm) from fun q => q.elim c_P (fun q => by first | (rw [hlm, if_pos c_M] at q; exact absurd q (Int64.not_lt.mpr c_T)) | (rw [hlm, if_neg c_M] at q; exact absurd q (Int64.not_lt.mpr c_T))))]; rfl) ?_
                    refine xa_zast hx hb hK hP hD hS 10 2 rfl rfl (by omega) (by omega) dX1_assign_247 (fun H locs hP hD hS => ?_)
                    have hP : va_P (dC, dI) vwCl [(y, .inr (1, [.int (nI 0), .int (nI nD), .int (nI nR), .ref b1, .ref b2, .long now, .ref b3, .ref b4, .ref b5, .int (nI zs.length), .ref b6, .ref b7, .int (nI el), .ref b8, .ref b9, .ref b10])), (b1, .inl (cJ, 512, .inr (.inl vs))), (b2, .inl (cZ, 512, .inl (fun j => bI (ac j)))), (b3, .inl (cI, 8192, .inl (fun j => nI (o j)))), (b4, .inl (cJ, 8192, .inr (.inl mt))), (b5, .inl (cJ, 8192, .inr (.inl mw))), (b6, .inl (cJ, 16, .inr (.inl nv))), (b7, .inl (cJ, 16, .inr (.inl dl))), (b8, .inl (cJ, 8208, .inr (.inl (vp_updL rtc X.length z.2.1)))), (b9, .inl (cJ, 8208, .inr (.inl (vp_updL rvc X.length z.2.2)))), (b10, .inl (cZ, 8208, .inl (fun j => bI (ub mkc X.length (decide (mo = 1 ∨ z.2.1 < now + dl 0 - lm)) j))))] H := hP
                    have hD : va_D A [(y, .inr (1, [.int (nI 0), .int (nI nD), .int (nI nR), .ref b1, .ref b2, .long now, .ref b3, .ref b4, .ref b5, .int (nI zs.length), .ref b6, .ref b7, .int (nI el), .ref b8, .ref b9, .ref b10])), (b1, .inl (cJ, 512, .inr (.inl vs))), (b2, .inl (cZ, 512, .inl (fun j => bI (ac j)))), (b3, .inl (cI, 8192, .inl (fun j => nI (o j)))), (b4, .inl (cJ, 8192, .inr (.inl mt))), (b5, .inl (cJ, 8192, .inr (.inl mw))), (b6, .inl (cJ, 16, .inr (.inl nv))), (b7, .inl (cJ, 16, .inr (.inl dl))), (b8, .inl (cJ, 8208, .inr (.inl (vp_updL rtc X.length z.2.1)))), (b9, .inl (cJ, 8208, .inr (.inl (vp_updL rvc X.length z.2.2)))), (b10, .inl (cZ, 8208, .inl (fun j => bI (ub mkc X.length (decide (mo = 1 ∨ z.2.1 < now + dl 0 - lm)) j))))] := hD
                    refine lv_iinc (v := nI (X.length + 1)) (lv' := [(8, .int (nI (X.length + 1))), (9, .int (nI (c0 + 1))), (0, .ref y), (1, .int (nI d)), (2, .int mo), (3, .long t), (6, .long (now + dl 0)), (10, .int (nI k))]) hx hb dX1_assign_248 hl (k := 6) rfl (nI_1 _) (by decide) rfl (fun ls hl => ?_)
                    refine lv_iinc (v := nI (k + 1)) (lv' := [(10, .int (nI (k + 1))), (8, .int (nI (X.length + 1))), (9, .int (nI (c0 + 1))), (0, .ref y), (1, .int (nI d)), (2, .int mo), (3, .long t), (6, .long (now + dl 0))]) hx hb dX1_assign_251 hl (k := 7) rfl (nI_1 k) (by decide) rfl (fun ls hl => ?_)
                    refine lv_goto (tgt := 139) hx hb dX1_assign_254 (by decide) ?_
                    exact ih (k + 1) (X ++ [(z.2.1, z.2.2, decide (mo = 1 ∨ z.2.1 < now + dl 0 - lm))]) (c0 + 1) _ _ _ H locs ls htl (by omega) (by rw [wz_len]; omega) (by omega) (by rw [← hc]; show _ = _ + ((if z.1 = d then 1 else 0) + wc d tl); rw [if_pos c_O]; omega) (wx_push (z.2.1, z.2.2, decide (mo = 1 ∨ z.2.1 < now + dl 0 - lm)) hX) (by rw [← hXe, List.append_assoc]; show _ = _ ++ (if z.1 = d ∧ z.2.1 < now + dl 0 then (z.2.1, z.2.2, decide (mo = 1 ∨ z.2.1 < now + dl 0 - lm)) :: wro d (now + dl 0) lm mo tl else wro d (now + dl 0) lm mo tl); rw [if_pos ⟨c_O, Int64.not_le.mp c_B⟩]; rfl) hP hD hS (by rw [wz_len]; exact lv_sub hl [3, 4, 5, 6, 7, 1, 2, 0] rfl)
                  · have c_T := c_20
                    refine lv_iconst (v := 1) hx hb dX1_assign_242 (by decide) ?_
                    refine tp_i (y := bI (decide (mo = 1 ∨ z.2.1 < now + dl 0 - lm))) (by rw [decide_eq_true (show mo = 1 ∨ z.2.1 < now + dl 0 - lm from by first | exact Or.inl c_P | (right; rw [hlm, if_pos c_M]; exact Int64.not_le.mp c_T) | (right; rw [hlm, if_neg c_M]; exact Int64.not_le.mp c_T))]; rfl) ?_
                    refine lv_goto (tgt := 247) hx hb dX1_assign_243 (by decide) ?_
                    refine xa_zast hx hb hK hP hD hS 10 2 rfl rfl (by omega) (by omega) dX1_assign_247 (fun H locs hP hD hS => ?_)
                    have hP : va_P (dC, dI) vwCl [(y, .inr (1, [.int (nI 0), .int (nI nD), .int (nI nR), .ref b1, .ref b2, .long now, .ref b3, .ref b4, .ref b5, .int (nI zs.length), .ref b6, .ref b7, .int (nI el), .ref b8, .ref b9, .ref b10])), (b1, .inl (cJ, 512, .inr (.inl vs))), (b2, .inl (cZ, 512, .inl (fun j => bI (ac j)))), (b3, .inl (cI, 8192, .inl (fun j => nI (o j)))), (b4, .inl (cJ, 8192, .inr (.inl mt))), (b5, .inl (cJ, 8192, .inr (.inl mw))), (b6, .inl (cJ, 16, .inr (.inl nv))), (b7, .inl (cJ, 16, .inr (.inl dl))), (b8, .inl (cJ, 8208, .inr (.inl (vp_updL rtc X.length z.2.1)))), (b9, .inl (cJ, 8208, .inr (.inl (vp_updL rvc X.length z.2.2)))), (b10, .inl (cZ, 8208, .inl (fun j => bI (ub mkc X.length (decide (mo = 1 ∨ z.2.1 < now + dl 0 - lm)) j))))] H := hP
                    have hD : va_D A [(y, .inr (1, [.int (nI 0), .int (nI nD), .int (nI nR), .ref b1, .ref b2, .long now, .ref b3, .ref b4, .ref b5, .int (nI zs.length), .ref b6, .ref b7, .int (nI el), .ref b8, .ref b9, .ref b10])), (b1, .inl (cJ, 512, .inr (.inl vs))), (b2, .inl (cZ, 512, .inl (fun j => bI (ac j)))), (b3, .inl (cI, 8192, .inl (fun j => nI (o j)))), (b4, .inl (cJ, 8192, .inr (.inl mt))), (b5, .inl (cJ, 8192, .inr (.inl mw))), (b6, .inl (cJ, 16, .inr (.inl nv))), (b7, .inl (cJ, 16, .inr (.inl dl))), (b8, .inl (cJ, 8208, .inr (.inl (vp_updL rtc X.length z.2.1)))), (b9, .inl (cJ, 8208, .inr (.inl (vp_updL rvc X.length z.2.2)))), (b10, .inl (cZ, 8208, .inl (fun j => bI (ub mkc X.length (decide (mo = 1 ∨ z.2.1 < now + dl 0 - lm)) j))))] := hD
                    refine lv_iinc (v := nI (X.length + 1)) (lv' := [(8, .int (nI (X.length + 1))), (9, .int (nI (c0 + 1))), (0, .ref y), (1, .int (nI d)), (2, .int mo), (3, .long t), (6, .long (now + dl 0)), (10, .int (nI k))]) hx hb dX1_assign_248 hl (k := 6) rfl (nI_1 _) (by decide) rfl (fun ls hl => ?_)
                    refine lv_iinc (v := nI (k + 1)) (lv' := [(10, .int (nI (k + 1))), (8, .int (nI (X.length + 1))), (9, .int (nI (c0 + 1))), (0, .ref y), (1, .int (nI d)), (2, .int mo), (3, .long t), (6, .long (now + dl 0))]) hx hb dX1_assign_251 hl (k := 7) rfl (nI_1 k) (by decide) rfl (fun ls hl => ?_)
                    refine lv_goto (tgt := 139) hx hb dX1_assign_254 (by decide) ?_
                    exact ih (k + 1) (X ++ [(z.2.1, z.2.2, decide (mo = 1 ∨ z.2.1 < now + dl 0 - lm))]) (c0 + 1) _ _ _ H locs ls htl (by omega) (by rw [wz_len]; omega) (by omega) (by rw [← hc]; show _ = _ + ((if z.1 = d then 1 else 0) + wc d tl); rw [if_pos c_O]; omega) (wx_push (z.2.1, z.2.2, decide (mo = 1 ∨ z.2.1 < now + dl 0 - lm)) hX) (by rw [← hXe, List.append_assoc]; show _ = _ ++ (if z.1 = d ∧ z.2.1 < now + dl 0 then (z.2.1, z.2.2, decide (mo = 1 ∨ z.2.1 < now + dl 0 - lm)) :: wro d (now + dl 0) lm mo tl else wro d (now + dl 0) lm mo tl); rw [if_pos ⟨c_O, Int64.not_le.mp c_B⟩]; rfl) hP hD hS (by rw [wz_len]; exact lv_sub hl [3, 4, 5, 6, 7, 1, 2, 0] rfl)
    exact hloop1 zs 0 [] 0 rt rv mk H locs ls rfl (by omega) (Nat.zero_le _) (by omega) (by omega) (fun j e he => by cases he) rfl hP hD hS (lv_sub hl [4, 5, 6, 7, 3, 2, 1, 0] rfl)
  refine lv_aload_n hx hb dX1_assign_0 rfl (lv_at hl 0 rfl) ?_
  refine lv_aload_n hx hb dX1_assign_1 rfl (lv_at hl 0 rfl) ?_
  refine lv_iload_n hx hb dX1_assign_2 rfl (lv_at hl 1 rfl) ?_
  refine vp_callSi (W.runV (As := [.int (nI d)]) (rest := [.ref y]) ⟨hx, hb, hml, hown, hall⟩ (m_none0 l dC dI y b1 b2 b3 b4 b5 b6 b7 b8 b9 b10 cI cJ cZ th nD nR vs ac now o mt mw nv dl el rt rv mk zs hI0 hZ d hd) (cwV 1 hall gX1_60 rfl rfl rfl (by decide +kernel) ⟨Nat.le_of_ble_eq_true rfl, Nat.le_of_ble_eq_true rfl⟩) ⟨xr_blind, va_recv hK hP (ci := 1) (q0 := 0) rfl rfl, fun U hU hW => ⟨rfl, by rw [hU]; exact hP, va_K.moved hW.alike hK⟩⟩ rfl rfl hl.1 rfl (lv_room (Nat.le_of_ble_eq_true rfl)) dX1_assign_3 ⟨by first | exact Nat.zero_le _ | omega, by first | exact Nat.zero_le _ | omega⟩) (fun v_21 hv_22 => ?_)
  subst hv_22
  refine lv_if_eq (tgt := 13) hx hb dX1_assign_6 (by decide) (fun c_23 => ?_) (fun c_23 => ?_)
  · refine lv_aload_n hx hb dX1_assign_13 rfl (lv_at hl 0 rfl) ?_
    refine va_get (D := (dC, dI)) (ci := 1) (v := .int (nI el)) (C := RX1) (T := TX1) (N := 16) hx hb hall inX1 hown hK hP 0 rfl rfl 12 (by decide) (hall _ kw_335) (fun _ h9 => h9) rfl dX1_assign_14 ?_
    refine xz_ne (tgt := 24) hx hb (by omega) dX1_assign_17 (by decide) (fun c_24 => ?_) (fun c_24 => ?_)
    · refine lv_iconst (v := 0) hx hb dX1_assign_24 (by decide) ?_
      refine tp_i (y := nI 0) nI_0.symm ?_
      refine va_put (D := (dC, dI)) (ci := 1) (v := .int (nI 0)) (ty := .int) (C := RX1) (T := TX1) (N := 16) hx hb hall inX1 tyX1 tyX1_ok nmX1 hown hK hP hD hS 0 rfl rfl 0 (by decide) (hall _ kw_323) (fun _ h9 => h9) rfl (by decide +kernel) rfl rfl (Nat.le_of_ble_eq_true rfl) dX1_assign_25 (fun H locs hP hD hS => ?_)
      have hP : va_P (dC, dI) vwCl [(y, .inr (1, [.int (nI 0), .int (nI nD), .int (nI nR), .ref b1, .ref b2, .long now, .ref b3, .ref b4, .ref b5, .int (nI zs.length), .ref b6, .ref b7, .int (nI el), .ref b8, .ref b9, .ref b10])), (b1, .inl (cJ, 512, .inr (.inl vs))), (b2, .inl (cZ, 512, .inl (fun j => bI (ac j)))), (b3, .inl (cI, 8192, .inl (fun j => nI (o j)))), (b4, .inl (cJ, 8192, .inr (.inl mt))), (b5, .inl (cJ, 8192, .inr (.inl mw))), (b6, .inl (cJ, 16, .inr (.inl nv))), (b7, .inl (cJ, 16, .inr (.inl dl))), (b8, .inl (cJ, 8208, .inr (.inl rt))), (b9, .inl (cJ, 8208, .inr (.inl rv))), (b10, .inl (cZ, 8208, .inl (fun j => bI (mk j))))] H := hP
      have hD : va_D A [(y, .inr (1, [.int (nI 0), .int (nI nD), .int (nI nR), .ref b1, .ref b2, .long now, .ref b3, .ref b4, .ref b5, .int (nI zs.length), .ref b6, .ref b7, .int (nI el), .ref b8, .ref b9, .ref b10])), (b1, .inl (cJ, 512, .inr (.inl vs))), (b2, .inl (cZ, 512, .inl (fun j => bI (ac j)))), (b3, .inl (cI, 8192, .inl (fun j => nI (o j)))), (b4, .inl (cJ, 8192, .inr (.inl mt))), (b5, .inl (cJ, 8192, .inr (.inl mw))), (b6, .inl (cJ, 16, .inr (.inl nv))), (b7, .inl (cJ, 16, .inr (.inl dl))), (b8, .inl (cJ, 8208, .inr (.inl rt))), (b9, .inl (cJ, 8208, .inr (.inl rv))), (b10, .inl (cZ, 8208, .inl (fun j => bI (mk j))))] := hD
      refine lv_aload_n hx hb dX1_assign_28 rfl (lv_at hl 0 rfl) ?_
      refine va_get (D := (dC, dI)) (ci := 1) (v := .int (nI 0)) (C := RX1) (T := TX1) (N := 16) hx hb hall inX1 hown hK hP 0 rfl rfl 0 (by decide) (hall _ kw_323) (fun _ h9 => h9) rfl dX1_assign_29 ?_
      refine xz_le (tgt := 37) hx hb (by omega) dX1_assign_32 (by decide) (fun c_25 => ?_) (fun c_25 => ?_)
      · refine lv_iload_n hx hb dX1_assign_37 rfl (lv_at hl 2 rfl) ?_
        refine lv_if_lt (tgt := 80) hx hb dX1_assign_38 (by decide) (fun c_26 => ?_) (fun c_26 => ?_)
        · exact absurd c_26 hg.1.1
        · refine lv_iload_n hx hb dX1_assign_41 rfl (lv_at hl 2 rfl) ?_
          refine lv_iconst (v := 2) hx hb dX1_assign_42 (by decide) ?_
          refine lv_icmp_gt (tgt := 80) hx hb dX1_assign_43 (by decide) (fun c_27 => ?_) (fun c_27 => ?_)
          · exact absurd c_27 hg.1.2
          · refine lv_aload_n hx hb dX1_assign_46 rfl (lv_at hl 0 rfl) ?_
            refine vp_callSi (W.runV (As := []) (rest := []) ⟨hx, hb, hml, hown, hall⟩ (m_rises l dC dI y b1 b2 b3 b4 b5 b6 b7 b8 b9 b10 cI cJ cZ 0 nD nR vs ac now o mt mw nv dl el rt rv mk zs hel) (cwV 0 hall gX1_64 rfl rfl rfl (by decide +kernel) ⟨Nat.le_of_ble_eq_true rfl, Nat.le_of_ble_eq_true rfl⟩) ⟨xr_blind, va_recv hK hP (ci := 1) (q0 := 0) rfl rfl, fun U hU hW => ⟨rfl, by rw [hU]; exact hP, va_K.moved hW.alike hK⟩⟩ rfl rfl hl.1 rfl (lv_room (Nat.le_of_ble_eq_true rfl)) dX1_assign_47 ⟨by first | exact Nat.zero_le _ | omega, by first | exact Nat.zero_le _ | omega⟩) (fun v_28 hv_29 => ?_)
            obtain rfl : v_28 = 1 := hv_29.elim (fun q => q.1) (fun q => absurd hg.2.1 q.2)
            refine lv_if_eq (tgt := 80) hx hb dX1_assign_50 (by decide) (fun c_30 => ?_) (fun c_30 => ?_)
            · exact absurd c_30 (by decide)
            · refine lv_aload_n hx hb dX1_assign_53 rfl (lv_at hl 0 rfl) ?_
              refine va_get (D := (dC, dI)) (ci := 1) (v := .long now) (C := RX1) (T := TX1) (N := 16) hx hb hall inX1 hown hK hP 0 rfl rfl 5 (by decide) (hall _ kw_328) (fun _ h9 => h9) rfl dX1_assign_54 ?_
              refine lv_aload_n hx hb dX1_assign_57 rfl (lv_at hl 0 rfl) ?_
              refine va_get (D := (dC, dI)) (ci := 1) (v := .ref b7) (C := RX1) (T := TX1) (N := 16) hx hb hall inX1 hown hK hP 0 rfl rfl 11 (by decide) (hall _ kw_334) (fun _ h9 => h9) rfl dX1_assign_58 ?_
              refine lv_aload_n hx hb dX1_assign_61 rfl (lv_at hl 0 rfl) ?_
              refine va_get (D := (dC, dI)) (ci := 1) (v := .int (nI el)) (C := RX1) (T := TX1) (N := 16) hx hb hall inX1 hown hK hP 0 rfl rfl 12 (by decide) (hall _ kw_335) (fun _ h9 => h9) rfl dX1_assign_62 ?_
              refine lv_iconst (v := 1) hx hb dX1_assign_65 (by decide) ?_
              refine lv_isub hx hb dX1_assign_66 ?_
              refine tp_i (y := nI (el - 1)) (by rw [show el = (el - 1) + 1 by omega]; exact nI_pred (el - 1)) ?_
              refine xa_lald hx hb hK hP 7 1 rfl rfl (by omega) (by omega) dX1_assign_67 ?_
              refine lv_ladd hx hb dX1_assign_68 ?_
              refine lv_ldc2 (v := 1152921504606846976) hx hb hown (hall _ kw_381) dX1_assign_69 ?_
              refine xl_gt (tgt := 80) hx hb dX1_assign_72 dX1_assign_73 (by decide) (fun c_31 => ?_) (fun c_31 => ?_)
              · exact absurd c_31 hg.2.2.1
              · refine lv_iconst (v := 1) hx hb dX1_assign_76 (by decide) ?_
                refine lv_goto (tgt := 81) hx hb dX1_assign_77 (by decide) ?_
                refine lv_istore (lv' := [(5, .int 1), (0, .ref y), (1, .int (nI d)), (2, .int mo), (3, .long t)]) hx hb dX1_assign_81 hl (by decide) rfl (fun ls hl => ?_)
                refine lv_iload hx hb dX1_assign_83 (lv_at hl 0 rfl) ?_
                refine lv_if_eq (tgt := 110) hx hb dX1_assign_85 (by decide) (fun c_32 => ?_) (fun c_32 => ?_)
                · exact absurd c_32 (by decide)
                · refine lv_iload_n hx hb dX1_assign_88 rfl (lv_at hl 3 rfl) ?_
                  refine lv_iconst (v := 2) hx hb dX1_assign_89 (by decide) ?_
                  refine lv_icmp_ne (tgt := 117) hx hb dX1_assign_90 (by decide) (fun c_33 => ?_) (fun c_33 => ?_)
                  · have c_D := c_33
                    exact h117 H locs hP hD hS ls (lv_sub hl [1, 2, 3, 4] rfl)
                  · have c_D := c_33
                    refine lv_lload_n hx hb dX1_assign_93 rfl (lv_at hl 4 rfl) ?_
                    refine lv_lconst (v := 0) hx hb dX1_assign_94 (by decide) ?_
                    refine xl_lt (tgt := 110) hx hb dX1_assign_95 dX1_assign_96 (by decide) (fun c_34 => ?_) (fun c_34 => ?_)
                    · exact absurd ⟨c_D, Or.inl c_34⟩ hg.2.2.2
                    · refine lv_lload_n hx hb dX1_assign_99 rfl (lv_at hl 4 rfl) ?_
                      refine lv_aload_n hx hb dX1_assign_100 rfl (lv_at hl 1 rfl) ?_
                      refine va_get (D := (dC, dI)) (ci := 1) (v := .ref b7) (C := RX1) (T := TX1) (N := 16) hx hb hall inX1 hown hK hP 0 rfl rfl 11 (by decide) (hall _ kw_334) (fun _ h9 => h9) rfl dX1_assign_101 ?_
                      refine lv_iconst (v := 0) hx hb dX1_assign_104 (by decide) ?_
                      refine tp_i (y := nI 0) nI_0.symm ?_
                      refine xa_lald hx hb hK hP 7 1 rfl rfl (by omega) (by omega) dX1_assign_105 ?_
                      refine xl_le (tgt := 117) hx hb dX1_assign_106 dX1_assign_107 (by decide) (fun c_35 => ?_) (fun c_35 => ?_)
                      · exact h117 H locs hP hD hS ls (lv_sub hl [1, 2, 3, 4] rfl)
                      · exact absurd ⟨c_D, Or.inr (Int64.not_le.mp c_35)⟩ hg.2.2.2
      · exact absurd c_25 (by omega)
    · exact absurd c_24 (by omega)
  · exact absurd rfl c_23
set_option maxHeartbeats 4000000 in
set_option maxRecDepth 100000 in
theorem m_assign4 (l : Launch) (dC : Nat → ClassId) (dI : Nat → Nat → Nat) (y b1 b2 b3 b4 b5 b6 b7 b8 b9 b10 : Nat) (cI cJ cZ : ClassId) (th nD nR : Nat) (vs : Nat → Int64) (ac : Nat → Bool) (now : Int64) (o : Nat → Nat) (mt mw : Nat → Int64) (nv dl : Nat → Int64) (el : Nat) (rt rv : Nat → Int64) (mk : Nat → Bool) (zs : List ZT) (sz : Nat) (hI : wm_I nD nR el zs) (hZ : wz zs o mt mw) (d : Nat) (hd : d < nD) (mo : Int32) (t : Int64) (hz : 0 < el) (hg : wm_g mo t now dl el) (lm : Int64) (hlm : lm = if mo = 0 then dl 0 else t) (hbad : nR < zs.length - wc d zs + wst (wro d (now + dl 0) lm mo zs).length (wmr (wro d (now + dl 0) lm mo zs ++ wel now dl nv el 0)) + el) : Met l yX1_assign wsX1_assign ({ frames := 1, cells := 0, slots := 0, locals := 24 }) (va_Pc [.ref y, .int (nI d), .int mo, .long t] (fun U => U.heap.size = sz ∧ va_P (dC, dI) vwCl (wm y b1 b2 b3 b4 b5 b6 b7 b8 b9 b10 cI cJ cZ th nD nR vs ac now o mt mw zs.length nv dl el rt rv mk) U.heap ∧ va_K (dC, dI) vwCl [(cI, .int), (cJ, .long), (cZ, .boolean)] U ∧ va_D (fun _ => True) (wm y b1 b2 b3 b4 b5 b6 b7 b8 b9 b10 cI cJ cZ th nD nR vs ac now o mt mw zs.length nv dl el rt rv mk))) (va_Qi (fun (v : Int32) (_ : Unit) => True) (fun _ t9 => ∃ (r9 v9 : Nat → Int64) (m9 : Nat → Bool), va_P (dC, dI) vwCl (wm y b1 b2 b3 b4 b5 b6 b7 b8 b9 b10 cI cJ cZ 2 nD nR vs ac now o mt mw zs.length nv dl el r9 v9 m9) t9.heap ∧ va_K (dC, dI) vwCl [(cI, .int), (cJ, .long), (cZ, .boolean)] t9 ∧ va_D (va_A (wm y b1 b2 b3 b4 b5 b6 b7 b8 b9 b10 cI cJ cZ th nD nR vs ac now o mt mw zs.length nv dl el rt rv mk) sz) (wm y b1 b2 b3 b4 b5 b6 b7 b8 b9 b10 cI cJ cZ 2 nD nR vs ac now o mt mw zs.length nv dl el r9 v9 m9)) (va_A (wm y b1 b2 b3 b4 b5 b6 b7 b8 b9 b10 cI cJ cZ th nD nR vs ac now o mt mw zs.length nv dl el rt rv mk) sz)) 0 0 (va_A (wm y b1 b2 b3 b4 b5 b6 b7 b8 b9 b10 cI cJ cZ th nD nR vs ac now o mt mw zs.length nv dl el rt rv mk) sz) := by
  refine Met.ofW (cc := cX1_assign) (maxL := 13) (ret := (some .int)) (by decide) rfl ?_
  intro p e s m args below meth c s₁ B hml hv
  obtain ⟨rfl, hsz, hP, hK, hD0⟩ := hv
  subst hsz
  have hD := hD0.self (sz := s.heap.size)
  generalize hAe : va_A (wm y b1 b2 b3 b4 b5 b6 b7 b8 b9 b10 cI cJ cZ th nD nR vs ac now o mt mw zs.length nv dl el rt rv mk) s.heap.size = A at hD ⊢
  have hA : ∀ q : Nat, s.heap.size ≤ q → A q := fun q h => by rw [← hAe]; exact Or.inr h
  have hS : va_S A s.heap s.heap [] := va_S.rf
  have hx := B.exec
  have hb := B.bytes
  have hr := B.returns
  have hts := atoms_spec (ws := wsX1_assign) B.pre
  have hown : s.vm.findClass RX1 = some m.cls := findClass_of_methodNamed B.named
  have hlocks := B.notSynchronized
  have hall := fun (w : Cond) (h : w ∈ allw) => hts w (List.mem_cons_of_mem _ h)
  have hl := lv_entry ([.ref y, .int (nI d), .int mo, .long t]) (n := 13) (Nat.le_of_ble_eq_true rfl)
  rw [lg_entry_eq]
  generalize (lg_sl ([.ref y, .int (nI d), .int mo, .long t]) ++ List.replicate (13 - (lg_sl ([.ref y, .int (nI d), .int mo, .long t])).length) Slot.unset).toArray = ls at hl ⊢
  have hl : lv_has ls 13 [(0, .ref y), (1, .int (nI d)), (2, .int mo), (3, .long t)] := hl
  have hI0 := hI
  obtain ⟨hnD1, hnD, hnR1, hnR, hzR, hel, how⟩ := hI
  have hwc := wc_le d zs
  have hro := wro_len d (now + dl 0) lm mo zs
  have hEl : (wro d (now + dl 0) lm mo zs ++ wel now dl nv el 0).length = (wro d (now + dl 0) lm mo zs).length + el := by rw [List.length_append, wel_len]
  have hst1 := wst_le (wro d (now + dl 0) lm mo zs).length (wmr (wro d (now + dl 0) lm mo zs ++ wel now dl nv el 0))
  have hst2 := wE_st (R := wro d (now + dl 0) lm mo zs) (now := now) (dl := dl) (nv := nv) (el := el)
  have hmll := wml_len d (wmr (wro d (now + dl 0) lm mo zs ++ wel now dl nv el 0))
  rw [wmr_len, hst2] at hmll
  have how2 := wot_wc d zs
  have hfl : (wot d zs ++ wml d (wmr (wro d (now + dl 0) lm mo zs ++ wel now dl nv el 0))).length = (wot d zs).length + (wml d (wmr (wro d (now + dl 0) lm mo zs ++ wel now dl nv el 0))).length := List.length_append
  have h117 : ∀ (H : Heap) (locs : List Loc), va_P (dC, dI) vwCl [(y, .inr (1, [.int (nI 0), .int (nI nD), .int (nI nR), .ref b1, .ref b2, .long now, .ref b3, .ref b4, .ref b5, .int (nI zs.length), .ref b6, .ref b7, .int (nI el), .ref b8, .ref b9, .ref b10])), (b1, .inl (cJ, 512, .inr (.inl vs))), (b2, .inl (cZ, 512, .inl (fun j => bI (ac j)))), (b3, .inl (cI, 8192, .inl (fun j => nI (o j)))), (b4, .inl (cJ, 8192, .inr (.inl mt))), (b5, .inl (cJ, 8192, .inr (.inl mw))), (b6, .inl (cJ, 16, .inr (.inl nv))), (b7, .inl (cJ, 16, .inr (.inl dl))), (b8, .inl (cJ, 8208, .inr (.inl rt))), (b9, .inl (cJ, 8208, .inr (.inl rv))), (b10, .inl (cZ, 8208, .inl (fun j => bI (mk j))))] H → va_D A [(y, .inr (1, [.int (nI 0), .int (nI nD), .int (nI nR), .ref b1, .ref b2, .long now, .ref b3, .ref b4, .ref b5, .int (nI zs.length), .ref b6, .ref b7, .int (nI el), .ref b8, .ref b9, .ref b10])), (b1, .inl (cJ, 512, .inr (.inl vs))), (b2, .inl (cZ, 512, .inl (fun j => bI (ac j)))), (b3, .inl (cI, 8192, .inl (fun j => nI (o j)))), (b4, .inl (cJ, 8192, .inr (.inl mt))), (b5, .inl (cJ, 8192, .inr (.inl mw))), (b6, .inl (cJ, 16, .inr (.inl nv))), (b7, .inl (cJ, 16, .inr (.inl dl))), (b8, .inl (cJ, 8208, .inr (.inl rt))), (b9, .inl (cJ, 8208, .inr (.inl rv))), (b10, .inl (cZ, 8208, .inl (fun j => bI (mk j))))] → va_S A s.heap H locs → ∀ (ls : Array Slot), lv_has ls 13 [(0, .ref y), (1, .int (nI d)), (2, .int mo), (3, .long t)] → W p l e (headSpec wsX1_assign ({ frames := 1, cells := 0, slots := 0, locals := 24 })).room s m (([.ref y, .int (nI d), .int mo, .long t] : List Value).toArray) below meth c H locs 0 0 (MQ below (va_Qi (fun (v : Int32) (_ : Unit) => True) (fun _ t9 => ∃ (r9 v9 : Nat → Int64) (m9 : Nat → Bool), va_P (dC, dI) vwCl (wm y b1 b2 b3 b4 b5 b6 b7 b8 b9 b10 cI cJ cZ 2 nD nR vs ac now o mt mw zs.length nv dl el r9 v9 m9) t9.heap ∧ va_K (dC, dI) vwCl [(cI, .int), (cJ, .long), (cZ, .boolean)] t9 ∧ va_D A (wm y b1 b2 b3 b4 b5 b6 b7 b8 b9 b10 cI cJ cZ 2 nD nR vs ac now o mt mw zs.length nv dl el r9 v9 m9)) A) (([.ref y, .int (nI d), .int mo, .long t] : List Value).toArray) s 0 0 A) (F0 m 117 ls []) := by
    intro H locs hP hD hS ls hl
    refine lv_aload_n hx hb dX1_assign_117 rfl (lv_at hl 0 rfl) ?_
    refine va_get (D := (dC, dI)) (ci := 1) (v := .long now) (C := RX1) (T := TX1) (N := 16) hx hb hall inX1 hown hK hP 0 rfl rfl 5 (by decide) (hall _ kw_328) (fun _ h9 => h9) rfl dX1_assign_118 ?_
    refine lv_aload_n hx hb dX1_assign_121 rfl (lv_at hl 0 rfl) ?_
    refine va_get (D := (dC, dI)) (ci := 1) (v := .ref b7) (C := RX1) (T := TX1) (N := 16) hx hb hall inX1 hown hK hP 0 rfl rfl 11 (by decide) (hall _ kw_334) (fun _ h9 => h9) rfl dX1_assign_122 ?_
    refine lv_iconst (v := 0) hx hb dX1_assign_125 (by decide) ?_
    refine tp_i (y := nI 0) nI_0.symm ?_
    refine xa_lald hx hb hK hP 7 1 rfl rfl (by omega) (by omega) dX1_assign_126 ?_
    refine lv_ladd hx hb dX1_assign_127 ?_
    refine lv_lstore (lv' := [(6, .long (now + (dl 0))), (0, .ref y), (1, .int (nI d)), (2, .int mo), (3, .long t)]) hx hb dX1_assign_128 hl (by decide) rfl (fun ls hl => ?_)
    refine lv_iconst (v := 0) hx hb dX1_assign_130 (by decide) ?_
    refine tp_i (y := nI 0) nI_0.symm ?_
    refine lv_istore (lv' := [(8, .int (nI 0)), (6, .long (now + (dl 0))), (0, .ref y), (1, .int (nI d)), (2, .int mo), (3, .long t)]) hx hb dX1_assign_131 hl (by decide) rfl (fun ls hl => ?_)
    refine lv_iconst (v := 0) hx hb dX1_assign_133 (by decide) ?_
    refine tp_i (y := nI 0) nI_0.symm ?_
    refine lv_istore (lv' := [(9, .int (nI 0)), (8, .int (nI 0)), (6, .long (now + (dl 0))), (0, .ref y), (1, .int (nI d)), (2, .int mo), (3, .long t)]) hx hb dX1_assign_134 hl (by decide) rfl (fun ls hl => ?_)
    refine lv_iconst (v := 0) hx hb dX1_assign_136 (by decide) ?_
    refine tp_i (y := nI 0) nI_0.symm ?_
    refine lv_istore (lv' := [(10, .int (nI 0)), (9, .int (nI 0)), (8, .int (nI 0)), (6, .long (now + (dl 0))), (0, .ref y), (1, .int (nI d)), (2, .int mo), (3, .long t)]) hx hb dX1_assign_137 hl (by decide) rfl (fun ls hl => ?_)
    have hloop4 : ∀ (rtc rvc : Nat → Int64) (mkc : Nat → Bool) (H : Heap) (locs : List Loc), wx (wmr (wro d (now + dl 0) lm mo zs ++ wel now dl nv el 0)) rtc rvc mkc → va_P (dC, dI) vwCl [(y, .inr (1, [.int (nI 0), .int (nI nD), .int (nI nR), .ref b1, .ref b2, .long now, .ref b3, .ref b4, .ref b5, .int (nI zs.length), .ref b6, .ref b7, .int (nI el), .ref b8, .ref b9, .ref b10])), (b1, .inl (cJ, 512, .inr (.inl vs))), (b2, .inl (cZ, 512, .inl (fun j => bI (ac j)))), (b3, .inl (cI, 8192, .inl (fun j => nI (o j)))), (b4, .inl (cJ, 8192, .inr (.inl mt))), (b5, .inl (cJ, 8192, .inr (.inl mw))), (b6, .inl (cJ, 16, .inr (.inl nv))), (b7, .inl (cJ, 16, .inr (.inl dl))), (b8, .inl (cJ, 8208, .inr (.inl rtc))), (b9, .inl (cJ, 8208, .inr (.inl rvc))), (b10, .inl (cZ, 8208, .inl (fun j => bI (mkc j))))] H → va_D A [(y, .inr (1, [.int (nI 0), .int (nI nD), .int (nI nR), .ref b1, .ref b2, .long now, .ref b3, .ref b4, .ref b5, .int (nI zs.length), .ref b6, .ref b7, .int (nI el), .ref b8, .ref b9, .ref b10])), (b1, .inl (cJ, 512, .inr (.inl vs))), (b2, .inl (cZ, 512, .inl (fun j => bI (ac j)))), (b3, .inl (cI, 8192, .inl (fun j => nI (o j)))), (b4, .inl (cJ, 8192, .inr (.inl mt))), (b5, .inl (cJ, 8192, .inr (.inl mw))), (b6, .inl (cJ, 16, .inr (.inl nv))), (b7, .inl (cJ, 16, .inr (.inl dl))), (b8, .inl (cJ, 8208, .inr (.inl rtc))), (b9, .inl (cJ, 8208, .inr (.inl rvc))), (b10, .inl (cZ, 8208, .inl (fun j => bI (mkc j))))] → va_S A s.heap H locs → ∀ (n k c0 : Nat) (ls : Array Slot), k + n = (wro d (now + dl 0) lm mo zs).length → c0 ≤ k → c0 + wcn mkc n k = wcn mkc (wro d (now + dl 0) lm mo zs).length 0 → lv_has ls 13 [(0, .ref y), (1, .int (nI d)), (8, .int (nI (wro d (now + dl 0) lm mo zs ++ wel now dl nv el 0).length)), (9, .int (nI (wc d zs))), (10, .int (nI (wro d (now + dl 0) lm mo zs).length)), (11, .int (nI c0)), (12, .int (nI k))] → W p l e (headSpec wsX1_assign ({ frames := 1, cells := 0, slots := 0, locals := 24 })).room s m (([.ref y, .int (nI d), .int mo, .long t] : List Value).toArray) below meth c H locs 0 0 (MQ below (va_Qi (fun (v : Int32) (_ : Unit) => True) (fun _ t9 => ∃ (r9 v9 : Nat → Int64) (m9 : Nat → Bool), va_P (dC, dI) vwCl (wm y b1 b2 b3 b4 b5 b6 b7 b8 b9 b10 cI cJ cZ 2 nD nR vs ac now o mt mw zs.length nv dl el r9 v9 m9) t9.heap ∧ va_K (dC, dI) vwCl [(cI, .int), (cJ, .long), (cZ, .boolean)] t9 ∧ va_D A (wm y b1 b2 b3 b4 b5 b6 b7 b8 b9 b10 cI cJ cZ 2 nD nR vs ac now o mt mw zs.length nv dl el r9 v9 m9)) A) (([.ref y, .int (nI d), .int mo, .long t] : List Value).toArray) s 0 0 A) (F0 m 400 ls []) := by
      intro rtc rvc mkc H locs hM hP hD hS n
      induction n with
      | zero =>
        intro k c0 ls hk hck hc hl
        obtain rfl : c0 = wst (wro d (now + dl 0) lm mo zs).length (wmr (wro d (now + dl 0) lm mo zs ++ wel now dl nv el 0)) := (show c0 = wcn mkc (wro d (now + dl 0) lm mo zs).length 0 from hc).trans ((wcn_st hM (wro d (now + dl 0) lm mo zs).length 0 (by rw [wmr_len]; omega)).trans (by rw [List.drop_zero]))
        have e9 : wot d zs ++ wmk d rtc rvc mkc (wro d (now + dl 0) lm mo zs ++ wel now dl nv el 0).length 0 = wot d zs ++ wml d (wmr (wro d (now + dl 0) lm mo zs ++ wel now dl nv el 0)) := by rw [show (wro d (now + dl 0) lm mo zs ++ wel now dl nv el 0).length = (wmr (wro d (now + dl 0) lm mo zs ++ wel now dl nv el 0)).length from (wmr_len _).symm, wmk_ml d hM (wmr (wro d (now + dl 0) lm mo zs ++ wel now dl nv el 0)) 0 List.drop_zero]
        refine lv_iload hx hb dX1_assign_400 (lv_at hl 6 rfl) ?_
        refine lv_iload hx hb dX1_assign_402 (lv_at hl 4 rfl) ?_
        refine xc_ge (tgt := 434) hx hb (by omega) (by omega) dX1_assign_404 (by decide) (fun c_1 => ?_) (fun c_1 => ?_)
        · refine lv_aload_n hx hb dX1_assign_434 rfl (lv_at hl 0 rfl) ?_
          refine va_get (D := (dC, dI)) (ci := 1) (v := .int (nI zs.length)) (C := RX1) (T := TX1) (N := 16) hx hb hall inX1 hown hK hP 0 rfl rfl 9 (by decide) (hall _ kw_332) (fun _ h9 => h9) rfl dX1_assign_435 ?_
          refine lv_iload hx hb dX1_assign_438 (lv_at hl 3 rfl) ?_
          refine lv_isub hx hb dX1_assign_440 ?_
          refine tp_i (y := nI (zs.length - wc d zs)) (pk_sub hwc) ?_
          refine lv_iload hx hb dX1_assign_441 (lv_at hl 5 rfl) ?_
          refine lv_iadd hx hb dX1_assign_443 ?_
          refine tp_i (y := nI (zs.length - wc d zs + wst (wro d (now + dl 0) lm mo zs).length (wmr (wro d (now + dl 0) lm mo zs ++ wel now dl nv el 0)))) (nI_add _ _) ?_
          refine lv_aload_n hx hb dX1_assign_444 rfl (lv_at hl 0 rfl) ?_
          refine va_get (D := (dC, dI)) (ci := 1) (v := .int (nI el)) (C := RX1) (T := TX1) (N := 16) hx hb hall inX1 hown hK hP 0 rfl rfl 12 (by decide) (hall _ kw_335) (fun _ h9 => h9) rfl dX1_assign_445 ?_
          refine lv_iadd hx hb dX1_assign_448 ?_
          refine tp_i (y := nI (zs.length - wc d zs + wst (wro d (now + dl 0) lm mo zs).length (wmr (wro d (now + dl 0) lm mo zs ++ wel now dl nv el 0)) + el)) (nI_add _ _) ?_
          refine lv_aload_n hx hb dX1_assign_449 rfl (lv_at hl 0 rfl) ?_
          refine va_get (D := (dC, dI)) (ci := 1) (v := .int (nI nR)) (C := RX1) (T := TX1) (N := 16) hx hb hall inX1 hown hK hP 0 rfl rfl 2 (by decide) (hall _ kw_325) (fun _ h9 => h9) rfl dX1_assign_450 ?_
          refine xc_le (tgt := 463) hx hb (by omega) (by omega) dX1_assign_453 (by decide) (fun c_2 => ?_) (fun c_2 => ?_)
          · exact absurd c_2 (by omega)
          · refine lv_aload_n hx hb dX1_assign_456 rfl (lv_at hl 0 rfl) ?_
            refine lv_iconst (v := 2) hx hb dX1_assign_457 (by decide) ?_
            refine tp_i (y := nI 2) (by decide) ?_
            refine va_put (D := (dC, dI)) (ci := 1) (v := .int (nI 2)) (ty := .int) (C := RX1) (T := TX1) (N := 16) hx hb hall inX1 tyX1 tyX1_ok nmX1 hown hK hP hD hS 0 rfl rfl 0 (by decide) (hall _ kw_323) (fun _ h9 => h9) rfl (by decide +kernel) rfl rfl (Nat.le_of_ble_eq_true rfl) dX1_assign_458 (fun H locs hP hD hS => ?_)
            have hP : va_P (dC, dI) vwCl [(y, .inr (1, [.int (nI 2), .int (nI nD), .int (nI nR), .ref b1, .ref b2, .long now, .ref b3, .ref b4, .ref b5, .int (nI zs.length), .ref b6, .ref b7, .int (nI el), .ref b8, .ref b9, .ref b10])), (b1, .inl (cJ, 512, .inr (.inl vs))), (b2, .inl (cZ, 512, .inl (fun j => bI (ac j)))), (b3, .inl (cI, 8192, .inl (fun j => nI (o j)))), (b4, .inl (cJ, 8192, .inr (.inl mt))), (b5, .inl (cJ, 8192, .inr (.inl mw))), (b6, .inl (cJ, 16, .inr (.inl nv))), (b7, .inl (cJ, 16, .inr (.inl dl))), (b8, .inl (cJ, 8208, .inr (.inl rtc))), (b9, .inl (cJ, 8208, .inr (.inl rvc))), (b10, .inl (cZ, 8208, .inl (fun j => bI (mkc j))))] H := hP
            have hD : va_D A [(y, .inr (1, [.int (nI 2), .int (nI nD), .int (nI nR), .ref b1, .ref b2, .long now, .ref b3, .ref b4, .ref b5, .int (nI zs.length), .ref b6, .ref b7, .int (nI el), .ref b8, .ref b9, .ref b10])), (b1, .inl (cJ, 512, .inr (.inl vs))), (b2, .inl (cZ, 512, .inl (fun j => bI (ac j)))), (b3, .inl (cI, 8192, .inl (fun j => nI (o j)))), (b4, .inl (cJ, 8192, .inr (.inl mt))), (b5, .inl (cJ, 8192, .inr (.inl mw))), (b6, .inl (cJ, 16, .inr (.inl nv))), (b7, .inl (cJ, 16, .inr (.inl dl))), (b8, .inl (cJ, 8208, .inr (.inl rtc))), (b9, .inl (cJ, 8208, .inr (.inl rvc))), (b10, .inl (cZ, 8208, .inl (fun j => bI (mkc j))))] := hD
            refine lv_iconst (v := 0) hx hb dX1_assign_461 (by decide) ?_
            exact W.iret (v := 0) hx hb hr (fun t9 ht hW => ⟨⟨0, (), rfl, trivial, rtc, rvc, mkc, by rw [ht]; exact hP, va_K.moved hW.alike hK, hD⟩, hS.F ht⟩) hS.2.2 dX1_assign_462
        · exact absurd c_1 (by omega)
      | succ n ih =>
        intro k c0 ls hk hck hc hl
        refine lv_iload hx hb dX1_assign_400 (lv_at hl 6 rfl) ?_
        refine lv_iload hx hb dX1_assign_402 (lv_at hl 4 rfl) ?_
        refine xc_ge (tgt := 434) hx hb (by omega) (by omega) dX1_assign_404 (by decide) (fun c_3 => ?_) (fun c_3 => ?_)
        · exact absurd c_3 (by omega)
        · refine lv_aload_n hx hb dX1_assign_407 rfl (lv_at hl 0 rfl) ?_
          refine va_get (D := (dC, dI)) (ci := 1) (v := .ref b10) (C := RX1) (T := TX1) (N := 16) hx hb hall inX1 hown hK hP 0 rfl rfl 15 (by decide) (hall _ kw_338) (fun _ h9 => h9) rfl dX1_assign_408 ?_
          refine lv_iload hx hb dX1_assign_411 (lv_at hl 6 rfl) ?_
          refine xa_zald hx hb hK hP 10 2 rfl rfl (by omega) (by omega) dX1_assign_413 ?_
          refine xb_eq (tgt := 424) hx hb dX1_assign_414 (by decide) (fun c_4 => ?_) (fun c_4 => ?_)
          · have c_A := c_4
            refine lv_iload hx hb dX1_assign_424 (lv_at hl 5 rfl) ?_
            refine lv_istore (lv' := [(11, .int (nI c0)), (0, .ref y), (1, .int (nI d)), (8, .int (nI (wro d (now + dl 0) lm mo zs ++ wel now dl nv el 0).length)), (9, .int (nI (wc d zs))), (10, .int (nI (wro d (now + dl 0) lm mo zs).length)), (12, .int (nI k))]) hx hb dX1_assign_426 hl (by decide) rfl (fun ls hl => ?_)
            refine lv_iinc (v := nI (k + 1)) (lv' := [(12, .int (nI (k + 1))), (11, .int (nI c0)), (0, .ref y), (1, .int (nI d)), (8, .int (nI (wro d (now + dl 0) lm mo zs ++ wel now dl nv el 0).length)), (9, .int (nI (wc d zs))), (10, .int (nI (wro d (now + dl 0) lm mo zs).length))]) hx hb dX1_assign_428 hl (k := 6) rfl (nI_1 k) (by decide) rfl (fun ls hl => ?_)
            refine lv_goto (tgt := 400) hx hb dX1_assign_431 (by decide) ?_
            exact ih (k + 1) (c0) ls (by omega) (by omega) (by rw [← hc]; show _ = _ + ((if mkc k = true then 1 else 0) + _); first | rw [if_pos c_A]; omega | rw [if_neg (by rw [c_A]; decide)]; omega) (lv_sub hl [2, 3, 4, 5, 6, 1, 0] rfl)
          · have c_A := c_4
            refine lv_iload hx hb dX1_assign_417 (lv_at hl 5 rfl) ?_
            refine lv_iconst (v := 1) hx hb dX1_assign_419 (by decide) ?_
            refine lv_iadd hx hb dX1_assign_420 ?_
            refine tp_i (y := nI (c0 + 1)) (nI_1 c0) ?_
            refine lv_goto (tgt := 426) hx hb dX1_assign_421 (by decide) ?_
            refine lv_istore (lv' := [(11, .int (nI (c0 + 1))), (0, .ref y), (1, .int (nI d)), (8, .int (nI (wro d (now + dl 0) lm mo zs ++ wel now dl nv el 0).length)), (9, .int (nI (wc d zs))), (10, .int (nI (wro d (now + dl 0) lm mo zs).length)), (12, .int (nI k))]) hx hb dX1_assign_426 hl (by decide) rfl (fun ls hl => ?_)
            refine lv_iinc (v := nI (k + 1)) (lv' := [(12, .int (nI (k + 1))), (11, .int (nI (c0 + 1))), (0, .ref y), (1, .int (nI d)), (8, .int (nI (wro d (now + dl 0) lm mo zs ++ wel now dl nv el 0).length)), (9, .int (nI (wc d zs))), (10, .int (nI (wro d (now + dl 0) lm mo zs).length))]) hx hb dX1_assign_428 hl (k := 6) rfl (nI_1 k) (by decide) rfl (fun ls hl => ?_)
            refine lv_goto (tgt := 400) hx hb dX1_assign_431 (by decide) ?_
            exact ih (k + 1) (c0 + 1) ls (by omega) (by omega) (by rw [← hc]; show _ = _ + ((if mkc k = true then 1 else 0) + _); first | rw [if_pos c_A]; omega | rw [if_neg (by rw [c_A]; decide)]; omega) (lv_sub hl [2, 3, 4, 5, 6, 1, 0] rfl)
    have hloop3 : ∀ (rtc rvc : Nat → Int64) (mk0 : Nat → Bool), wx (wro d (now + dl 0) lm mo zs ++ wel now dl nv el 0) rtc rvc mk0 → ∀ (n : Nat) (mkc : Nat → Bool) (H : Heap) (locs : List Loc) (ls : Array Slot), n ≤ (wro d (now + dl 0) lm mo zs).length → wbm (wro d (now + dl 0) lm mo zs ++ wel now dl nv el 0) n mkc → va_P (dC, dI) vwCl [(y, .inr (1, [.int (nI 0), .int (nI nD), .int (nI nR), .ref b1, .ref b2, .long now, .ref b3, .ref b4, .ref b5, .int (nI zs.length), .ref b6, .ref b7, .int (nI el), .ref b8, .ref b9, .ref b10])), (b1, .inl (cJ, 512, .inr (.inl vs))), (b2, .inl (cZ, 512, .inl (fun j => bI (ac j)))), (b3, .inl (cI, 8192, .inl (fun j => nI (o j)))), (b4, .inl (cJ, 8192, .inr (.inl mt))), (b5, .inl (cJ, 8192, .inr (.inl mw))), (b6, .inl (cJ, 16, .inr (.inl nv))), (b7, .inl (cJ, 16, .inr (.inl dl))), (b8, .inl (cJ, 8208, .inr (.inl rtc))), (b9, .inl (cJ, 8208, .inr (.inl rvc))), (b10, .inl (cZ, 8208, .inl (fun j => bI (mkc j))))] H → va_D A [(y, .inr (1, [.int (nI 0), .int (nI nD), .int (nI nR), .ref b1, .ref b2, .long now, .ref b3, .ref b4, .ref b5, .int (nI zs.length), .ref b6, .ref b7, .int (nI el), .ref b8, .ref b9, .ref b10])), (b1, .inl (cJ, 512, .inr (.inl vs))), (b2, .inl (cZ, 512, .inl (fun j => bI (ac j)))), (b3, .inl (cI, 8192, .inl (fun j => nI (o j)))), (b4, .inl (cJ, 8192, .inr (.inl mt))), (b5, .inl (cJ, 8192, .inr (.inl mw))), (b6, .inl (cJ, 16, .inr (.inl nv))), (b7, .inl (cJ, 16, .inr (.inl dl))), (b8, .inl (cJ, 8208, .inr (.inl rtc))), (b9, .inl (cJ, 8208, .inr (.inl rvc))), (b10, .inl (cZ, 8208, .inl (fun j => bI (mkc j))))] → va_S A s.heap H locs → lv_has ls 13 [(0, .ref y), (1, .int (nI d)), (8, .int (nI (wro d (now + dl 0) lm mo zs ++ wel now dl nv el 0).length)), (9, .int (nI (wc d zs))), (10, .int (nI (wro d (now + dl 0) lm mo zs).length)), (11, .int (nI n - 1))] → W p l e (headSpec wsX1_assign ({ frames := 1, cells := 0, slots := 0, locals := 24 })).room s m (([.ref y, .int (nI d), .int mo, .long t] : List Value).toArray) below meth c H locs 0 0 (MQ below (va_Qi (fun (v : Int32) (_ : Unit) => True) (fun _ t9 => ∃ (r9 v9 : Nat → Int64) (m9 : Nat → Bool), va_P (dC, dI) vwCl (wm y b1 b2 b3 b4 b5 b6 b7 b8 b9 b10 cI cJ cZ 2 nD nR vs ac now o mt mw zs.length nv dl el r9 v9 m9) t9.heap ∧ va_K (dC, dI) vwCl [(cI, .int), (cJ, .long), (cZ, .boolean)] t9 ∧ va_D A (wm y b1 b2 b3 b4 b5 b6 b7 b8 b9 b10 cI cJ cZ 2 nD nR vs ac now o mt mw zs.length nv dl el r9 v9 m9)) A) (([.ref y, .int (nI d), .int mo, .long t] : List Value).toArray) s 0 0 A) (F0 m 329 ls []) := by
      intro rtc rvc mk0 hE n
      induction n with
      | zero =>
        intro mkc H locs ls hn hbm hP hD hS hl
        refine lv_iload hx hb dX1_assign_329 (lv_at hl 5 rfl) ?_
        refine lv_if_lt (tgt := 394) hx hb dX1_assign_331 (by decide) (fun c_5 => ?_) (fun c_5 => ?_)
        · refine lv_iconst (v := 0) hx hb dX1_assign_394 (by decide) ?_
          refine tp_i (y := nI 0) nI_0.symm ?_
          refine lv_istore (lv' := [(11, .int (nI 0)), (0, .ref y), (1, .int (nI d)), (8, .int (nI (wro d (now + dl 0) lm mo zs ++ wel now dl nv el 0).length)), (9, .int (nI (wc d zs))), (10, .int (nI (wro d (now + dl 0) lm mo zs).length))]) hx hb dX1_assign_395 hl (by decide) rfl (fun ls hl => ?_)
          refine lv_iconst (v := 0) hx hb dX1_assign_397 (by decide) ?_
          refine tp_i (y := nI 0) nI_0.symm ?_
          refine lv_istore (lv' := [(12, .int (nI 0)), (11, .int (nI 0)), (0, .ref y), (1, .int (nI d)), (8, .int (nI (wro d (now + dl 0) lm mo zs ++ wel now dl nv el 0).length)), (9, .int (nI (wc d zs))), (10, .int (nI (wro d (now + dl 0) lm mo zs).length))]) hx hb dX1_assign_398 hl (by decide) rfl (fun ls hl => ?_)
          exact hloop4 rtc rvc mkc H locs (wbm_end hE hbm) hP hD hS (wro d (now + dl 0) lm mo zs).length 0 0 ls (by omega) (by omega) (by omega) (lv_sub hl [2, 3, 4, 5, 6, 1, 0] rfl)
        · exact absurd (by decide) c_5
      | succ n ih =>
        intro mkc H locs ls hn hbm hP hD hS hl
        have hl : lv_has ls 13 [(0, .ref y), (1, .int (nI d)), (8, .int (nI (wro d (now + dl 0) lm mo zs ++ wel now dl nv el 0).length)), (9, .int (nI (wc d zs))), (10, .int (nI (wro d (now + dl 0) lm mo zs).length)), (11, .int (nI n))] := by rw [show nI n = nI (n + 1) - 1 from (nI_pred n).symm]; exact hl
        refine lv_iload hx hb dX1_assign_329 (lv_at hl 5 rfl) ?_
        refine lv_if_lt (tgt := 394) hx hb dX1_assign_331 (by decide) (fun c_6 => ?_) (fun c_6 => ?_)
        · exact absurd c_6 (nI_pos (by omega))
        · refine lv_aload_n hx hb dX1_assign_334 rfl (lv_at hl 0 rfl) ?_
          refine va_get (D := (dC, dI)) (ci := 1) (v := .ref b10) (C := RX1) (T := TX1) (N := 16) hx hb hall inX1 hown hK hP 0 rfl rfl 15 (by decide) (hall _ kw_338) (fun _ h9 => h9) rfl dX1_assign_335 ?_
          refine lv_iload hx hb dX1_assign_338 (lv_at hl 5 rfl) ?_
          refine lv_aload_n hx hb dX1_assign_340 rfl (lv_at hl 0 rfl) ?_
          refine va_get (D := (dC, dI)) (ci := 1) (v := .ref b10) (C := RX1) (T := TX1) (N := 16) hx hb hall inX1 hown hK hP 0 rfl rfl 15 (by decide) (hall _ kw_338) (fun _ h9 => h9) rfl dX1_assign_341 ?_
          refine lv_iload hx hb dX1_assign_344 (lv_at hl 5 rfl) ?_
          refine xa_zald hx hb hK hP 10 2 rfl rfl (by omega) (by omega) dX1_assign_346 ?_
          refine xb_ne (tgt := 382) hx hb dX1_assign_347 (by decide) (fun c_7 => ?_) (fun c_7 => ?_)
          · have c_P := c_7
            refine lv_iconst (v := 1) hx hb dX1_assign_382 (by decide) ?_
            refine tp_i (y := bI (mkc n || (mkc (n + 1) && decide (rvc (n + 1) = rvc n)))) (by first | (rw [c_P]; rfl) | (rw [c_P, c_S, decide_eq_true c_V]; rfl)) ?_
            refine lv_goto (tgt := 387) hx hb dX1_assign_383 (by decide) ?_
            refine xa_zast hx hb hK hP hD hS 10 2 rfl rfl (by omega) (by omega) dX1_assign_387 (fun H locs hP hD hS => ?_)
            have hP : va_P (dC, dI) vwCl [(y, .inr (1, [.int (nI 0), .int (nI nD), .int (nI nR), .ref b1, .ref b2, .long now, .ref b3, .ref b4, .ref b5, .int (nI zs.length), .ref b6, .ref b7, .int (nI el), .ref b8, .ref b9, .ref b10])), (b1, .inl (cJ, 512, .inr (.inl vs))), (b2, .inl (cZ, 512, .inl (fun j => bI (ac j)))), (b3, .inl (cI, 8192, .inl (fun j => nI (o j)))), (b4, .inl (cJ, 8192, .inr (.inl mt))), (b5, .inl (cJ, 8192, .inr (.inl mw))), (b6, .inl (cJ, 16, .inr (.inl nv))), (b7, .inl (cJ, 16, .inr (.inl dl))), (b8, .inl (cJ, 8208, .inr (.inl rtc))), (b9, .inl (cJ, 8208, .inr (.inl rvc))), (b10, .inl (cZ, 8208, .inl (fun j => bI (ub mkc n (mkc n || (mkc (n + 1) && decide (rvc (n + 1) = rvc n))) j))))] H := hP
            have hD : va_D A [(y, .inr (1, [.int (nI 0), .int (nI nD), .int (nI nR), .ref b1, .ref b2, .long now, .ref b3, .ref b4, .ref b5, .int (nI zs.length), .ref b6, .ref b7, .int (nI el), .ref b8, .ref b9, .ref b10])), (b1, .inl (cJ, 512, .inr (.inl vs))), (b2, .inl (cZ, 512, .inl (fun j => bI (ac j)))), (b3, .inl (cI, 8192, .inl (fun j => nI (o j)))), (b4, .inl (cJ, 8192, .inr (.inl mt))), (b5, .inl (cJ, 8192, .inr (.inl mw))), (b6, .inl (cJ, 16, .inr (.inl nv))), (b7, .inl (cJ, 16, .inr (.inl dl))), (b8, .inl (cJ, 8208, .inr (.inl rtc))), (b9, .inl (cJ, 8208, .inr (.inl rvc))), (b10, .inl (cZ, 8208, .inl (fun j => bI (ub mkc n (mkc n || (mkc (n + 1) && decide (rvc (n + 1) = rvc n))) j))))] := hD
            refine lv_iinc (v := nI n - 1) (lv' := [(11, .int (nI n - 1)), (0, .ref y), (1, .int (nI d)), (8, .int (nI (wro d (now + dl 0) lm mo zs ++ wel now dl nv el 0).length)), (9, .int (nI (wc d zs))), (10, .int (nI (wro d (now + dl 0) lm mo zs).length))]) hx hb dX1_assign_388 hl (k := 5) rfl (by rw [Int32.sub_eq_add_neg]; rfl) (by decide) rfl (fun ls hl => ?_)
            refine lv_goto (tgt := 329) hx hb dX1_assign_391 (by decide) ?_
            exact ih (ub mkc n (mkc n || (mkc (n + 1) && decide (rvc (n + 1) = rvc n)))) H locs ls (by omega) (wbm_step hE hbm (by omega) rfl) hP hD hS (lv_sub hl [1, 2, 3, 4, 5, 0] rfl)
          · have c_P := c_7
            refine lv_aload_n hx hb dX1_assign_350 rfl (lv_at hl 0 rfl) ?_
            refine va_get (D := (dC, dI)) (ci := 1) (v := .ref b10) (C := RX1) (T := TX1) (N := 16) hx hb hall inX1 hown hK hP 0 rfl rfl 15 (by decide) (hall _ kw_338) (fun _ h9 => h9) rfl dX1_assign_351 ?_
            refine lv_iload hx hb dX1_assign_354 (lv_at hl 5 rfl) ?_
            refine lv_iconst (v := 1) hx hb dX1_assign_356 (by decide) ?_
            refine lv_iadd hx hb dX1_assign_357 ?_
            refine tp_i (y := nI (n + 1)) (nI_1 n) ?_
            refine xa_zald hx hb hK hP 10 2 rfl rfl (by omega) (by omega) dX1_assign_358 ?_
            refine xb_eq (tgt := 386) hx hb dX1_assign_359 (by decide) (fun c_8 => ?_) (fun c_8 => ?_)
            · have c_S := c_8
              refine lv_iconst (v := 0) hx hb dX1_assign_386 (by decide) ?_
              refine tp_i (y := bI (mkc n || (mkc (n + 1) && decide (rvc (n + 1) = rvc n)))) (by first | (rw [c_P, c_S, decide_eq_false c_V]; rfl) | (rw [c_P, c_S]; rfl)) ?_
              refine xa_zast hx hb hK hP hD hS 10 2 rfl rfl (by omega) (by omega) dX1_assign_387 (fun H locs hP hD hS => ?_)
              have hP : va_P (dC, dI) vwCl [(y, .inr (1, [.int (nI 0), .int (nI nD), .int (nI nR), .ref b1, .ref b2, .long now, .ref b3, .ref b4, .ref b5, .int (nI zs.length), .ref b6, .ref b7, .int (nI el), .ref b8, .ref b9, .ref b10])), (b1, .inl (cJ, 512, .inr (.inl vs))), (b2, .inl (cZ, 512, .inl (fun j => bI (ac j)))), (b3, .inl (cI, 8192, .inl (fun j => nI (o j)))), (b4, .inl (cJ, 8192, .inr (.inl mt))), (b5, .inl (cJ, 8192, .inr (.inl mw))), (b6, .inl (cJ, 16, .inr (.inl nv))), (b7, .inl (cJ, 16, .inr (.inl dl))), (b8, .inl (cJ, 8208, .inr (.inl rtc))), (b9, .inl (cJ, 8208, .inr (.inl rvc))), (b10, .inl (cZ, 8208, .inl (fun j => bI (ub mkc n (mkc n || (mkc (n + 1) && decide (rvc (n + 1) = rvc n))) j))))] H := hP
              have hD : va_D A [(y, .inr (1, [.int (nI 0), .int (nI nD), .int (nI nR), .ref b1, .ref b2, .long now, .ref b3, .ref b4, .ref b5, .int (nI zs.length), .ref b6, .ref b7, .int (nI el), .ref b8, .ref b9, .ref b10])), (b1, .inl (cJ, 512, .inr (.inl vs))), (b2, .inl (cZ, 512, .inl (fun j => bI (ac j)))), (b3, .inl (cI, 8192, .inl (fun j => nI (o j)))), (b4, .inl (cJ, 8192, .inr (.inl mt))), (b5, .inl (cJ, 8192, .inr (.inl mw))), (b6, .inl (cJ, 16, .inr (.inl nv))), (b7, .inl (cJ, 16, .inr (.inl dl))), (b8, .inl (cJ, 8208, .inr (.inl rtc))), (b9, .inl (cJ, 8208, .inr (.inl rvc))), (b10, .inl (cZ, 8208, .inl (fun j => bI (ub mkc n (mkc n || (mkc (n + 1) && decide (rvc (n + 1) = rvc n))) j))))] := hD
              refine lv_iinc (v := nI n - 1) (lv' := [(11, .int (nI n - 1)), (0, .ref y), (1, .int (nI d)), (8, .int (nI (wro d (now + dl 0) lm mo zs ++ wel now dl nv el 0).length)), (9, .int (nI (wc d zs))), (10, .int (nI (wro d (now + dl 0) lm mo zs).length))]) hx hb dX1_assign_388 hl (k := 5) rfl (by rw [Int32.sub_eq_add_neg]; rfl) (by decide) rfl (fun ls hl => ?_)
              refine lv_goto (tgt := 329) hx hb dX1_assign_391 (by decide) ?_
              exact ih (ub mkc n (mkc n || (mkc (n + 1) && decide (rvc (n + 1) = rvc n)))) H locs ls (by omega) (wbm_step hE hbm (by omega) rfl) hP hD hS (lv_sub hl [1, 2, 3, 4, 5, 0] rfl)
            · have c_S := c_8
              refine lv_aload_n hx hb dX1_assign_362 rfl (lv_at hl 0 rfl) ?_
              refine va_get (D := (dC, dI)) (ci := 1) (v := .ref b9) (C := RX1) (T := TX1) (N := 16) hx hb hall inX1 hown hK hP 0 rfl rfl 14 (by decide) (hall _ kw_337) (fun _ h9 => h9) rfl dX1_assign_363 ?_
              refine lv_iload hx hb dX1_assign_366 (lv_at hl 5 rfl) ?_
              refine lv_iconst (v := 1) hx hb dX1_assign_368 (by decide) ?_
              refine lv_iadd hx hb dX1_assign_369 ?_
              refine tp_i (y := nI (n + 1)) (nI_1 n) ?_
              refine xa_lald hx hb hK hP 9 1 rfl rfl (by omega) (by omega) dX1_assign_370 ?_
              refine lv_aload_n hx hb dX1_assign_371 rfl (lv_at hl 0 rfl) ?_
              refine va_get (D := (dC, dI)) (ci := 1) (v := .ref b9) (C := RX1) (T := TX1) (N := 16) hx hb hall inX1 hown hK hP 0 rfl rfl 14 (by decide) (hall _ kw_337) (fun _ h9 => h9) rfl dX1_assign_372 ?_
              refine lv_iload hx hb dX1_assign_375 (lv_at hl 5 rfl) ?_
              refine xa_lald hx hb hK hP 9 1 rfl rfl (by omega) (by omega) dX1_assign_377 ?_
              refine xl_ne (tgt := 386) hx hb dX1_assign_378 dX1_assign_379 (by decide) (fun c_9 => ?_) (fun c_9 => ?_)
              · have c_V := c_9
                refine lv_iconst (v := 0) hx hb dX1_assign_386 (by decide) ?_
                refine tp_i (y := bI (mkc n || (mkc (n + 1) && decide (rvc (n + 1) = rvc n)))) (by first | (rw [c_P, c_S, decide_eq_false c_V]; rfl) | (rw [c_P, c_S]; rfl)) ?_
                refine xa_zast hx hb hK hP hD hS 10 2 rfl rfl (by omega) (by omega) dX1_assign_387 (fun H locs hP hD hS => ?_)
                have hP : va_P (dC, dI) vwCl [(y, .inr (1, [.int (nI 0), .int (nI nD), .int (nI nR), .ref b1, .ref b2, .long now, .ref b3, .ref b4, .ref b5, .int (nI zs.length), .ref b6, .ref b7, .int (nI el), .ref b8, .ref b9, .ref b10])), (b1, .inl (cJ, 512, .inr (.inl vs))), (b2, .inl (cZ, 512, .inl (fun j => bI (ac j)))), (b3, .inl (cI, 8192, .inl (fun j => nI (o j)))), (b4, .inl (cJ, 8192, .inr (.inl mt))), (b5, .inl (cJ, 8192, .inr (.inl mw))), (b6, .inl (cJ, 16, .inr (.inl nv))), (b7, .inl (cJ, 16, .inr (.inl dl))), (b8, .inl (cJ, 8208, .inr (.inl rtc))), (b9, .inl (cJ, 8208, .inr (.inl rvc))), (b10, .inl (cZ, 8208, .inl (fun j => bI (ub mkc n (mkc n || (mkc (n + 1) && decide (rvc (n + 1) = rvc n))) j))))] H := hP
                have hD : va_D A [(y, .inr (1, [.int (nI 0), .int (nI nD), .int (nI nR), .ref b1, .ref b2, .long now, .ref b3, .ref b4, .ref b5, .int (nI zs.length), .ref b6, .ref b7, .int (nI el), .ref b8, .ref b9, .ref b10])), (b1, .inl (cJ, 512, .inr (.inl vs))), (b2, .inl (cZ, 512, .inl (fun j => bI (ac j)))), (b3, .inl (cI, 8192, .inl (fun j => nI (o j)))), (b4, .inl (cJ, 8192, .inr (.inl mt))), (b5, .inl (cJ, 8192, .inr (.inl mw))), (b6, .inl (cJ, 16, .inr (.inl nv))), (b7, .inl (cJ, 16, .inr (.inl dl))), (b8, .inl (cJ, 8208, .inr (.inl rtc))), (b9, .inl (cJ, 8208, .inr (.inl rvc))), (b10, .inl (cZ, 8208, .inl (fun j => bI (ub mkc n (mkc n || (mkc (n + 1) && decide (rvc (n + 1) = rvc n))) j))))] := hD
                refine lv_iinc (v := nI n - 1) (lv' := [(11, .int (nI n - 1)), (0, .ref y), (1, .int (nI d)), (8, .int (nI (wro d (now + dl 0) lm mo zs ++ wel now dl nv el 0).length)), (9, .int (nI (wc d zs))), (10, .int (nI (wro d (now + dl 0) lm mo zs).length))]) hx hb dX1_assign_388 hl (k := 5) rfl (by rw [Int32.sub_eq_add_neg]; rfl) (by decide) rfl (fun ls hl => ?_)
                refine lv_goto (tgt := 329) hx hb dX1_assign_391 (by decide) ?_
                exact ih (ub mkc n (mkc n || (mkc (n + 1) && decide (rvc (n + 1) = rvc n)))) H locs ls (by omega) (wbm_step hE hbm (by omega) rfl) hP hD hS (lv_sub hl [1, 2, 3, 4, 5, 0] rfl)
              · have c_V := c_9
                refine lv_iconst (v := 1) hx hb dX1_assign_382 (by decide) ?_
                refine tp_i (y := bI (mkc n || (mkc (n + 1) && decide (rvc (n + 1) = rvc n)))) (by first | (rw [c_P]; rfl) | (rw [c_P, c_S, decide_eq_true c_V]; rfl)) ?_
                refine lv_goto (tgt := 387) hx hb dX1_assign_383 (by decide) ?_
                refine xa_zast hx hb hK hP hD hS 10 2 rfl rfl (by omega) (by omega) dX1_assign_387 (fun H locs hP hD hS => ?_)
                have hP : va_P (dC, dI) vwCl [(y, .inr (1, [.int (nI 0), .int (nI nD), .int (nI nR), .ref b1, .ref b2, .long now, .ref b3, .ref b4, .ref b5, .int (nI zs.length), .ref b6, .ref b7, .int (nI el), .ref b8, .ref b9, .ref b10])), (b1, .inl (cJ, 512, .inr (.inl vs))), (b2, .inl (cZ, 512, .inl (fun j => bI (ac j)))), (b3, .inl (cI, 8192, .inl (fun j => nI (o j)))), (b4, .inl (cJ, 8192, .inr (.inl mt))), (b5, .inl (cJ, 8192, .inr (.inl mw))), (b6, .inl (cJ, 16, .inr (.inl nv))), (b7, .inl (cJ, 16, .inr (.inl dl))), (b8, .inl (cJ, 8208, .inr (.inl rtc))), (b9, .inl (cJ, 8208, .inr (.inl rvc))), (b10, .inl (cZ, 8208, .inl (fun j => bI (ub mkc n (mkc n || (mkc (n + 1) && decide (rvc (n + 1) = rvc n))) j))))] H := hP
                have hD : va_D A [(y, .inr (1, [.int (nI 0), .int (nI nD), .int (nI nR), .ref b1, .ref b2, .long now, .ref b3, .ref b4, .ref b5, .int (nI zs.length), .ref b6, .ref b7, .int (nI el), .ref b8, .ref b9, .ref b10])), (b1, .inl (cJ, 512, .inr (.inl vs))), (b2, .inl (cZ, 512, .inl (fun j => bI (ac j)))), (b3, .inl (cI, 8192, .inl (fun j => nI (o j)))), (b4, .inl (cJ, 8192, .inr (.inl mt))), (b5, .inl (cJ, 8192, .inr (.inl mw))), (b6, .inl (cJ, 16, .inr (.inl nv))), (b7, .inl (cJ, 16, .inr (.inl dl))), (b8, .inl (cJ, 8208, .inr (.inl rtc))), (b9, .inl (cJ, 8208, .inr (.inl rvc))), (b10, .inl (cZ, 8208, .inl (fun j => bI (ub mkc n (mkc n || (mkc (n + 1) && decide (rvc (n + 1) = rvc n))) j))))] := hD
                refine lv_iinc (v := nI n - 1) (lv' := [(11, .int (nI n - 1)), (0, .ref y), (1, .int (nI d)), (8, .int (nI (wro d (now + dl 0) lm mo zs ++ wel now dl nv el 0).length)), (9, .int (nI (wc d zs))), (10, .int (nI (wro d (now + dl 0) lm mo zs).length))]) hx hb dX1_assign_388 hl (k := 5) rfl (by rw [Int32.sub_eq_add_neg]; rfl) (by decide) rfl (fun ls hl => ?_)
                refine lv_goto (tgt := 329) hx hb dX1_assign_391 (by decide) ?_
                exact ih (ub mkc n (mkc n || (mkc (n + 1) && decide (rvc (n + 1) = rvc n)))) H locs ls (by omega) (wbm_step hE hbm (by omega) rfl) hP hD hS (lv_sub hl [1, 2, 3, 4, 5, 0] rfl)
    have hloop2 : ∀ (n k : Nat) (G : List XT) (rtc rvc : Nat → Int64) (mkc : Nat → Bool) (H : Heap) (locs : List Loc) (ls : Array Slot), k + n = el → wx G rtc rvc mkc → G ++ wel now dl nv n k = (wro d (now + dl 0) lm mo zs ++ wel now dl nv el 0) → va_P (dC, dI) vwCl [(y, .inr (1, [.int (nI 0), .int (nI nD), .int (nI nR), .ref b1, .ref b2, .long now, .ref b3, .ref b4, .ref b5, .int (nI zs.length), .ref b6, .ref b7, .int (nI el), .ref b8, .ref b9, .ref b10])), (b1, .inl (cJ, 512, .inr (.inl vs))), (b2, .inl (cZ, 512, .inl (fun j => bI (ac j)))), (b3, .inl (cI, 8192, .inl (fun j => nI (o j)))), (b4, .inl (cJ, 8192, .inr (.inl mt))), (b5, .inl (cJ, 8192, .inr (.inl mw))), (b6, .inl (cJ, 16, .inr (.inl nv))), (b7, .inl (cJ, 16, .inr (.inl dl))), (b8, .inl (cJ, 8208, .inr (.inl rtc))), (b9, .inl (cJ, 8208, .inr (.inl rvc))), (b10, .inl (cZ, 8208, .inl (fun j => bI (mkc j))))] H → va_D A [(y, .inr (1, [.int (nI 0), .int (nI nD), .int (nI nR), .ref b1, .ref b2, .long now, .ref b3, .ref b4, .ref b5, .int (nI zs.length), .ref b6, .ref b7, .int (nI el), .ref b8, .ref b9, .ref b10])), (b1, .inl (cJ, 512, .inr (.inl vs))), (b2, .inl (cZ, 512, .inl (fun j => bI (ac j)))), (b3, .inl (cI, 8192, .inl (fun j => nI (o j)))), (b4, .inl (cJ, 8192, .inr (.inl mt))), (b5, .inl (cJ, 8192, .inr (.inl mw))), (b6, .inl (cJ, 16, .inr (.inl nv))), (b7, .inl (cJ, 16, .inr (.inl dl))), (b8, .inl (cJ, 8208, .inr (.inl rtc))), (b9, .inl (cJ, 8208, .inr (.inl rvc))), (b10, .inl (cZ, 8208, .inl (fun j => bI (mkc j))))] → va_S A s.heap H locs → lv_has ls 13 [(0, .ref y), (1, .int (nI d)), (8, .int (nI G.length)), (9, .int (nI (wc d zs))), (10, .int (nI (wro d (now + dl 0) lm mo zs).length)), (11, .int (nI k))] → W p l e (headSpec wsX1_assign ({ frames := 1, cells := 0, slots := 0, locals := 24 })).room s m (([.ref y, .int (nI d), .int mo, .long t] : List Value).toArray) below meth c H locs 0 0 (MQ below (va_Qi (fun (v : Int32) (_ : Unit) => True) (fun _ t9 => ∃ (r9 v9 : Nat → Int64) (m9 : Nat → Bool), va_P (dC, dI) vwCl (wm y b1 b2 b3 b4 b5 b6 b7 b8 b9 b10 cI cJ cZ 2 nD nR vs ac now o mt mw zs.length nv dl el r9 v9 m9) t9.heap ∧ va_K (dC, dI) vwCl [(cI, .int), (cJ, .long), (cZ, .boolean)] t9 ∧ va_D A (wm y b1 b2 b3 b4 b5 b6 b7 b8 b9 b10 cI cJ cZ 2 nD nR vs ac now o mt mw zs.length nv dl el r9 v9 m9)) A) (([.ref y, .int (nI d), .int mo, .long t] : List Value).toArray) s 0 0 A) (F0 m 264 ls []) := by
      intro n
      induction n with
      | zero =>
        intro k G rtc rvc mkc H locs ls hk hG hGe hP hD hS hl
        obtain rfl : G = (wro d (now + dl 0) lm mo zs ++ wel now dl nv el 0) := (List.append_nil G).symm.trans hGe
        refine lv_iload hx hb dX1_assign_264 (lv_at hl 5 rfl) ?_
        refine lv_aload_n hx hb dX1_assign_266 rfl (lv_at hl 0 rfl) ?_
        refine va_get (D := (dC, dI)) (ci := 1) (v := .int (nI el)) (C := RX1) (T := TX1) (N := 16) hx hb hall inX1 hown hK hP 0 rfl rfl 12 (by decide) (hall _ kw_335) (fun _ h9 => h9) rfl dX1_assign_267 ?_
        refine xc_ge (tgt := 323) hx hb (by omega) (by omega) dX1_assign_270 (by decide) (fun c_10 => ?_) (fun c_10 => ?_)
        · refine lv_iload hx hb dX1_assign_323 (lv_at hl 4 rfl) ?_
          refine lv_iconst (v := 1) hx hb dX1_assign_325 (by decide) ?_
          refine lv_isub hx hb dX1_assign_326 ?_
          refine lv_istore (lv' := [(11, .int ((nI (wro d (now + dl 0) lm mo zs).length) - 1)), (0, .ref y), (1, .int (nI d)), (8, .int (nI (wro d (now + dl 0) lm mo zs ++ wel now dl nv el 0).length)), (9, .int (nI (wc d zs))), (10, .int (nI (wro d (now + dl 0) lm mo zs).length))]) hx hb dX1_assign_327 hl (by decide) rfl (fun ls hl => ?_)
          exact hloop3 rtc rvc mkc hG (wro d (now + dl 0) lm mo zs).length mkc H locs ls (Nat.le_refl _) (wbm_init hG wE_mark) hP hD hS (lv_sub hl [1, 2, 3, 4, 5, 0] rfl)
        · exact absurd c_10 (by omega)
      | succ n ih =>
        intro k G rtc rvc mkc H locs ls hk hG hGe hP hD hS hl
        have hGl : G.length < 8208 := by have := congrArg List.length hGe; rw [List.length_append, wel_len] at this; omega
        refine lv_iload hx hb dX1_assign_264 (lv_at hl 5 rfl) ?_
        refine lv_aload_n hx hb dX1_assign_266 rfl (lv_at hl 0 rfl) ?_
        refine va_get (D := (dC, dI)) (ci := 1) (v := .int (nI el)) (C := RX1) (T := TX1) (N := 16) hx hb hall inX1 hown hK hP 0 rfl rfl 12 (by decide) (hall _ kw_335) (fun _ h9 => h9) rfl dX1_assign_267 ?_
        refine xc_ge (tgt := 323) hx hb (by omega) (by omega) dX1_assign_270 (by decide) (fun c_11 => ?_) (fun c_11 => ?_)
        · exact absurd c_11 (by omega)
        · refine lv_aload_n hx hb dX1_assign_273 rfl (lv_at hl 0 rfl) ?_
          refine va_get (D := (dC, dI)) (ci := 1) (v := .ref b8) (C := RX1) (T := TX1) (N := 16) hx hb hall inX1 hown hK hP 0 rfl rfl 13 (by decide) (hall _ kw_336) (fun _ h9 => h9) rfl dX1_assign_274 ?_
          refine lv_iload hx hb dX1_assign_277 (lv_at hl 2 rfl) ?_
          refine lv_aload_n hx hb dX1_assign_279 rfl (lv_at hl 0 rfl) ?_
          refine va_get (D := (dC, dI)) (ci := 1) (v := .long now) (C := RX1) (T := TX1) (N := 16) hx hb hall inX1 hown hK hP 0 rfl rfl 5 (by decide) (hall _ kw_328) (fun _ h9 => h9) rfl dX1_assign_280 ?_
          refine lv_aload_n hx hb dX1_assign_283 rfl (lv_at hl 0 rfl) ?_
          refine va_get (D := (dC, dI)) (ci := 1) (v := .ref b7) (C := RX1) (T := TX1) (N := 16) hx hb hall inX1 hown hK hP 0 rfl rfl 11 (by decide) (hall _ kw_334) (fun _ h9 => h9) rfl dX1_assign_284 ?_
          refine lv_iload hx hb dX1_assign_287 (lv_at hl 5 rfl) ?_
          refine xa_lald hx hb hK hP 7 1 rfl rfl (by omega) (by omega) dX1_assign_289 ?_
          refine lv_ladd hx hb dX1_assign_290 ?_
          refine xa_last hx hb hK hP hD hS 8 1 rfl rfl (by omega) (by omega) dX1_assign_291 (fun H locs hP hD hS => ?_)
          have hP : va_P (dC, dI) vwCl [(y, .inr (1, [.int (nI 0), .int (nI nD), .int (nI nR), .ref b1, .ref b2, .long now, .ref b3, .ref b4, .ref b5, .int (nI zs.length), .ref b6, .ref b7, .int (nI el), .ref b8, .ref b9, .ref b10])), (b1, .inl (cJ, 512, .inr (.inl vs))), (b2, .inl (cZ, 512, .inl (fun j => bI (ac j)))), (b3, .inl (cI, 8192, .inl (fun j => nI (o j)))), (b4, .inl (cJ, 8192, .inr (.inl mt))), (b5, .inl (cJ, 8192, .inr (.inl mw))), (b6, .inl (cJ, 16, .inr (.inl nv))), (b7, .inl (cJ, 16, .inr (.inl dl))), (b8, .inl (cJ, 8208, .inr (.inl (vp_updL rtc G.length (now + (dl k)))))), (b9, .inl (cJ, 8208, .inr (.inl rvc))), (b10, .inl (cZ, 8208, .inl (fun j => bI (mkc j))))] H := hP
          have hD : va_D A [(y, .inr (1, [.int (nI 0), .int (nI nD), .int (nI nR), .ref b1, .ref b2, .long now, .ref b3, .ref b4, .ref b5, .int (nI zs.length), .ref b6, .ref b7, .int (nI el), .ref b8, .ref b9, .ref b10])), (b1, .inl (cJ, 512, .inr (.inl vs))), (b2, .inl (cZ, 512, .inl (fun j => bI (ac j)))), (b3, .inl (cI, 8192, .inl (fun j => nI (o j)))), (b4, .inl (cJ, 8192, .inr (.inl mt))), (b5, .inl (cJ, 8192, .inr (.inl mw))), (b6, .inl (cJ, 16, .inr (.inl nv))), (b7, .inl (cJ, 16, .inr (.inl dl))), (b8, .inl (cJ, 8208, .inr (.inl (vp_updL rtc G.length (now + (dl k)))))), (b9, .inl (cJ, 8208, .inr (.inl rvc))), (b10, .inl (cZ, 8208, .inl (fun j => bI (mkc j))))] := hD
          refine lv_aload_n hx hb dX1_assign_292 rfl (lv_at hl 0 rfl) ?_
          refine va_get (D := (dC, dI)) (ci := 1) (v := .ref b9) (C := RX1) (T := TX1) (N := 16) hx hb hall inX1 hown hK hP 0 rfl rfl 14 (by decide) (hall _ kw_337) (fun _ h9 => h9) rfl dX1_assign_293 ?_
          refine lv_iload hx hb dX1_assign_296 (lv_at hl 2 rfl) ?_
          refine lv_aload_n hx hb dX1_assign_298 rfl (lv_at hl 0 rfl) ?_
          refine va_get (D := (dC, dI)) (ci := 1) (v := .ref b6) (C := RX1) (T := TX1) (N := 16) hx hb hall inX1 hown hK hP 0 rfl rfl 10 (by decide) (hall _ kw_333) (fun _ h9 => h9) rfl dX1_assign_299 ?_
          refine lv_iload hx hb dX1_assign_302 (lv_at hl 5 rfl) ?_
          refine xa_lald hx hb hK hP 6 1 rfl rfl (by omega) (by omega) dX1_assign_304 ?_
          refine xa_last hx hb hK hP hD hS 9 1 rfl rfl (by omega) (by omega) dX1_assign_305 (fun H locs hP hD hS => ?_)
          have hP : va_P (dC, dI) vwCl [(y, .inr (1, [.int (nI 0), .int (nI nD), .int (nI nR), .ref b1, .ref b2, .long now, .ref b3, .ref b4, .ref b5, .int (nI zs.length), .ref b6, .ref b7, .int (nI el), .ref b8, .ref b9, .ref b10])), (b1, .inl (cJ, 512, .inr (.inl vs))), (b2, .inl (cZ, 512, .inl (fun j => bI (ac j)))), (b3, .inl (cI, 8192, .inl (fun j => nI (o j)))), (b4, .inl (cJ, 8192, .inr (.inl mt))), (b5, .inl (cJ, 8192, .inr (.inl mw))), (b6, .inl (cJ, 16, .inr (.inl nv))), (b7, .inl (cJ, 16, .inr (.inl dl))), (b8, .inl (cJ, 8208, .inr (.inl (vp_updL rtc G.length (now + (dl k)))))), (b9, .inl (cJ, 8208, .inr (.inl (vp_updL rvc G.length (nv k))))), (b10, .inl (cZ, 8208, .inl (fun j => bI (mkc j))))] H := hP
          have hD : va_D A [(y, .inr (1, [.int (nI 0), .int (nI nD), .int (nI nR), .ref b1, .ref b2, .long now, .ref b3, .ref b4, .ref b5, .int (nI zs.length), .ref b6, .ref b7, .int (nI el), .ref b8, .ref b9, .ref b10])), (b1, .inl (cJ, 512, .inr (.inl vs))), (b2, .inl (cZ, 512, .inl (fun j => bI (ac j)))), (b3, .inl (cI, 8192, .inl (fun j => nI (o j)))), (b4, .inl (cJ, 8192, .inr (.inl mt))), (b5, .inl (cJ, 8192, .inr (.inl mw))), (b6, .inl (cJ, 16, .inr (.inl nv))), (b7, .inl (cJ, 16, .inr (.inl dl))), (b8, .inl (cJ, 8208, .inr (.inl (vp_updL rtc G.length (now + (dl k)))))), (b9, .inl (cJ, 8208, .inr (.inl (vp_updL rvc G.length (nv k))))), (b10, .inl (cZ, 8208, .inl (fun j => bI (mkc j))))] := hD
          refine lv_aload_n hx hb dX1_assign_306 rfl (lv_at hl 0 rfl) ?_
          refine va_get (D := (dC, dI)) (ci := 1) (v := .ref b10) (C := RX1) (T := TX1) (N := 16) hx hb hall inX1 hown hK hP 0 rfl rfl 15 (by decide) (hall _ kw_338) (fun _ h9 => h9) rfl dX1_assign_307 ?_
          refine lv_iload hx hb dX1_assign_310 (lv_at hl 2 rfl) ?_
          refine lv_iconst (v := 1) hx hb dX1_assign_312 (by decide) ?_
          refine tp_i (y := bI true) bI_t ?_
          refine xa_zast hx hb hK hP hD hS 10 2 rfl rfl (by omega) (by omega) dX1_assign_313 (fun H locs hP hD hS => ?_)
          have hP : va_P (dC, dI) vwCl [(y, .inr (1, [.int (nI 0), .int (nI nD), .int (nI nR), .ref b1, .ref b2, .long now, .ref b3, .ref b4, .ref b5, .int (nI zs.length), .ref b6, .ref b7, .int (nI el), .ref b8, .ref b9, .ref b10])), (b1, .inl (cJ, 512, .inr (.inl vs))), (b2, .inl (cZ, 512, .inl (fun j => bI (ac j)))), (b3, .inl (cI, 8192, .inl (fun j => nI (o j)))), (b4, .inl (cJ, 8192, .inr (.inl mt))), (b5, .inl (cJ, 8192, .inr (.inl mw))), (b6, .inl (cJ, 16, .inr (.inl nv))), (b7, .inl (cJ, 16, .inr (.inl dl))), (b8, .inl (cJ, 8208, .inr (.inl (vp_updL rtc G.length (now + (dl k)))))), (b9, .inl (cJ, 8208, .inr (.inl (vp_updL rvc G.length (nv k))))), (b10, .inl (cZ, 8208, .inl (fun j => bI (ub mkc G.length true j))))] H := hP
          have hD : va_D A [(y, .inr (1, [.int (nI 0), .int (nI nD), .int (nI nR), .ref b1, .ref b2, .long now, .ref b3, .ref b4, .ref b5, .int (nI zs.length), .ref b6, .ref b7, .int (nI el), .ref b8, .ref b9, .ref b10])), (b1, .inl (cJ, 512, .inr (.inl vs))), (b2, .inl (cZ, 512, .inl (fun j => bI (ac j)))), (b3, .inl (cI, 8192, .inl (fun j => nI (o j)))), (b4, .inl (cJ, 8192, .inr (.inl mt))), (b5, .inl (cJ, 8192, .inr (.inl mw))), (b6, .inl (cJ, 16, .inr (.inl nv))), (b7, .inl (cJ, 16, .inr (.inl dl))), (b8, .inl (cJ, 8208, .inr (.inl (vp_updL rtc G.length (now + (dl k)))))), (b9, .inl (cJ, 8208, .inr (.inl (vp_updL rvc G.length (nv k))))), (b10, .inl (cZ, 8208, .inl (fun j => bI (ub mkc G.length true j))))] := hD
          refine lv_iinc (v := nI (G.length + 1)) (lv' := [(8, .int (nI (G.length + 1))), (0, .ref y), (1, .int (nI d)), (9, .int (nI (wc d zs))), (10, .int (nI (wro d (now + dl 0) lm mo zs).length)), (11, .int (nI k))]) hx hb dX1_assign_314 hl (k := 2) rfl (nI_1 _) (by decide) rfl (fun ls hl => ?_)
          refine lv_iinc (v := nI (k + 1)) (lv' := [(11, .int (nI (k + 1))), (8, .int (nI (G.length + 1))), (0, .ref y), (1, .int (nI d)), (9, .int (nI (wc d zs))), (10, .int (nI (wro d (now + dl 0) lm mo zs).length))]) hx hb dX1_assign_317 hl (k := 5) rfl (nI_1 k) (by decide) rfl (fun ls hl => ?_)
          refine lv_goto (tgt := 264) hx hb dX1_assign_320 (by decide) ?_
          exact ih (k + 1) (G ++ [(now + dl k, nv k, true)]) _ _ _ H locs ls (by omega) (wx_push (now + dl k, nv k, true) hG) (by rw [← hGe, List.append_assoc]; rfl) hP hD hS (by rw [wz_len]; exact lv_sub hl [2, 3, 1, 4, 5, 0] rfl)
    have hloop1 : ∀ (ss : List ZT) (k : Nat) (X : List XT) (c0 : Nat) (rtc rvc : Nat → Int64) (mkc : Nat → Bool) (H : Heap) (locs : List Loc) (ls : Array Slot), zs.drop k = ss → k ≤ zs.length → X.length ≤ k → c0 ≤ k → c0 + wc d ss = wc d zs → wx X rtc rvc mkc → X ++ wro d (now + dl 0) lm mo ss = wro d (now + dl 0) lm mo zs → va_P (dC, dI) vwCl [(y, .inr (1, [.int (nI 0), .int (nI nD), .int (nI nR), .ref b1, .ref b2, .long now, .ref b3, .ref b4, .ref b5, .int (nI zs.length), .ref b6, .ref b7, .int (nI el), .ref b8, .ref b9, .ref b10])), (b1, .inl (cJ, 512, .inr (.inl vs))), (b2, .inl (cZ, 512, .inl (fun j => bI (ac j)))), (b3, .inl (cI, 8192, .inl (fun j => nI (o j)))), (b4, .inl (cJ, 8192, .inr (.inl mt))), (b5, .inl (cJ, 8192, .inr (.inl mw))), (b6, .inl (cJ, 16, .inr (.inl nv))), (b7, .inl (cJ, 16, .inr (.inl dl))), (b8, .inl (cJ, 8208, .inr (.inl rtc))), (b9, .inl (cJ, 8208, .inr (.inl rvc))), (b10, .inl (cZ, 8208, .inl (fun j => bI (mkc j))))] H → va_D A [(y, .inr (1, [.int (nI 0), .int (nI nD), .int (nI nR), .ref b1, .ref b2, .long now, .ref b3, .ref b4, .ref b5, .int (nI zs.length), .ref b6, .ref b7, .int (nI el), .ref b8, .ref b9, .ref b10])), (b1, .inl (cJ, 512, .inr (.inl vs))), (b2, .inl (cZ, 512, .inl (fun j => bI (ac j)))), (b3, .inl (cI, 8192, .inl (fun j => nI (o j)))), (b4, .inl (cJ, 8192, .inr (.inl mt))), (b5, .inl (cJ, 8192, .inr (.inl mw))), (b6, .inl (cJ, 16, .inr (.inl nv))), (b7, .inl (cJ, 16, .inr (.inl dl))), (b8, .inl (cJ, 8208, .inr (.inl rtc))), (b9, .inl (cJ, 8208, .inr (.inl rvc))), (b10, .inl (cZ, 8208, .inl (fun j => bI (mkc j))))] → va_S A s.heap H locs → lv_has ls 13 [(0, .ref y), (1, .int (nI d)), (2, .int mo), (3, .long t), (6, .long (now + dl 0)), (8, .int (nI X.length)), (9, .int (nI c0)), (10, .int (nI k))] → W p l e (headSpec wsX1_assign ({ frames := 1, cells := 0, slots := 0, locals := 24 })).room s m (([.ref y, .int (nI d), .int mo, .long t] : List Value).toArray) below meth c H locs 0 0 (MQ below (va_Qi (fun (v : Int32) (_ : Unit) => True) (fun _ t9 => ∃ (r9 v9 : Nat → Int64) (m9 : Nat → Bool), va_P (dC, dI) vwCl (wm y b1 b2 b3 b4 b5 b6 b7 b8 b9 b10 cI cJ cZ 2 nD nR vs ac now o mt mw zs.length nv dl el r9 v9 m9) t9.heap ∧ va_K (dC, dI) vwCl [(cI, .int), (cJ, .long), (cZ, .boolean)] t9 ∧ va_D A (wm y b1 b2 b3 b4 b5 b6 b7 b8 b9 b10 cI cJ cZ 2 nD nR vs ac now o mt mw zs.length nv dl el r9 v9 m9)) A) (([.ref y, .int (nI d), .int mo, .long t] : List Value).toArray) s 0 0 A) (F0 m 139 ls []) := by
      intro ss
      induction ss with
      | nil =>
        intro k X c0 rtc rvc mkc H locs ls hss hkl hXk hck hc hX hXe hP hD hS hl
        have hk := wz_nil hss
        obtain rfl : X = wro d (now + dl 0) lm mo zs := (List.append_nil X).symm.trans hXe
        obtain rfl : c0 = wc d zs := hc
        refine lv_iload hx hb dX1_assign_139 (lv_at hl 7 rfl) ?_
        refine lv_aload_n hx hb dX1_assign_141 rfl (lv_at hl 0 rfl) ?_
        refine va_get (D := (dC, dI)) (ci := 1) (v := .int (nI zs.length)) (C := RX1) (T := TX1) (N := 16) hx hb hall inX1 hown hK hP 0 rfl rfl 9 (by decide) (hall _ kw_332) (fun _ h9 => h9) rfl dX1_assign_142 ?_
        refine xc_ge (tgt := 257) hx hb (by omega) (by omega) dX1_assign_145 (by decide) (fun c_12 => ?_) (fun c_12 => ?_)
        · refine lv_iload hx hb dX1_assign_257 (lv_at hl 5 rfl) ?_
          refine lv_istore (lv' := [(10, .int (nI (wro d (now + dl 0) lm mo zs).length)), (0, .ref y), (1, .int (nI d)), (2, .int mo), (3, .long t), (6, .long (now + dl 0)), (8, .int (nI (wro d (now + dl 0) lm mo zs).length)), (9, .int (nI (wc d zs)))]) hx hb dX1_assign_259 hl (by decide) rfl (fun ls hl => ?_)
          refine lv_iconst (v := 0) hx hb dX1_assign_261 (by decide) ?_
          refine tp_i (y := nI 0) nI_0.symm ?_
          refine lv_istore (lv' := [(11, .int (nI 0)), (10, .int (nI (wro d (now + dl 0) lm mo zs).length)), (0, .ref y), (1, .int (nI d)), (2, .int mo), (3, .long t), (6, .long (now + dl 0)), (8, .int (nI (wro d (now + dl 0) lm mo zs).length)), (9, .int (nI (wc d zs)))]) hx hb dX1_assign_262 hl (by decide) rfl (fun ls hl => ?_)
          exact hloop2 el 0 (wro d (now + dl 0) lm mo zs) rtc rvc mkc H locs ls (by omega) hX rfl hP hD hS (lv_sub hl [2, 3, 7, 8, 1, 0] rfl)
        · exact absurd c_12 (by omega)
      | cons z tl ih =>
        intro k X c0 rtc rvc mkc H locs ls hss hkl hXk hck hc hX hXe hP hD hS hl
        obtain ⟨hk, hzk, htl⟩ := wz_drop hss
        obtain ⟨ez1, ez2, ez3⟩ := hZ k z hzk
        have hod := how z (List.mem_of_getElem? hzk)
        refine lv_iload hx hb dX1_assign_139 (lv_at hl 7 rfl) ?_
        refine lv_aload_n hx hb dX1_assign_141 rfl (lv_at hl 0 rfl) ?_
        refine va_get (D := (dC, dI)) (ci := 1) (v := .int (nI zs.length)) (C := RX1) (T := TX1) (N := 16) hx hb hall inX1 hown hK hP 0 rfl rfl 9 (by decide) (hall _ kw_332) (fun _ h9 => h9) rfl dX1_assign_142 ?_
        refine xc_ge (tgt := 257) hx hb (by omega) (by omega) dX1_assign_145 (by decide) (fun c_13 => ?_) (fun c_13 => ?_)
        · exact absurd c_13 (by omega)
        · refine lv_aload_n hx hb dX1_assign_148 rfl (lv_at hl 0 rfl) ?_
          refine va_get (D := (dC, dI)) (ci := 1) (v := .ref b3) (C := RX1) (T := TX1) (N := 16) hx hb hall inX1 hown hK hP 0 rfl rfl 6 (by decide) (hall _ kw_329) (fun _ h9 => h9) rfl dX1_assign_149 ?_
          refine lv_iload hx hb dX1_assign_152 (lv_at hl 7 rfl) ?_
          refine xa_iald hx hb hK hP 3 0 rfl rfl (by omega) (by omega) dX1_assign_154 ?_
          refine tp_i (y := nI z.1) (by rw [ez1]) ?_
          refine lv_iload_n hx hb dX1_assign_155 rfl (lv_at hl 1 rfl) ?_
          refine xc_ne (tgt := 251) hx hb (by omega) (by omega) dX1_assign_156 (by decide) (fun c_14 => ?_) (fun c_14 => ?_)
          · have c_O := c_14
            refine lv_iinc (v := nI (k + 1)) (lv' := [(10, .int (nI (k + 1))), (0, .ref y), (1, .int (nI d)), (2, .int mo), (3, .long t), (6, .long (now + dl 0)), (8, .int (nI X.length)), (9, .int (nI c0))]) hx hb dX1_assign_251 hl (k := 7) rfl (nI_1 k) (by decide) rfl (fun ls hl => ?_)
            refine lv_goto (tgt := 139) hx hb dX1_assign_254 (by decide) ?_
            exact ih (k + 1) X c0 rtc rvc mkc H locs ls htl (by omega) (by omega) (by omega) (by rw [← hc]; show _ = _ + ((if z.1 = d then 1 else 0) + wc d tl); rw [if_neg c_O]; omega) hX (by rw [← hXe]; show _ = _ ++ (if z.1 = d ∧ z.2.1 < now + dl 0 then (z.2.1, z.2.2, decide (mo = 1 ∨ z.2.1 < now + dl 0 - lm)) :: wro d (now + dl 0) lm mo tl else wro d (now + dl 0) lm mo tl); rw [if_neg (fun q => c_O q.1)]) hP hD hS (lv_sub hl [1, 2, 3, 4, 5, 6, 7, 0] rfl)
          · have c_O := c_14
            refine lv_iinc (v := nI (c0 + 1)) (lv' := [(9, .int (nI (c0 + 1))), (0, .ref y), (1, .int (nI d)), (2, .int mo), (3, .long t), (6, .long (now + dl 0)), (8, .int (nI X.length)), (10, .int (nI k))]) hx hb dX1_assign_159 hl (k := 6) rfl (nI_1 c0) (by decide) rfl (fun ls hl => ?_)
            refine lv_aload_n hx hb dX1_assign_162 rfl (lv_at hl 1 rfl) ?_
            refine va_get (D := (dC, dI)) (ci := 1) (v := .ref b4) (C := RX1) (T := TX1) (N := 16) hx hb hall inX1 hown hK hP 0 rfl rfl 7 (by decide) (hall _ kw_330) (fun _ h9 => h9) rfl dX1_assign_163 ?_
            refine lv_iload hx hb dX1_assign_166 (lv_at hl 7 rfl) ?_
            refine xa_lald hx hb hK hP 4 1 rfl rfl (by omega) (by omega) dX1_assign_168 ?_
            refine tp_l (y := z.2.1) ez2 ?_
            refine lv_lload hx hb dX1_assign_169 (lv_at hl 5 rfl) ?_
            refine xl_ge (tgt := 251) hx hb dX1_assign_171 dX1_assign_172 (by decide) (fun c_15 => ?_) (fun c_15 => ?_)
            · have c_B := c_15
              refine lv_iinc (v := nI (k + 1)) (lv' := [(10, .int (nI (k + 1))), (9, .int (nI (c0 + 1))), (0, .ref y), (1, .int (nI d)), (2, .int mo), (3, .long t), (6, .long (now + dl 0)), (8, .int (nI X.length))]) hx hb dX1_assign_251 hl (k := 7) rfl (nI_1 k) (by decide) rfl (fun ls hl => ?_)
              refine lv_goto (tgt := 139) hx hb dX1_assign_254 (by decide) ?_
              exact ih (k + 1) X (c0 + 1) rtc rvc mkc H locs ls htl (by omega) (by omega) (by omega) (by rw [← hc]; show _ = _ + ((if z.1 = d then 1 else 0) + wc d tl); rw [if_pos c_O]; omega) hX (by rw [← hXe]; show _ = _ ++ (if z.1 = d ∧ z.2.1 < now + dl 0 then (z.2.1, z.2.2, decide (mo = 1 ∨ z.2.1 < now + dl 0 - lm)) :: wro d (now + dl 0) lm mo tl else wro d (now + dl 0) lm mo tl); rw [if_neg (fun q => absurd q.2 (Int64.not_lt.mpr c_B))]) hP hD hS (lv_sub hl [2, 3, 4, 5, 6, 7, 1, 0] rfl)
            · have c_B := c_15
              refine lv_aload_n hx hb dX1_assign_175 rfl (lv_at hl 1 rfl) ?_
              refine va_get (D := (dC, dI)) (ci := 1) (v := .ref b8) (C := RX1) (T := TX1) (N := 16) hx hb hall inX1 hown hK hP 0 rfl rfl 13 (by decide) (hall _ kw_336) (fun _ h9 => h9) rfl dX1_assign_176 ?_
              refine lv_iload hx hb dX1_assign_179 (lv_at hl 6 rfl) ?_
              refine lv_aload_n hx hb dX1_assign_181 rfl (lv_at hl 1 rfl) ?_
              refine va_get (D := (dC, dI)) (ci := 1) (v := .ref b4) (C := RX1) (T := TX1) (N := 16) hx hb hall inX1 hown hK hP 0 rfl rfl 7 (by decide) (hall _ kw_330) (fun _ h9 => h9) rfl dX1_assign_182 ?_
              refine lv_iload hx hb dX1_assign_185 (lv_at hl 7 rfl) ?_
              refine xa_lald hx hb hK hP 4 1 rfl rfl (by omega) (by omega) dX1_assign_187 ?_
              refine tp_l (y := z.2.1) ez2 ?_
              refine xa_last hx hb hK hP hD hS 8 1 rfl rfl (by omega) (by omega) dX1_assign_188 (fun H locs hP hD hS => ?_)
              have hP : va_P (dC, dI) vwCl [(y, .inr (1, [.int (nI 0), .int (nI nD), .int (nI nR), .ref b1, .ref b2, .long now, .ref b3, .ref b4, .ref b5, .int (nI zs.length), .ref b6, .ref b7, .int (nI el), .ref b8, .ref b9, .ref b10])), (b1, .inl (cJ, 512, .inr (.inl vs))), (b2, .inl (cZ, 512, .inl (fun j => bI (ac j)))), (b3, .inl (cI, 8192, .inl (fun j => nI (o j)))), (b4, .inl (cJ, 8192, .inr (.inl mt))), (b5, .inl (cJ, 8192, .inr (.inl mw))), (b6, .inl (cJ, 16, .inr (.inl nv))), (b7, .inl (cJ, 16, .inr (.inl dl))), (b8, .inl (cJ, 8208, .inr (.inl (vp_updL rtc X.length z.2.1)))), (b9, .inl (cJ, 8208, .inr (.inl rvc))), (b10, .inl (cZ, 8208, .inl (fun j => bI (mkc j))))] H := hP
              have hD : va_D A [(y, .inr (1, [.int (nI 0), .int (nI nD), .int (nI nR), .ref b1, .ref b2, .long now, .ref b3, .ref b4, .ref b5, .int (nI zs.length), .ref b6, .ref b7, .int (nI el), .ref b8, .ref b9, .ref b10])), (b1, .inl (cJ, 512, .inr (.inl vs))), (b2, .inl (cZ, 512, .inl (fun j => bI (ac j)))), (b3, .inl (cI, 8192, .inl (fun j => nI (o j)))), (b4, .inl (cJ, 8192, .inr (.inl mt))), (b5, .inl (cJ, 8192, .inr (.inl mw))), (b6, .inl (cJ, 16, .inr (.inl nv))), (b7, .inl (cJ, 16, .inr (.inl dl))), (b8, .inl (cJ, 8208, .inr (.inl (vp_updL rtc X.length z.2.1)))), (b9, .inl (cJ, 8208, .inr (.inl rvc))), (b10, .inl (cZ, 8208, .inl (fun j => bI (mkc j))))] := hD
              refine lv_aload_n hx hb dX1_assign_189 rfl (lv_at hl 1 rfl) ?_
              refine va_get (D := (dC, dI)) (ci := 1) (v := .ref b9) (C := RX1) (T := TX1) (N := 16) hx hb hall inX1 hown hK hP 0 rfl rfl 14 (by decide) (hall _ kw_337) (fun _ h9 => h9) rfl dX1_assign_190 ?_
              refine lv_iload hx hb dX1_assign_193 (lv_at hl 6 rfl) ?_
              refine lv_aload_n hx hb dX1_assign_195 rfl (lv_at hl 1 rfl) ?_
              refine va_get (D := (dC, dI)) (ci := 1) (v := .ref b5) (C := RX1) (T := TX1) (N := 16) hx hb hall inX1 hown hK hP 0 rfl rfl 8 (by decide) (hall _ kw_331) (fun _ h9 => h9) rfl dX1_assign_196 ?_
              refine lv_iload hx hb dX1_assign_199 (lv_at hl 7 rfl) ?_
              refine xa_lald hx hb hK hP 5 1 rfl rfl (by omega) (by omega) dX1_assign_201 ?_
              refine tp_l (y := z.2.2) ez3 ?_
              refine xa_last hx hb hK hP hD hS 9 1 rfl rfl (by omega) (by omega) dX1_assign_202 (fun H locs hP hD hS => ?_)
              have hP : va_P (dC, dI) vwCl [(y, .inr (1, [.int (nI 0), .int (nI nD), .int (nI nR), .ref b1, .ref b2, .long now, .ref b3, .ref b4, .ref b5, .int (nI zs.length), .ref b6, .ref b7, .int (nI el), .ref b8, .ref b9, .ref b10])), (b1, .inl (cJ, 512, .inr (.inl vs))), (b2, .inl (cZ, 512, .inl (fun j => bI (ac j)))), (b3, .inl (cI, 8192, .inl (fun j => nI (o j)))), (b4, .inl (cJ, 8192, .inr (.inl mt))), (b5, .inl (cJ, 8192, .inr (.inl mw))), (b6, .inl (cJ, 16, .inr (.inl nv))), (b7, .inl (cJ, 16, .inr (.inl dl))), (b8, .inl (cJ, 8208, .inr (.inl (vp_updL rtc X.length z.2.1)))), (b9, .inl (cJ, 8208, .inr (.inl (vp_updL rvc X.length z.2.2)))), (b10, .inl (cZ, 8208, .inl (fun j => bI (mkc j))))] H := hP
              have hD : va_D A [(y, .inr (1, [.int (nI 0), .int (nI nD), .int (nI nR), .ref b1, .ref b2, .long now, .ref b3, .ref b4, .ref b5, .int (nI zs.length), .ref b6, .ref b7, .int (nI el), .ref b8, .ref b9, .ref b10])), (b1, .inl (cJ, 512, .inr (.inl vs))), (b2, .inl (cZ, 512, .inl (fun j => bI (ac j)))), (b3, .inl (cI, 8192, .inl (fun j => nI (o j)))), (b4, .inl (cJ, 8192, .inr (.inl mt))), (b5, .inl (cJ, 8192, .inr (.inl mw))), (b6, .inl (cJ, 16, .inr (.inl nv))), (b7, .inl (cJ, 16, .inr (.inl dl))), (b8, .inl (cJ, 8208, .inr (.inl (vp_updL rtc X.length z.2.1)))), (b9, .inl (cJ, 8208, .inr (.inl (vp_updL rvc X.length z.2.2)))), (b10, .inl (cZ, 8208, .inl (fun j => bI (mkc j))))] := hD
              refine lv_aload_n hx hb dX1_assign_203 rfl (lv_at hl 1 rfl) ?_
              refine va_get (D := (dC, dI)) (ci := 1) (v := .ref b10) (C := RX1) (T := TX1) (N := 16) hx hb hall inX1 hown hK hP 0 rfl rfl 15 (by decide) (hall _ kw_338) (fun _ h9 => h9) rfl dX1_assign_204 ?_
              refine lv_iload hx hb dX1_assign_207 (lv_at hl 6 rfl) ?_
              refine lv_iload_n hx hb dX1_assign_209 rfl (lv_at hl 3 rfl) ?_
              refine lv_iconst (v := 1) hx hb dX1_assign_210 (by decide) ?_
              refine lv_icmp_eq (tgt := 242) hx hb dX1_assign_211 (by decide) (fun c_16 => ?_) (fun c_16 => ?_)
              · have c_P := c_16
                refine lv_iconst (v := 1) hx hb dX1_assign_242 (by decide) ?_
                refine tp_i (y := bI (decide (mo = 1 ∨ z.2.1 < now + dl 0 - lm))) (by rw [decide_eq_true (show mo = 1 ∨ z.2.1 < now + dl 0 - lm from by first | exact Or.inl c_P | (right; rw [hlm, if_pos c_M]; exact Int64.not_le.mp c_T) | (right; rw [hlm, if_neg c_M]; exact Int64.not_le.mp c_T))]; rfl) ?_
                refine lv_goto (tgt := 247) hx hb dX1_assign_243 (by decide) ?_
                refine xa_zast hx hb hK hP hD hS 10 2 rfl rfl (by omega) (by omega) dX1_assign_247 (fun H locs hP hD hS => ?_)
                have hP : va_P (dC, dI) vwCl [(y, .inr (1, [.int (nI 0), .int (nI nD), .int (nI nR), .ref b1, .ref b2, .long now, .ref b3, .ref b4, .ref b5, .int (nI zs.length), .ref b6, .ref b7, .int (nI el), .ref b8, .ref b9, .ref b10])), (b1, .inl (cJ, 512, .inr (.inl vs))), (b2, .inl (cZ, 512, .inl (fun j => bI (ac j)))), (b3, .inl (cI, 8192, .inl (fun j => nI (o j)))), (b4, .inl (cJ, 8192, .inr (.inl mt))), (b5, .inl (cJ, 8192, .inr (.inl mw))), (b6, .inl (cJ, 16, .inr (.inl nv))), (b7, .inl (cJ, 16, .inr (.inl dl))), (b8, .inl (cJ, 8208, .inr (.inl (vp_updL rtc X.length z.2.1)))), (b9, .inl (cJ, 8208, .inr (.inl (vp_updL rvc X.length z.2.2)))), (b10, .inl (cZ, 8208, .inl (fun j => bI (ub mkc X.length (decide (mo = 1 ∨ z.2.1 < now + dl 0 - lm)) j))))] H := hP
                have hD : va_D A [(y, .inr (1, [.int (nI 0), .int (nI nD), .int (nI nR), .ref b1, .ref b2, .long now, .ref b3, .ref b4, .ref b5, .int (nI zs.length), .ref b6, .ref b7, .int (nI el), .ref b8, .ref b9, .ref b10])), (b1, .inl (cJ, 512, .inr (.inl vs))), (b2, .inl (cZ, 512, .inl (fun j => bI (ac j)))), (b3, .inl (cI, 8192, .inl (fun j => nI (o j)))), (b4, .inl (cJ, 8192, .inr (.inl mt))), (b5, .inl (cJ, 8192, .inr (.inl mw))), (b6, .inl (cJ, 16, .inr (.inl nv))), (b7, .inl (cJ, 16, .inr (.inl dl))), (b8, .inl (cJ, 8208, .inr (.inl (vp_updL rtc X.length z.2.1)))), (b9, .inl (cJ, 8208, .inr (.inl (vp_updL rvc X.length z.2.2)))), (b10, .inl (cZ, 8208, .inl (fun j => bI (ub mkc X.length (decide (mo = 1 ∨ z.2.1 < now + dl 0 - lm)) j))))] := hD
                refine lv_iinc (v := nI (X.length + 1)) (lv' := [(8, .int (nI (X.length + 1))), (9, .int (nI (c0 + 1))), (0, .ref y), (1, .int (nI d)), (2, .int mo), (3, .long t), (6, .long (now + dl 0)), (10, .int (nI k))]) hx hb dX1_assign_248 hl (k := 6) rfl (nI_1 _) (by decide) rfl (fun ls hl => ?_)
                refine lv_iinc (v := nI (k + 1)) (lv' := [(10, .int (nI (k + 1))), (8, .int (nI (X.length + 1))), (9, .int (nI (c0 + 1))), (0, .ref y), (1, .int (nI d)), (2, .int mo), (3, .long t), (6, .long (now + dl 0))]) hx hb dX1_assign_251 hl (k := 7) rfl (nI_1 k) (by decide) rfl (fun ls hl => ?_)
                refine lv_goto (tgt := 139) hx hb dX1_assign_254 (by decide) ?_
                exact ih (k + 1) (X ++ [(z.2.1, z.2.2, decide (mo = 1 ∨ z.2.1 < now + dl 0 - lm))]) (c0 + 1) _ _ _ H locs ls htl (by omega) (by rw [wz_len]; omega) (by omega) (by rw [← hc]; show _ = _ + ((if z.1 = d then 1 else 0) + wc d tl); rw [if_pos c_O]; omega) (wx_push (z.2.1, z.2.2, decide (mo = 1 ∨ z.2.1 < now + dl 0 - lm)) hX) (by rw [← hXe, List.append_assoc]; show _ = _ ++ (if z.1 = d ∧ z.2.1 < now + dl 0 then (z.2.1, z.2.2, decide (mo = 1 ∨ z.2.1 < now + dl 0 - lm)) :: wro d (now + dl 0) lm mo tl else wro d (now + dl 0) lm mo tl); rw [if_pos ⟨c_O, Int64.not_le.mp c_B⟩]; rfl) hP hD hS (by rw [wz_len]; exact lv_sub hl [3, 4, 5, 6, 7, 1, 2, 0] rfl)
              · have c_P := c_16
                refine lv_aload_n hx hb dX1_assign_214 rfl (lv_at hl 1 rfl) ?_
                refine va_get (D := (dC, dI)) (ci := 1) (v := .ref b4) (C := RX1) (T := TX1) (N := 16) hx hb hall inX1 hown hK hP 0 rfl rfl 7 (by decide) (hall _ kw_330) (fun _ h9 => h9) rfl dX1_assign_215 ?_
                refine lv_iload hx hb dX1_assign_218 (lv_at hl 7 rfl) ?_
                refine xa_lald hx hb hK hP 4 1 rfl rfl (by omega) (by omega) dX1_assign_220 ?_
                refine tp_l (y := z.2.1) ez2 ?_
                refine lv_lload hx hb dX1_assign_221 (lv_at hl 5 rfl) ?_
                refine lv_iload_n hx hb dX1_assign_223 rfl (lv_at hl 3 rfl) ?_
                refine lv_if_ne (tgt := 236) hx hb dX1_assign_224 (by decide) (fun c_17 => ?_) (fun c_17 => ?_)
                · have c_M := c_17
                  refine lv_lload_n hx hb dX1_assign_236 rfl (lv_at hl 4 rfl) ?_
                  refine lv_lsub hx hb dX1_assign_237 ?_
                  refine xl_ge (tgt := 246) hx hb dX1_assign_238 dX1_assign_239 (by decide) (fun c_18 => ?_) (fun c_18 => ?_)
                  · have c_T := c_18
                    refine lv_iconst (v := 0) hx hb dX1_assign_246 (by decide) ?_
                    refine tp_i (y := bI (decide (mo = 1 ∨ z.2.1 < now + dl 0 - lm))) (by rw [decide_eq_false (show ¬ (mo = 1 ∨ z.2.1 < now + dl 0 - lm) from fun q => q.elim c_P (fun q => by first | (rw [hlm, if_pos c_M] at q; exact absurd q (Int64.not_lt.mpr c_T)) | (rw [hlm, if_neg c_M] at q; exact absurd q (Int64.not_lt.mpr c_T))))]; rfl) ?_
                    refine xa_zast hx hb hK hP hD hS 10 2 rfl rfl (by omega) (by omega) dX1_assign_247 (fun H locs hP hD hS => ?_)
                    have hP : va_P (dC, dI) vwCl [(y, .inr (1, [.int (nI 0), .int (nI nD), .int (nI nR), .ref b1, .ref b2, .long now, .ref b3, .ref b4, .ref b5, .int (nI zs.length), .ref b6, .ref b7, .int (nI el), .ref b8, .ref b9, .ref b10])), (b1, .inl (cJ, 512, .inr (.inl vs))), (b2, .inl (cZ, 512, .inl (fun j => bI (ac j)))), (b3, .inl (cI, 8192, .inl (fun j => nI (o j)))), (b4, .inl (cJ, 8192, .inr (.inl mt))), (b5, .inl (cJ, 8192, .inr (.inl mw))), (b6, .inl (cJ, 16, .inr (.inl nv))), (b7, .inl (cJ, 16, .inr (.inl dl))), (b8, .inl (cJ, 8208, .inr (.inl (vp_updL rtc X.length z.2.1)))), (b9, .inl (cJ, 8208, .inr (.inl (vp_updL rvc X.length z.2.2)))), (b10, .inl (cZ, 8208, .inl (fun j => bI (ub mkc X.length (decide (mo = 1 ∨ z.2.1 < now + dl 0 - lm)) j))))] H := hP
                    have hD : va_D A [(y, .inr (1, [.int (nI 0), .int (nI nD), .int (nI nR), .ref b1, .ref b2, .long now, .ref b3, .ref b4, .ref b5, .int (nI zs.length), .ref b6, .ref b7, .int (nI el), .ref b8, .ref b9, .ref b10])), (b1, .inl (cJ, 512, .inr (.inl vs))), (b2, .inl (cZ, 512, .inl (fun j => bI (ac j)))), (b3, .inl (cI, 8192, .inl (fun j => nI (o j)))), (b4, .inl (cJ, 8192, .inr (.inl mt))), (b5, .inl (cJ, 8192, .inr (.inl mw))), (b6, .inl (cJ, 16, .inr (.inl nv))), (b7, .inl (cJ, 16, .inr (.inl dl))), (b8, .inl (cJ, 8208, .inr (.inl (vp_updL rtc X.length z.2.1)))), (b9, .inl (cJ, 8208, .inr (.inl (vp_updL rvc X.length z.2.2)))), (b10, .inl (cZ, 8208, .inl (fun j => bI (ub mkc X.length (decide (mo = 1 ∨ z.2.1 < now + dl 0 - lm)) j))))] := hD
                    refine lv_iinc (v := nI (X.length + 1)) (lv' := [(8, .int (nI (X.length + 1))), (9, .int (nI (c0 + 1))), (0, .ref y), (1, .int (nI d)), (2, .int mo), (3, .long t), (6, .long (now + dl 0)), (10, .int (nI k))]) hx hb dX1_assign_248 hl (k := 6) rfl (nI_1 _) (by decide) rfl (fun ls hl => ?_)
                    refine lv_iinc (v := nI (k + 1)) (lv' := [(10, .int (nI (k + 1))), (8, .int (nI (X.length + 1))), (9, .int (nI (c0 + 1))), (0, .ref y), (1, .int (nI d)), (2, .int mo), (3, .long t), (6, .long (now + dl 0))]) hx hb dX1_assign_251 hl (k := 7) rfl (nI_1 k) (by decide) rfl (fun ls hl => ?_)
                    refine lv_goto (tgt := 139) hx hb dX1_assign_254 (by decide) ?_
                    exact ih (k + 1) (X ++ [(z.2.1, z.2.2, decide (mo = 1 ∨ z.2.1 < now + dl 0 - lm))]) (c0 + 1) _ _ _ H locs ls htl (by omega) (by rw [wz_len]; omega) (by omega) (by rw [← hc]; show _ = _ + ((if z.1 = d then 1 else 0) + wc d tl); rw [if_pos c_O]; omega) (wx_push (z.2.1, z.2.2, decide (mo = 1 ∨ z.2.1 < now + dl 0 - lm)) hX) (by rw [← hXe, List.append_assoc]; show _ = _ ++ (if z.1 = d ∧ z.2.1 < now + dl 0 then (z.2.1, z.2.2, decide (mo = 1 ∨ z.2.1 < now + dl 0 - lm)) :: wro d (now + dl 0) lm mo tl else wro d (now + dl 0) lm mo tl); rw [if_pos ⟨c_O, Int64.not_le.mp c_B⟩]; rfl) hP hD hS (by rw [wz_len]; exact lv_sub hl [3, 4, 5, 6, 7, 1, 2, 0] rfl)
                  · have c_T := c_18
                    refine lv_iconst (v := 1) hx hb dX1_assign_242 (by decide) ?_
                    refine tp_i (y := bI (decide (mo = 1 ∨ z.2.1 < now + dl 0 - lm))) (by rw [decide_eq_true (show mo = 1 ∨ z.2.1 < now + dl 0 - lm from by first | exact Or.inl c_P | (right; rw [hlm, if_pos c_M]; exact Int64.not_le.mp c_T) | (right; rw [hlm, if_neg c_M]; exact Int64.not_le.mp c_T))]; rfl) ?_
                    refine lv_goto (tgt := 247) hx hb dX1_assign_243 (by decide) ?_
                    refine xa_zast hx hb hK hP hD hS 10 2 rfl rfl (by omega) (by omega) dX1_assign_247 (fun H locs hP hD hS => ?_)
                    have hP : va_P (dC, dI) vwCl [(y, .inr (1, [.int (nI 0), .int (nI nD), .int (nI nR), .ref b1, .ref b2, .long now, .ref b3, .ref b4, .ref b5, .int (nI zs.length), .ref b6, .ref b7, .int (nI el), .ref b8, .ref b9, .ref b10])), (b1, .inl (cJ, 512, .inr (.inl vs))), (b2, .inl (cZ, 512, .inl (fun j => bI (ac j)))), (b3, .inl (cI, 8192, .inl (fun j => nI (o j)))), (b4, .inl (cJ, 8192, .inr (.inl mt))), (b5, .inl (cJ, 8192, .inr (.inl mw))), (b6, .inl (cJ, 16, .inr (.inl nv))), (b7, .inl (cJ, 16, .inr (.inl dl))), (b8, .inl (cJ, 8208, .inr (.inl (vp_updL rtc X.length z.2.1)))), (b9, .inl (cJ, 8208, .inr (.inl (vp_updL rvc X.length z.2.2)))), (b10, .inl (cZ, 8208, .inl (fun j => bI (ub mkc X.length (decide (mo = 1 ∨ z.2.1 < now + dl 0 - lm)) j))))] H := hP
                    have hD : va_D A [(y, .inr (1, [.int (nI 0), .int (nI nD), .int (nI nR), .ref b1, .ref b2, .long now, .ref b3, .ref b4, .ref b5, .int (nI zs.length), .ref b6, .ref b7, .int (nI el), .ref b8, .ref b9, .ref b10])), (b1, .inl (cJ, 512, .inr (.inl vs))), (b2, .inl (cZ, 512, .inl (fun j => bI (ac j)))), (b3, .inl (cI, 8192, .inl (fun j => nI (o j)))), (b4, .inl (cJ, 8192, .inr (.inl mt))), (b5, .inl (cJ, 8192, .inr (.inl mw))), (b6, .inl (cJ, 16, .inr (.inl nv))), (b7, .inl (cJ, 16, .inr (.inl dl))), (b8, .inl (cJ, 8208, .inr (.inl (vp_updL rtc X.length z.2.1)))), (b9, .inl (cJ, 8208, .inr (.inl (vp_updL rvc X.length z.2.2)))), (b10, .inl (cZ, 8208, .inl (fun j => bI (ub mkc X.length (decide (mo = 1 ∨ z.2.1 < now + dl 0 - lm)) j))))] := hD
                    refine lv_iinc (v := nI (X.length + 1)) (lv' := [(8, .int (nI (X.length + 1))), (9, .int (nI (c0 + 1))), (0, .ref y), (1, .int (nI d)), (2, .int mo), (3, .long t), (6, .long (now + dl 0)), (10, .int (nI k))]) hx hb dX1_assign_248 hl (k := 6) rfl (nI_1 _) (by decide) rfl (fun ls hl => ?_)
                    refine lv_iinc (v := nI (k + 1)) (lv' := [(10, .int (nI (k + 1))), (8, .int (nI (X.length + 1))), (9, .int (nI (c0 + 1))), (0, .ref y), (1, .int (nI d)), (2, .int mo), (3, .long t), (6, .long (now + dl 0))]) hx hb dX1_assign_251 hl (k := 7) rfl (nI_1 k) (by decide) rfl (fun ls hl => ?_)
                    refine lv_goto (tgt := 139) hx hb dX1_assign_254 (by decide) ?_
                    exact ih (k + 1) (X ++ [(z.2.1, z.2.2, decide (mo = 1 ∨ z.2.1 < now + dl 0 - lm))]) (c0 + 1) _ _ _ H locs ls htl (by omega) (by rw [wz_len]; omega) (by omega) (by rw [← hc]; show _ = _ + ((if z.1 = d then 1 else 0) + wc d tl); rw [if_pos c_O]; omega) (wx_push (z.2.1, z.2.2, decide (mo = 1 ∨ z.2.1 < now + dl 0 - lm)) hX) (by rw [← hXe, List.append_assoc]; show _ = _ ++ (if z.1 = d ∧ z.2.1 < now + dl 0 then (z.2.1, z.2.2, decide (mo = 1 ∨ z.2.1 < now + dl 0 - lm)) :: wro d (now + dl 0) lm mo tl else wro d (now + dl 0) lm mo tl); rw [if_pos ⟨c_O, Int64.not_le.mp c_B⟩]; rfl) hP hD hS (by rw [wz_len]; exact lv_sub hl [3, 4, 5, 6, 7, 1, 2, 0] rfl)
                · have c_M := c_17
                  refine lv_aload_n hx hb dX1_assign_227 rfl (lv_at hl 1 rfl) ?_
                  refine va_get (D := (dC, dI)) (ci := 1) (v := .ref b7) (C := RX1) (T := TX1) (N := 16) hx hb hall inX1 hown hK hP 0 rfl rfl 11 (by decide) (hall _ kw_334) (fun _ h9 => h9) rfl dX1_assign_228 ?_
                  refine lv_iconst (v := 0) hx hb dX1_assign_231 (by decide) ?_
                  refine tp_i (y := nI 0) nI_0.symm ?_
                  refine xa_lald hx hb hK hP 7 1 rfl rfl (by omega) (by omega) dX1_assign_232 ?_
                  refine lv_goto (tgt := 237) hx hb dX1_assign_233 (by decide) ?_
                  refine lv_lsub hx hb dX1_assign_237 ?_
                  refine xl_ge (tgt := 246) hx hb dX1_assign_238 dX1_assign_239 (by decide) (fun c_19 => ?_) (fun c_19 => ?_)
                  · have c_T := c_19
                    refine lv_iconst (v := 0) hx hb dX1_assign_246 (by decide) ?_
                    refine tp_i (y := bI (decide (mo = 1 ∨ z.2.1 < now + dl 0 - lm))) (by rw [decide_eq_false (show ¬ (mo = 1 ∨ z.2.1 < now + dl 0 - lm) from fun q => q.elim c_P (fun q => by first | (rw [hlm, if_pos c_M] at q; exact absurd q (Int64.not_lt.mpr c_T)) | (rw [hlm, if_neg c_M] at q; exact absurd q (Int64.not_lt.mpr c_T))))]; rfl) ?_
                    refine xa_zast hx hb hK hP hD hS 10 2 rfl rfl (by omega) (by omega) dX1_assign_247 (fun H locs hP hD hS => ?_)
                    have hP : va_P (dC, dI) vwCl [(y, .inr (1, [.int (nI 0), .int (nI nD), .int (nI nR), .ref b1, .ref b2, .long now, .ref b3, .ref b4, .ref b5, .int (nI zs.length), .ref b6, .ref b7, .int (nI el), .ref b8, .ref b9, .ref b10])), (b1, .inl (cJ, 512, .inr (.inl vs))), (b2, .inl (cZ, 512, .inl (fun j => bI (ac j)))), (b3, .inl (cI, 8192, .inl (fun j => nI (o j)))), (b4, .inl (cJ, 8192, .inr (.inl mt))), (b5, .inl (cJ, 8192, .inr (.inl mw))), (b6, .inl (cJ, 16, .inr (.inl nv))), (b7, .inl (cJ, 16, .inr (.inl dl))), (b8, .inl (cJ, 8208, .inr (.inl (vp_updL rtc X.length z.2.1)))), (b9, .inl (cJ, 8208, .inr (.inl (vp_updL rvc X.length z.2.2)))), (b10, .inl (cZ, 8208, .inl (fun j => bI (ub mkc X.length (decide (mo = 1 ∨ z.2.1 < now + dl 0 - lm)) j))))] H := hP
                    have hD : va_D A [(y, .inr (1, [.int (nI 0), .int (nI nD), .int (nI nR), .ref b1, .ref b2, .long now, .ref b3, .ref b4, .ref b5, .int (nI zs.length), .ref b6, .ref b7, .int (nI el), .ref b8, .ref b9, .ref b10])), (b1, .inl (cJ, 512, .inr (.inl vs))), (b2, .inl (cZ, 512, .inl (fun j => bI (ac j)))), (b3, .inl (cI, 8192, .inl (fun j => nI (o j)))), (b4, .inl (cJ, 8192, .inr (.inl mt))), (b5, .inl (cJ, 8192, .inr (.inl mw))), (b6, .inl (cJ, 16, .inr (.inl nv))), (b7, .inl (cJ, 16, .inr (.inl dl))), (b8, .inl (cJ, 8208, .inr (.inl (vp_updL rtc X.length z.2.1)))), (b9, .inl (cJ, 8208, .inr (.inl (vp_updL rvc X.length z.2.2)))), (b10, .inl (cZ, 8208, .inl (fun j => bI (ub mkc X.length (decide (mo = 1 ∨ z.2.1 < now + dl 0 - lm)) j))))] := hD
                    refine lv_iinc (v := nI (X.length + 1)) (lv' := [(8, .int (nI (X.length + 1))), (9, .int (nI (c0 + 1))), (0, .ref y), (1, .int (nI d)), (2, .int mo), (3, .long t), (6, .long (now + dl 0)), (10, .int (nI k))]) hx hb dX1_assign_248 hl (k := 6) rfl (nI_1 _) (by decide) rfl (fun ls hl => ?_)
                    refine lv_iinc (v := nI (k + 1)) (lv' := [(10, .int (nI (k + 1))), (8, .int (nI (X.length + 1))), (9, .int (nI (c0 + 1))), (0, .ref y), (1, .int (nI d)), (2, .int mo), (3, .long t), (6, .long (now + dl 0))]) hx hb dX1_assign_251 hl (k := 7) rfl (nI_1 k) (by decide) rfl (fun ls hl => ?_)
                    refine lv_goto (tgt := 139) hx hb dX1_assign_254 (by decide) ?_
                    exact ih (k + 1) (X ++ [(z.2.1, z.2.2, decide (mo = 1 ∨ z.2.1 < now + dl 0 - lm))]) (c0 + 1) _ _ _ H locs ls htl (by omega) (by rw [wz_len]; omega) (by omega) (by rw [← hc]; show _ = _ + ((if z.1 = d then 1 else 0) + wc d tl); rw [if_pos c_O]; omega) (wx_push (z.2.1, z.2.2, decide (mo = 1 ∨ z.2.1 < now + dl 0 - lm)) hX) (by rw [← hXe, List.append_assoc]; show _ = _ ++ (if z.1 = d ∧ z.2.1 < now + dl 0 then (z.2.1, z.2.2, decide (mo = 1 ∨ z.2.1 < now + dl 0 - lm)) :: wro d (now + dl 0) lm mo tl else wro d (now + dl 0) lm mo tl); rw [if_pos ⟨c_O, Int64.not_le.mp c_B⟩]; rfl) hP hD hS (by rw [wz_len]; exact lv_sub hl [3, 4, 5, 6, 7, 1, 2, 0] rfl)
                  · have c_T := c_19
                    refine lv_iconst (v := 1) hx hb dX1_assign_242 (by decide) ?_
                    refine tp_i (y := bI (decide (mo = 1 ∨ z.2.1 < now + dl 0 - lm))) (by rw [decide_eq_true (show mo = 1 ∨ z.2.1 < now + dl 0 - lm from by first | exact Or.inl c_P | (right; rw [hlm, if_pos c_M]; exact Int64.not_le.mp c_T) | (right; rw [hlm, if_neg c_M]; exact Int64.not_le.mp c_T))]; rfl) ?_
                    refine lv_goto (tgt := 247) hx hb dX1_assign_243 (by decide) ?_
                    refine xa_zast hx hb hK hP hD hS 10 2 rfl rfl (by omega) (by omega) dX1_assign_247 (fun H locs hP hD hS => ?_)
                    have hP : va_P (dC, dI) vwCl [(y, .inr (1, [.int (nI 0), .int (nI nD), .int (nI nR), .ref b1, .ref b2, .long now, .ref b3, .ref b4, .ref b5, .int (nI zs.length), .ref b6, .ref b7, .int (nI el), .ref b8, .ref b9, .ref b10])), (b1, .inl (cJ, 512, .inr (.inl vs))), (b2, .inl (cZ, 512, .inl (fun j => bI (ac j)))), (b3, .inl (cI, 8192, .inl (fun j => nI (o j)))), (b4, .inl (cJ, 8192, .inr (.inl mt))), (b5, .inl (cJ, 8192, .inr (.inl mw))), (b6, .inl (cJ, 16, .inr (.inl nv))), (b7, .inl (cJ, 16, .inr (.inl dl))), (b8, .inl (cJ, 8208, .inr (.inl (vp_updL rtc X.length z.2.1)))), (b9, .inl (cJ, 8208, .inr (.inl (vp_updL rvc X.length z.2.2)))), (b10, .inl (cZ, 8208, .inl (fun j => bI (ub mkc X.length (decide (mo = 1 ∨ z.2.1 < now + dl 0 - lm)) j))))] H := hP
                    have hD : va_D A [(y, .inr (1, [.int (nI 0), .int (nI nD), .int (nI nR), .ref b1, .ref b2, .long now, .ref b3, .ref b4, .ref b5, .int (nI zs.length), .ref b6, .ref b7, .int (nI el), .ref b8, .ref b9, .ref b10])), (b1, .inl (cJ, 512, .inr (.inl vs))), (b2, .inl (cZ, 512, .inl (fun j => bI (ac j)))), (b3, .inl (cI, 8192, .inl (fun j => nI (o j)))), (b4, .inl (cJ, 8192, .inr (.inl mt))), (b5, .inl (cJ, 8192, .inr (.inl mw))), (b6, .inl (cJ, 16, .inr (.inl nv))), (b7, .inl (cJ, 16, .inr (.inl dl))), (b8, .inl (cJ, 8208, .inr (.inl (vp_updL rtc X.length z.2.1)))), (b9, .inl (cJ, 8208, .inr (.inl (vp_updL rvc X.length z.2.2)))), (b10, .inl (cZ, 8208, .inl (fun j => bI (ub mkc X.length (decide (mo = 1 ∨ z.2.1 < now + dl 0 - lm)) j))))] := hD
                    refine lv_iinc (v := nI (X.length + 1)) (lv' := [(8, .int (nI (X.length + 1))), (9, .int (nI (c0 + 1))), (0, .ref y), (1, .int (nI d)), (2, .int mo), (3, .long t), (6, .long (now + dl 0)), (10, .int (nI k))]) hx hb dX1_assign_248 hl (k := 6) rfl (nI_1 _) (by decide) rfl (fun ls hl => ?_)
                    refine lv_iinc (v := nI (k + 1)) (lv' := [(10, .int (nI (k + 1))), (8, .int (nI (X.length + 1))), (9, .int (nI (c0 + 1))), (0, .ref y), (1, .int (nI d)), (2, .int mo), (3, .long t), (6, .long (now + dl 0))]) hx hb dX1_assign_251 hl (k := 7) rfl (nI_1 k) (by decide) rfl (fun ls hl => ?_)
                    refine lv_goto (tgt := 139) hx hb dX1_assign_254 (by decide) ?_
                    exact ih (k + 1) (X ++ [(z.2.1, z.2.2, decide (mo = 1 ∨ z.2.1 < now + dl 0 - lm))]) (c0 + 1) _ _ _ H locs ls htl (by omega) (by rw [wz_len]; omega) (by omega) (by rw [← hc]; show _ = _ + ((if z.1 = d then 1 else 0) + wc d tl); rw [if_pos c_O]; omega) (wx_push (z.2.1, z.2.2, decide (mo = 1 ∨ z.2.1 < now + dl 0 - lm)) hX) (by rw [← hXe, List.append_assoc]; show _ = _ ++ (if z.1 = d ∧ z.2.1 < now + dl 0 then (z.2.1, z.2.2, decide (mo = 1 ∨ z.2.1 < now + dl 0 - lm)) :: wro d (now + dl 0) lm mo tl else wro d (now + dl 0) lm mo tl); rw [if_pos ⟨c_O, Int64.not_le.mp c_B⟩]; rfl) hP hD hS (by rw [wz_len]; exact lv_sub hl [3, 4, 5, 6, 7, 1, 2, 0] rfl)
    exact hloop1 zs 0 [] 0 rt rv mk H locs ls rfl (by omega) (Nat.zero_le _) (by omega) (by omega) (fun j e he => by cases he) rfl hP hD hS (lv_sub hl [4, 5, 6, 7, 3, 2, 1, 0] rfl)
  refine lv_aload_n hx hb dX1_assign_0 rfl (lv_at hl 0 rfl) ?_
  refine lv_aload_n hx hb dX1_assign_1 rfl (lv_at hl 0 rfl) ?_
  refine lv_iload_n hx hb dX1_assign_2 rfl (lv_at hl 1 rfl) ?_
  refine vp_callSi (W.runV (As := [.int (nI d)]) (rest := [.ref y]) ⟨hx, hb, hml, hown, hall⟩ (m_none0 l dC dI y b1 b2 b3 b4 b5 b6 b7 b8 b9 b10 cI cJ cZ th nD nR vs ac now o mt mw nv dl el rt rv mk zs hI0 hZ d hd) (cwV 1 hall gX1_60 rfl rfl rfl (by decide +kernel) ⟨Nat.le_of_ble_eq_true rfl, Nat.le_of_ble_eq_true rfl⟩) ⟨xr_blind, va_recv hK hP (ci := 1) (q0 := 0) rfl rfl, fun U hU hW => ⟨rfl, by rw [hU]; exact hP, va_K.moved hW.alike hK⟩⟩ rfl rfl hl.1 rfl (lv_room (Nat.le_of_ble_eq_true rfl)) dX1_assign_3 ⟨by first | exact Nat.zero_le _ | omega, by first | exact Nat.zero_le _ | omega⟩) (fun v_20 hv_21 => ?_)
  subst hv_21
  refine lv_if_eq (tgt := 13) hx hb dX1_assign_6 (by decide) (fun c_22 => ?_) (fun c_22 => ?_)
  · refine lv_aload_n hx hb dX1_assign_13 rfl (lv_at hl 0 rfl) ?_
    refine va_get (D := (dC, dI)) (ci := 1) (v := .int (nI el)) (C := RX1) (T := TX1) (N := 16) hx hb hall inX1 hown hK hP 0 rfl rfl 12 (by decide) (hall _ kw_335) (fun _ h9 => h9) rfl dX1_assign_14 ?_
    refine xz_ne (tgt := 24) hx hb (by omega) dX1_assign_17 (by decide) (fun c_23 => ?_) (fun c_23 => ?_)
    · refine lv_iconst (v := 0) hx hb dX1_assign_24 (by decide) ?_
      refine tp_i (y := nI 0) nI_0.symm ?_
      refine va_put (D := (dC, dI)) (ci := 1) (v := .int (nI 0)) (ty := .int) (C := RX1) (T := TX1) (N := 16) hx hb hall inX1 tyX1 tyX1_ok nmX1 hown hK hP hD hS 0 rfl rfl 0 (by decide) (hall _ kw_323) (fun _ h9 => h9) rfl (by decide +kernel) rfl rfl (Nat.le_of_ble_eq_true rfl) dX1_assign_25 (fun H locs hP hD hS => ?_)
      have hP : va_P (dC, dI) vwCl [(y, .inr (1, [.int (nI 0), .int (nI nD), .int (nI nR), .ref b1, .ref b2, .long now, .ref b3, .ref b4, .ref b5, .int (nI zs.length), .ref b6, .ref b7, .int (nI el), .ref b8, .ref b9, .ref b10])), (b1, .inl (cJ, 512, .inr (.inl vs))), (b2, .inl (cZ, 512, .inl (fun j => bI (ac j)))), (b3, .inl (cI, 8192, .inl (fun j => nI (o j)))), (b4, .inl (cJ, 8192, .inr (.inl mt))), (b5, .inl (cJ, 8192, .inr (.inl mw))), (b6, .inl (cJ, 16, .inr (.inl nv))), (b7, .inl (cJ, 16, .inr (.inl dl))), (b8, .inl (cJ, 8208, .inr (.inl rt))), (b9, .inl (cJ, 8208, .inr (.inl rv))), (b10, .inl (cZ, 8208, .inl (fun j => bI (mk j))))] H := hP
      have hD : va_D A [(y, .inr (1, [.int (nI 0), .int (nI nD), .int (nI nR), .ref b1, .ref b2, .long now, .ref b3, .ref b4, .ref b5, .int (nI zs.length), .ref b6, .ref b7, .int (nI el), .ref b8, .ref b9, .ref b10])), (b1, .inl (cJ, 512, .inr (.inl vs))), (b2, .inl (cZ, 512, .inl (fun j => bI (ac j)))), (b3, .inl (cI, 8192, .inl (fun j => nI (o j)))), (b4, .inl (cJ, 8192, .inr (.inl mt))), (b5, .inl (cJ, 8192, .inr (.inl mw))), (b6, .inl (cJ, 16, .inr (.inl nv))), (b7, .inl (cJ, 16, .inr (.inl dl))), (b8, .inl (cJ, 8208, .inr (.inl rt))), (b9, .inl (cJ, 8208, .inr (.inl rv))), (b10, .inl (cZ, 8208, .inl (fun j => bI (mk j))))] := hD
      refine lv_aload_n hx hb dX1_assign_28 rfl (lv_at hl 0 rfl) ?_
      refine va_get (D := (dC, dI)) (ci := 1) (v := .int (nI 0)) (C := RX1) (T := TX1) (N := 16) hx hb hall inX1 hown hK hP 0 rfl rfl 0 (by decide) (hall _ kw_323) (fun _ h9 => h9) rfl dX1_assign_29 ?_
      refine xz_le (tgt := 37) hx hb (by omega) dX1_assign_32 (by decide) (fun c_24 => ?_) (fun c_24 => ?_)
      · refine lv_iload_n hx hb dX1_assign_37 rfl (lv_at hl 2 rfl) ?_
        refine lv_if_lt (tgt := 80) hx hb dX1_assign_38 (by decide) (fun c_25 => ?_) (fun c_25 => ?_)
        · exact absurd c_25 hg.1.1
        · refine lv_iload_n hx hb dX1_assign_41 rfl (lv_at hl 2 rfl) ?_
          refine lv_iconst (v := 2) hx hb dX1_assign_42 (by decide) ?_
          refine lv_icmp_gt (tgt := 80) hx hb dX1_assign_43 (by decide) (fun c_26 => ?_) (fun c_26 => ?_)
          · exact absurd c_26 hg.1.2
          · refine lv_aload_n hx hb dX1_assign_46 rfl (lv_at hl 0 rfl) ?_
            refine vp_callSi (W.runV (As := []) (rest := []) ⟨hx, hb, hml, hown, hall⟩ (m_rises l dC dI y b1 b2 b3 b4 b5 b6 b7 b8 b9 b10 cI cJ cZ 0 nD nR vs ac now o mt mw nv dl el rt rv mk zs hel) (cwV 0 hall gX1_64 rfl rfl rfl (by decide +kernel) ⟨Nat.le_of_ble_eq_true rfl, Nat.le_of_ble_eq_true rfl⟩) ⟨xr_blind, va_recv hK hP (ci := 1) (q0 := 0) rfl rfl, fun U hU hW => ⟨rfl, by rw [hU]; exact hP, va_K.moved hW.alike hK⟩⟩ rfl rfl hl.1 rfl (lv_room (Nat.le_of_ble_eq_true rfl)) dX1_assign_47 ⟨by first | exact Nat.zero_le _ | omega, by first | exact Nat.zero_le _ | omega⟩) (fun v_27 hv_28 => ?_)
            obtain rfl : v_27 = 1 := hv_28.elim (fun q => q.1) (fun q => absurd hg.2.1 q.2)
            refine lv_if_eq (tgt := 80) hx hb dX1_assign_50 (by decide) (fun c_29 => ?_) (fun c_29 => ?_)
            · exact absurd c_29 (by decide)
            · refine lv_aload_n hx hb dX1_assign_53 rfl (lv_at hl 0 rfl) ?_
              refine va_get (D := (dC, dI)) (ci := 1) (v := .long now) (C := RX1) (T := TX1) (N := 16) hx hb hall inX1 hown hK hP 0 rfl rfl 5 (by decide) (hall _ kw_328) (fun _ h9 => h9) rfl dX1_assign_54 ?_
              refine lv_aload_n hx hb dX1_assign_57 rfl (lv_at hl 0 rfl) ?_
              refine va_get (D := (dC, dI)) (ci := 1) (v := .ref b7) (C := RX1) (T := TX1) (N := 16) hx hb hall inX1 hown hK hP 0 rfl rfl 11 (by decide) (hall _ kw_334) (fun _ h9 => h9) rfl dX1_assign_58 ?_
              refine lv_aload_n hx hb dX1_assign_61 rfl (lv_at hl 0 rfl) ?_
              refine va_get (D := (dC, dI)) (ci := 1) (v := .int (nI el)) (C := RX1) (T := TX1) (N := 16) hx hb hall inX1 hown hK hP 0 rfl rfl 12 (by decide) (hall _ kw_335) (fun _ h9 => h9) rfl dX1_assign_62 ?_
              refine lv_iconst (v := 1) hx hb dX1_assign_65 (by decide) ?_
              refine lv_isub hx hb dX1_assign_66 ?_
              refine tp_i (y := nI (el - 1)) (by rw [show el = (el - 1) + 1 by omega]; exact nI_pred (el - 1)) ?_
              refine xa_lald hx hb hK hP 7 1 rfl rfl (by omega) (by omega) dX1_assign_67 ?_
              refine lv_ladd hx hb dX1_assign_68 ?_
              refine lv_ldc2 (v := 1152921504606846976) hx hb hown (hall _ kw_381) dX1_assign_69 ?_
              refine xl_gt (tgt := 80) hx hb dX1_assign_72 dX1_assign_73 (by decide) (fun c_30 => ?_) (fun c_30 => ?_)
              · exact absurd c_30 hg.2.2.1
              · refine lv_iconst (v := 1) hx hb dX1_assign_76 (by decide) ?_
                refine lv_goto (tgt := 81) hx hb dX1_assign_77 (by decide) ?_
                refine lv_istore (lv' := [(5, .int 1), (0, .ref y), (1, .int (nI d)), (2, .int mo), (3, .long t)]) hx hb dX1_assign_81 hl (by decide) rfl (fun ls hl => ?_)
                refine lv_iload hx hb dX1_assign_83 (lv_at hl 0 rfl) ?_
                refine lv_if_eq (tgt := 110) hx hb dX1_assign_85 (by decide) (fun c_31 => ?_) (fun c_31 => ?_)
                · exact absurd c_31 (by decide)
                · refine lv_iload_n hx hb dX1_assign_88 rfl (lv_at hl 3 rfl) ?_
                  refine lv_iconst (v := 2) hx hb dX1_assign_89 (by decide) ?_
                  refine lv_icmp_ne (tgt := 117) hx hb dX1_assign_90 (by decide) (fun c_32 => ?_) (fun c_32 => ?_)
                  · have c_D := c_32
                    exact h117 H locs hP hD hS ls (lv_sub hl [1, 2, 3, 4] rfl)
                  · have c_D := c_32
                    refine lv_lload_n hx hb dX1_assign_93 rfl (lv_at hl 4 rfl) ?_
                    refine lv_lconst (v := 0) hx hb dX1_assign_94 (by decide) ?_
                    refine xl_lt (tgt := 110) hx hb dX1_assign_95 dX1_assign_96 (by decide) (fun c_33 => ?_) (fun c_33 => ?_)
                    · exact absurd ⟨c_D, Or.inl c_33⟩ hg.2.2.2
                    · refine lv_lload_n hx hb dX1_assign_99 rfl (lv_at hl 4 rfl) ?_
                      refine lv_aload_n hx hb dX1_assign_100 rfl (lv_at hl 1 rfl) ?_
                      refine va_get (D := (dC, dI)) (ci := 1) (v := .ref b7) (C := RX1) (T := TX1) (N := 16) hx hb hall inX1 hown hK hP 0 rfl rfl 11 (by decide) (hall _ kw_334) (fun _ h9 => h9) rfl dX1_assign_101 ?_
                      refine lv_iconst (v := 0) hx hb dX1_assign_104 (by decide) ?_
                      refine tp_i (y := nI 0) nI_0.symm ?_
                      refine xa_lald hx hb hK hP 7 1 rfl rfl (by omega) (by omega) dX1_assign_105 ?_
                      refine xl_le (tgt := 117) hx hb dX1_assign_106 dX1_assign_107 (by decide) (fun c_34 => ?_) (fun c_34 => ?_)
                      · exact h117 H locs hP hD hS ls (lv_sub hl [1, 2, 3, 4] rfl)
                      · exact absurd ⟨c_D, Or.inr (Int64.not_le.mp c_34)⟩ hg.2.2.2
      · exact absurd c_24 (by omega)
    · exact absurd c_23 (by omega)
  · exact absurd rfl c_22
set_option maxHeartbeats 4000000 in
set_option maxRecDepth 100000 in
theorem m_init (l : Launch) (dC : Nat → ClassId) (dI : Nat → Nat → Nat) (y : Nat) (sz : Nat) (i j : Int32) (nD nR : Nat) (hi : wf_in i 512 512 64 nD) (hj : wf_in j 8192 8192 1024 nR) : Met l yX1_init wsX1_init ({ frames := 1, cells := 10, slots := 50256, locals := 60 }) (va_Pc [.ref y, .int i, .int j] (fun U => U.heap.size = sz ∧ va_P (dC, dI) vwCl [(y, .inr (1, [.int (nI 0), .int 0, .int 0, .null, .null, .long 0, .null, .null, .null, .int (nI 0), .null, .null, .int (nI 0), .null, .null, .null]))] U.heap ∧ va_K (dC, dI) vwCl [] U ∧ va_D (fun _ => True) [(y, .inr (1, [.int (nI 0), .int 0, .int 0, .null, .null, .long 0, .null, .null, .null, .int (nI 0), .null, .null, .int (nI 0), .null, .null, .null]))])) (va_Qv (fun _ : Unit => True) (fun _ t9 => ∃ (b1 b2 b3 b4 b5 b6 b7 b8 b9 b10 : Nat) (cI cJ cZ : ClassId), va_P (dC, dI) vwCl (wm y b1 b2 b3 b4 b5 b6 b7 b8 b9 b10 cI cJ cZ 0 nD nR (fun _ => 0) (fun _ => false) 0 (fun _ => 0) (fun _ => 0) (fun _ => 0) 0 (fun _ => 0) (fun _ => 0) 0 (fun _ => 0) (fun _ => 0) (fun _ => false)) t9.heap ∧ va_K (dC, dI) vwCl [(cI, .int), (cJ, .long), (cZ, .boolean)] t9 ∧ va_D (va_A [(y, .inr (1, [.int (nI 0), .int 0, .int 0, .null, .null, .long 0, .null, .null, .null, .int (nI 0), .null, .null, .int (nI 0), .null, .null, .null]))] sz) (wm y b1 b2 b3 b4 b5 b6 b7 b8 b9 b10 cI cJ cZ 0 nD nR (fun _ => 0) (fun _ => false) 0 (fun _ => 0) (fun _ => 0) (fun _ => 0) 0 (fun _ => 0) (fun _ => 0) 0 (fun _ => 0) (fun _ => 0) (fun _ => false))) (va_A [(y, .inr (1, [.int (nI 0), .int 0, .int 0, .null, .null, .long 0, .null, .null, .null, .int (nI 0), .null, .null, .int (nI 0), .null, .null, .null]))] sz)) 10 50256 (va_A [(y, .inr (1, [.int (nI 0), .int 0, .int 0, .null, .null, .long 0, .null, .null, .null, .int (nI 0), .null, .null, .int (nI 0), .null, .null, .null]))] sz) := by
  refine Met.ofW (cc := cX1_init) (maxL := 3) (ret := none) (by decide) rfl ?_
  intro p e s m args below meth c s₁ B hml hv
  obtain ⟨rfl, hsz, hP, hK, hD0⟩ := hv
  subst hsz
  have hD := hD0.self (sz := s.heap.size)
  generalize hAe : va_A [(y, .inr (1, [.int (nI 0), .int 0, .int 0, .null, .null, .long 0, .null, .null, .null, .int (nI 0), .null, .null, .int (nI 0), .null, .null, .null]))] s.heap.size = A at hD ⊢
  have hA : ∀ q : Nat, s.heap.size ≤ q → A q := fun q h => by rw [← hAe]; exact Or.inr h
  have hS : va_S A s.heap s.heap [] := va_S.rf
  have hx := B.exec
  have hb := B.bytes
  have hr := B.returns
  have hts := atoms_spec (ws := wsX1_init) B.pre
  have hown : s.vm.findClass RX1 = some m.cls := findClass_of_methodNamed B.named
  have hlocks := B.notSynchronized
  have hall := fun (w : Cond) (h : w ∈ allw) => hts w (List.mem_cons_of_mem _ h)
  have hl := lv_entry ([.ref y, .int i, .int j]) (n := 3) (Nat.le_of_ble_eq_true rfl)
  rw [lg_entry_eq]
  generalize (lg_sl ([.ref y, .int i, .int j]) ++ List.replicate (3 - (lg_sl ([.ref y, .int i, .int j])).length) Slot.unset).toArray = ls at hl ⊢
  have hl : lv_has ls 3 [(0, .ref y), (1, .int i), (2, .int j)] := hl
  have hin9 : meth.name = "<init>" := (name_of_methodNamed B.named B.method).1
  refine lv_aload_n hx hb dX1_init_0 rfl (lv_at hl 0 rfl) ?_
  refine W.objInit hx hb hown (hall _ kw_322) (hall _ kw_18) (hall _ kw_19) rfl (by rw [hml]; exact hl.1) rfl dX1_init_1 (Nat.le_of_ble_eq_true rfl) (Nat.le_of_ble_eq_true rfl) ?_
  refine W.eq (g2 := F0 m 4 ls []) rfl ?_
  refine lv_aload_n hx hb dX1_init_4 rfl (lv_at hl 0 rfl) ?_
  refine lv_sipush (v := 512) hx hb dX1_init_5 (by decide) ?_
  refine tp_i (y := nI 512) (by decide) ?_
  refine xa_newl (N := 512) hx hb (hall _ kw_60) hK hP hD hS hA (by omega) (by show _ ≤ 10; omega) (by show _ ≤ 50256; omega) dX1_init_8 (fun b1 cJ H hK hP hD hS => ?_)
  have hP : va_P (dC, dI) vwCl [(y, .inr (1, [.int (nI 0), .int 0, .int 0, .null, .null, .long 0, .null, .null, .null, .int (nI 0), .null, .null, .int (nI 0), .null, .null, .null])), (b1, .inl (cJ, 512, .inr (.inl (fun _ => 0))))] H := hP
  have hD : va_D A [(y, .inr (1, [.int (nI 0), .int 0, .int 0, .null, .null, .long 0, .null, .null, .null, .int (nI 0), .null, .null, .int (nI 0), .null, .null, .null])), (b1, .inl (cJ, 512, .inr (.inl (fun _ => 0))))] := hD
  refine va_putF (D := (dC, dI)) (ci := 1) (v := .ref b1) (ty := (.array .long)) (C := RX1) (T := TX1) (N := 16) hx hb hall inX1 tyX1 tyX1_ok nmX1 hown hK hP hD hS 0 rfl rfl 3 (by decide) (hall _ kw_326) (fun _ h9 => h9) rfl hin9 rfl (by decide +kernel) rfl rfl (Nat.le_of_ble_eq_true rfl) dX1_init_10 (fun H locs hP hD hS => ?_)
  have hP : va_P (dC, dI) vwCl [(y, .inr (1, [.int (nI 0), .int 0, .int 0, .ref b1, .null, .long 0, .null, .null, .null, .int (nI 0), .null, .null, .int (nI 0), .null, .null, .null])), (b1, .inl (cJ, 512, .inr (.inl (fun _ => 0))))] H := hP
  have hD : va_D A [(y, .inr (1, [.int (nI 0), .int 0, .int 0, .ref b1, .null, .long 0, .null, .null, .null, .int (nI 0), .null, .null, .int (nI 0), .null, .null, .null])), (b1, .inl (cJ, 512, .inr (.inl (fun _ => 0))))] := hD
  refine lv_aload_n hx hb dX1_init_13 rfl (lv_at hl 0 rfl) ?_
  refine lv_sipush (v := 512) hx hb dX1_init_14 (by decide) ?_
  refine tp_i (y := nI 512) (by decide) ?_
  refine xa_newz (N := 512) hx hb (hall _ kw_372) hK hP hD hS hA (by omega) (by show _ ≤ 10; omega) (by show _ ≤ 50256; omega) dX1_init_17 (fun b2 cZ H hK hP hD hS => ?_)
  have hP : va_P (dC, dI) vwCl [(y, .inr (1, [.int (nI 0), .int 0, .int 0, .ref b1, .null, .long 0, .null, .null, .null, .int (nI 0), .null, .null, .int (nI 0), .null, .null, .null])), (b1, .inl (cJ, 512, .inr (.inl (fun _ => 0)))), (b2, .inl (cZ, 512, .inl (fun _ => 0)))] H := hP
  have hD : va_D A [(y, .inr (1, [.int (nI 0), .int 0, .int 0, .ref b1, .null, .long 0, .null, .null, .null, .int (nI 0), .null, .null, .int (nI 0), .null, .null, .null])), (b1, .inl (cJ, 512, .inr (.inl (fun _ => 0)))), (b2, .inl (cZ, 512, .inl (fun _ => 0)))] := hD
  refine va_putF (D := (dC, dI)) (ci := 1) (v := .ref b2) (ty := (.array .boolean)) (C := RX1) (T := TX1) (N := 16) hx hb hall inX1 tyX1 tyX1_ok nmX1 hown hK hP hD hS 0 rfl rfl 4 (by decide) (hall _ kw_327) (fun _ h9 => h9) rfl hin9 rfl (by decide +kernel) rfl rfl (Nat.le_of_ble_eq_true rfl) dX1_init_19 (fun H locs hP hD hS => ?_)
  have hP : va_P (dC, dI) vwCl [(y, .inr (1, [.int (nI 0), .int 0, .int 0, .ref b1, .ref b2, .long 0, .null, .null, .null, .int (nI 0), .null, .null, .int (nI 0), .null, .null, .null])), (b1, .inl (cJ, 512, .inr (.inl (fun _ => 0)))), (b2, .inl (cZ, 512, .inl (fun _ => 0)))] H := hP
  have hD : va_D A [(y, .inr (1, [.int (nI 0), .int 0, .int 0, .ref b1, .ref b2, .long 0, .null, .null, .null, .int (nI 0), .null, .null, .int (nI 0), .null, .null, .null])), (b1, .inl (cJ, 512, .inr (.inl (fun _ => 0)))), (b2, .inl (cZ, 512, .inl (fun _ => 0)))] := hD
  refine lv_aload_n hx hb dX1_init_22 rfl (lv_at hl 0 rfl) ?_
  refine lv_sipush (v := 8192) hx hb dX1_init_23 (by decide) ?_
  refine tp_i (y := nI 8192) (by decide) ?_
  refine xa_newi (N := 8192) hx hb (hall _ kw_61) hK hP hD hS hA (by omega) (by show _ ≤ 10; omega) (by show _ ≤ 50256; omega) dX1_init_26 (fun b3 cI H hK hP hD hS => ?_)
  have hP : va_P (dC, dI) vwCl [(y, .inr (1, [.int (nI 0), .int 0, .int 0, .ref b1, .ref b2, .long 0, .null, .null, .null, .int (nI 0), .null, .null, .int (nI 0), .null, .null, .null])), (b1, .inl (cJ, 512, .inr (.inl (fun _ => 0)))), (b2, .inl (cZ, 512, .inl (fun _ => 0))), (b3, .inl (cI, 8192, .inl (fun _ => 0)))] H := hP
  have hD : va_D A [(y, .inr (1, [.int (nI 0), .int 0, .int 0, .ref b1, .ref b2, .long 0, .null, .null, .null, .int (nI 0), .null, .null, .int (nI 0), .null, .null, .null])), (b1, .inl (cJ, 512, .inr (.inl (fun _ => 0)))), (b2, .inl (cZ, 512, .inl (fun _ => 0))), (b3, .inl (cI, 8192, .inl (fun _ => 0)))] := hD
  refine va_putF (D := (dC, dI)) (ci := 1) (v := .ref b3) (ty := (.array .int)) (C := RX1) (T := TX1) (N := 16) hx hb hall inX1 tyX1 tyX1_ok nmX1 hown hK hP hD hS 0 rfl rfl 6 (by decide) (hall _ kw_329) (fun _ h9 => h9) rfl hin9 rfl (by decide +kernel) rfl rfl (Nat.le_of_ble_eq_true rfl) dX1_init_28 (fun H locs hP hD hS => ?_)
  have hP : va_P (dC, dI) vwCl [(y, .inr (1, [.int (nI 0), .int 0, .int 0, .ref b1, .ref b2, .long 0, .ref b3, .null, .null, .int (nI 0), .null, .null, .int (nI 0), .null, .null, .null])), (b1, .inl (cJ, 512, .inr (.inl (fun _ => 0)))), (b2, .inl (cZ, 512, .inl (fun _ => 0))), (b3, .inl (cI, 8192, .inl (fun _ => 0)))] H := hP
  have hD : va_D A [(y, .inr (1, [.int (nI 0), .int 0, .int 0, .ref b1, .ref b2, .long 0, .ref b3, .null, .null, .int (nI 0), .null, .null, .int (nI 0), .null, .null, .null])), (b1, .inl (cJ, 512, .inr (.inl (fun _ => 0)))), (b2, .inl (cZ, 512, .inl (fun _ => 0))), (b3, .inl (cI, 8192, .inl (fun _ => 0)))] := hD
  refine lv_aload_n hx hb dX1_init_31 rfl (lv_at hl 0 rfl) ?_
  refine lv_sipush (v := 8192) hx hb dX1_init_32 (by decide) ?_
  refine tp_i (y := nI 8192) (by decide) ?_
  refine xa_newl (N := 8192) hx hb (hall _ kw_60) hK hP hD hS hA (by omega) (by show _ ≤ 10; omega) (by show _ ≤ 50256; omega) dX1_init_35 (fun b4 cA H hK hP hD hS => ?_)
  obtain rfl : cJ = cA := xk_sameL hK (t1 := 0) (t2 := 3) rfl rfl
  have hK := hK.sub (tys' := [(cJ, .long), (cZ, .boolean), (cI, .int)]) [0, 1, 2] rfl
  have hP : va_P (dC, dI) vwCl [(y, .inr (1, [.int (nI 0), .int 0, .int 0, .ref b1, .ref b2, .long 0, .ref b3, .null, .null, .int (nI 0), .null, .null, .int (nI 0), .null, .null, .null])), (b1, .inl (cJ, 512, .inr (.inl (fun _ => 0)))), (b2, .inl (cZ, 512, .inl (fun _ => 0))), (b3, .inl (cI, 8192, .inl (fun _ => 0))), (b4, .inl (cJ, 8192, .inr (.inl (fun _ => 0))))] H := hP
  have hD : va_D A [(y, .inr (1, [.int (nI 0), .int 0, .int 0, .ref b1, .ref b2, .long 0, .ref b3, .null, .null, .int (nI 0), .null, .null, .int (nI 0), .null, .null, .null])), (b1, .inl (cJ, 512, .inr (.inl (fun _ => 0)))), (b2, .inl (cZ, 512, .inl (fun _ => 0))), (b3, .inl (cI, 8192, .inl (fun _ => 0))), (b4, .inl (cJ, 8192, .inr (.inl (fun _ => 0))))] := hD
  refine va_putF (D := (dC, dI)) (ci := 1) (v := .ref b4) (ty := (.array .long)) (C := RX1) (T := TX1) (N := 16) hx hb hall inX1 tyX1 tyX1_ok nmX1 hown hK hP hD hS 0 rfl rfl 7 (by decide) (hall _ kw_330) (fun _ h9 => h9) rfl hin9 rfl (by decide +kernel) rfl rfl (Nat.le_of_ble_eq_true rfl) dX1_init_37 (fun H locs hP hD hS => ?_)
  have hP : va_P (dC, dI) vwCl [(y, .inr (1, [.int (nI 0), .int 0, .int 0, .ref b1, .ref b2, .long 0, .ref b3, .ref b4, .null, .int (nI 0), .null, .null, .int (nI 0), .null, .null, .null])), (b1, .inl (cJ, 512, .inr (.inl (fun _ => 0)))), (b2, .inl (cZ, 512, .inl (fun _ => 0))), (b3, .inl (cI, 8192, .inl (fun _ => 0))), (b4, .inl (cJ, 8192, .inr (.inl (fun _ => 0))))] H := hP
  have hD : va_D A [(y, .inr (1, [.int (nI 0), .int 0, .int 0, .ref b1, .ref b2, .long 0, .ref b3, .ref b4, .null, .int (nI 0), .null, .null, .int (nI 0), .null, .null, .null])), (b1, .inl (cJ, 512, .inr (.inl (fun _ => 0)))), (b2, .inl (cZ, 512, .inl (fun _ => 0))), (b3, .inl (cI, 8192, .inl (fun _ => 0))), (b4, .inl (cJ, 8192, .inr (.inl (fun _ => 0))))] := hD
  refine lv_aload_n hx hb dX1_init_40 rfl (lv_at hl 0 rfl) ?_
  refine lv_sipush (v := 8192) hx hb dX1_init_41 (by decide) ?_
  refine tp_i (y := nI 8192) (by decide) ?_
  refine xa_newl (N := 8192) hx hb (hall _ kw_60) hK hP hD hS hA (by omega) (by show _ ≤ 10; omega) (by show _ ≤ 50256; omega) dX1_init_44 (fun b5 cA H hK hP hD hS => ?_)
  obtain rfl : cJ = cA := xk_sameL hK (t1 := 0) (t2 := 3) rfl rfl
  have hK := hK.sub (tys' := [(cJ, .long), (cZ, .boolean), (cI, .int)]) [0, 1, 2] rfl
  have hP : va_P (dC, dI) vwCl [(y, .inr (1, [.int (nI 0), .int 0, .int 0, .ref b1, .ref b2, .long 0, .ref b3, .ref b4, .null, .int (nI 0), .null, .null, .int (nI 0), .null, .null, .null])), (b1, .inl (cJ, 512, .inr (.inl (fun _ => 0)))), (b2, .inl (cZ, 512, .inl (fun _ => 0))), (b3, .inl (cI, 8192, .inl (fun _ => 0))), (b4, .inl (cJ, 8192, .inr (.inl (fun _ => 0)))), (b5, .inl (cJ, 8192, .inr (.inl (fun _ => 0))))] H := hP
  have hD : va_D A [(y, .inr (1, [.int (nI 0), .int 0, .int 0, .ref b1, .ref b2, .long 0, .ref b3, .ref b4, .null, .int (nI 0), .null, .null, .int (nI 0), .null, .null, .null])), (b1, .inl (cJ, 512, .inr (.inl (fun _ => 0)))), (b2, .inl (cZ, 512, .inl (fun _ => 0))), (b3, .inl (cI, 8192, .inl (fun _ => 0))), (b4, .inl (cJ, 8192, .inr (.inl (fun _ => 0)))), (b5, .inl (cJ, 8192, .inr (.inl (fun _ => 0))))] := hD
  refine va_putF (D := (dC, dI)) (ci := 1) (v := .ref b5) (ty := (.array .long)) (C := RX1) (T := TX1) (N := 16) hx hb hall inX1 tyX1 tyX1_ok nmX1 hown hK hP hD hS 0 rfl rfl 8 (by decide) (hall _ kw_331) (fun _ h9 => h9) rfl hin9 rfl (by decide +kernel) rfl rfl (Nat.le_of_ble_eq_true rfl) dX1_init_46 (fun H locs hP hD hS => ?_)
  have hP : va_P (dC, dI) vwCl [(y, .inr (1, [.int (nI 0), .int 0, .int 0, .ref b1, .ref b2, .long 0, .ref b3, .ref b4, .ref b5, .int (nI 0), .null, .null, .int (nI 0), .null, .null, .null])), (b1, .inl (cJ, 512, .inr (.inl (fun _ => 0)))), (b2, .inl (cZ, 512, .inl (fun _ => 0))), (b3, .inl (cI, 8192, .inl (fun _ => 0))), (b4, .inl (cJ, 8192, .inr (.inl (fun _ => 0)))), (b5, .inl (cJ, 8192, .inr (.inl (fun _ => 0))))] H := hP
  have hD : va_D A [(y, .inr (1, [.int (nI 0), .int 0, .int 0, .ref b1, .ref b2, .long 0, .ref b3, .ref b4, .ref b5, .int (nI 0), .null, .null, .int (nI 0), .null, .null, .null])), (b1, .inl (cJ, 512, .inr (.inl (fun _ => 0)))), (b2, .inl (cZ, 512, .inl (fun _ => 0))), (b3, .inl (cI, 8192, .inl (fun _ => 0))), (b4, .inl (cJ, 8192, .inr (.inl (fun _ => 0)))), (b5, .inl (cJ, 8192, .inr (.inl (fun _ => 0))))] := hD
  refine lv_aload_n hx hb dX1_init_49 rfl (lv_at hl 0 rfl) ?_
  refine lv_bipush (v := 16) hx hb dX1_init_50 (by decide) ?_
  refine tp_i (y := nI 16) (by decide) ?_
  refine xa_newl (N := 16) hx hb (hall _ kw_60) hK hP hD hS hA (by omega) (by show _ ≤ 10; omega) (by show _ ≤ 50256; omega) dX1_init_52 (fun b6 cA H hK hP hD hS => ?_)
  obtain rfl : cJ = cA := xk_sameL hK (t1 := 0) (t2 := 3) rfl rfl
  have hK := hK.sub (tys' := [(cJ, .long), (cZ, .boolean), (cI, .int)]) [0, 1, 2] rfl
  have hP : va_P (dC, dI) vwCl [(y, .inr (1, [.int (nI 0), .int 0, .int 0, .ref b1, .ref b2, .long 0, .ref b3, .ref b4, .ref b5, .int (nI 0), .null, .null, .int (nI 0), .null, .null, .null])), (b1, .inl (cJ, 512, .inr (.inl (fun _ => 0)))), (b2, .inl (cZ, 512, .inl (fun _ => 0))), (b3, .inl (cI, 8192, .inl (fun _ => 0))), (b4, .inl (cJ, 8192, .inr (.inl (fun _ => 0)))), (b5, .inl (cJ, 8192, .inr (.inl (fun _ => 0)))), (b6, .inl (cJ, 16, .inr (.inl (fun _ => 0))))] H := hP
  have hD : va_D A [(y, .inr (1, [.int (nI 0), .int 0, .int 0, .ref b1, .ref b2, .long 0, .ref b3, .ref b4, .ref b5, .int (nI 0), .null, .null, .int (nI 0), .null, .null, .null])), (b1, .inl (cJ, 512, .inr (.inl (fun _ => 0)))), (b2, .inl (cZ, 512, .inl (fun _ => 0))), (b3, .inl (cI, 8192, .inl (fun _ => 0))), (b4, .inl (cJ, 8192, .inr (.inl (fun _ => 0)))), (b5, .inl (cJ, 8192, .inr (.inl (fun _ => 0)))), (b6, .inl (cJ, 16, .inr (.inl (fun _ => 0))))] := hD
  refine va_putF (D := (dC, dI)) (ci := 1) (v := .ref b6) (ty := (.array .long)) (C := RX1) (T := TX1) (N := 16) hx hb hall inX1 tyX1 tyX1_ok nmX1 hown hK hP hD hS 0 rfl rfl 10 (by decide) (hall _ kw_333) (fun _ h9 => h9) rfl hin9 rfl (by decide +kernel) rfl rfl (Nat.le_of_ble_eq_true rfl) dX1_init_54 (fun H locs hP hD hS => ?_)
  have hP : va_P (dC, dI) vwCl [(y, .inr (1, [.int (nI 0), .int 0, .int 0, .ref b1, .ref b2, .long 0, .ref b3, .ref b4, .ref b5, .int (nI 0), .ref b6, .null, .int (nI 0), .null, .null, .null])), (b1, .inl (cJ, 512, .inr (.inl (fun _ => 0)))), (b2, .inl (cZ, 512, .inl (fun _ => 0))), (b3, .inl (cI, 8192, .inl (fun _ => 0))), (b4, .inl (cJ, 8192, .inr (.inl (fun _ => 0)))), (b5, .inl (cJ, 8192, .inr (.inl (fun _ => 0)))), (b6, .inl (cJ, 16, .inr (.inl (fun _ => 0))))] H := hP
  have hD : va_D A [(y, .inr (1, [.int (nI 0), .int 0, .int 0, .ref b1, .ref b2, .long 0, .ref b3, .ref b4, .ref b5, .int (nI 0), .ref b6, .null, .int (nI 0), .null, .null, .null])), (b1, .inl (cJ, 512, .inr (.inl (fun _ => 0)))), (b2, .inl (cZ, 512, .inl (fun _ => 0))), (b3, .inl (cI, 8192, .inl (fun _ => 0))), (b4, .inl (cJ, 8192, .inr (.inl (fun _ => 0)))), (b5, .inl (cJ, 8192, .inr (.inl (fun _ => 0)))), (b6, .inl (cJ, 16, .inr (.inl (fun _ => 0))))] := hD
  refine lv_aload_n hx hb dX1_init_57 rfl (lv_at hl 0 rfl) ?_
  refine lv_bipush (v := 16) hx hb dX1_init_58 (by decide) ?_
  refine tp_i (y := nI 16) (by decide) ?_
  refine xa_newl (N := 16) hx hb (hall _ kw_60) hK hP hD hS hA (by omega) (by show _ ≤ 10; omega) (by show _ ≤ 50256; omega) dX1_init_60 (fun b7 cA H hK hP hD hS => ?_)
  obtain rfl : cJ = cA := xk_sameL hK (t1 := 0) (t2 := 3) rfl rfl
  have hK := hK.sub (tys' := [(cJ, .long), (cZ, .boolean), (cI, .int)]) [0, 1, 2] rfl
  have hP : va_P (dC, dI) vwCl [(y, .inr (1, [.int (nI 0), .int 0, .int 0, .ref b1, .ref b2, .long 0, .ref b3, .ref b4, .ref b5, .int (nI 0), .ref b6, .null, .int (nI 0), .null, .null, .null])), (b1, .inl (cJ, 512, .inr (.inl (fun _ => 0)))), (b2, .inl (cZ, 512, .inl (fun _ => 0))), (b3, .inl (cI, 8192, .inl (fun _ => 0))), (b4, .inl (cJ, 8192, .inr (.inl (fun _ => 0)))), (b5, .inl (cJ, 8192, .inr (.inl (fun _ => 0)))), (b6, .inl (cJ, 16, .inr (.inl (fun _ => 0)))), (b7, .inl (cJ, 16, .inr (.inl (fun _ => 0))))] H := hP
  have hD : va_D A [(y, .inr (1, [.int (nI 0), .int 0, .int 0, .ref b1, .ref b2, .long 0, .ref b3, .ref b4, .ref b5, .int (nI 0), .ref b6, .null, .int (nI 0), .null, .null, .null])), (b1, .inl (cJ, 512, .inr (.inl (fun _ => 0)))), (b2, .inl (cZ, 512, .inl (fun _ => 0))), (b3, .inl (cI, 8192, .inl (fun _ => 0))), (b4, .inl (cJ, 8192, .inr (.inl (fun _ => 0)))), (b5, .inl (cJ, 8192, .inr (.inl (fun _ => 0)))), (b6, .inl (cJ, 16, .inr (.inl (fun _ => 0)))), (b7, .inl (cJ, 16, .inr (.inl (fun _ => 0))))] := hD
  refine va_putF (D := (dC, dI)) (ci := 1) (v := .ref b7) (ty := (.array .long)) (C := RX1) (T := TX1) (N := 16) hx hb hall inX1 tyX1 tyX1_ok nmX1 hown hK hP hD hS 0 rfl rfl 11 (by decide) (hall _ kw_334) (fun _ h9 => h9) rfl hin9 rfl (by decide +kernel) rfl rfl (Nat.le_of_ble_eq_true rfl) dX1_init_62 (fun H locs hP hD hS => ?_)
  have hP : va_P (dC, dI) vwCl [(y, .inr (1, [.int (nI 0), .int 0, .int 0, .ref b1, .ref b2, .long 0, .ref b3, .ref b4, .ref b5, .int (nI 0), .ref b6, .ref b7, .int (nI 0), .null, .null, .null])), (b1, .inl (cJ, 512, .inr (.inl (fun _ => 0)))), (b2, .inl (cZ, 512, .inl (fun _ => 0))), (b3, .inl (cI, 8192, .inl (fun _ => 0))), (b4, .inl (cJ, 8192, .inr (.inl (fun _ => 0)))), (b5, .inl (cJ, 8192, .inr (.inl (fun _ => 0)))), (b6, .inl (cJ, 16, .inr (.inl (fun _ => 0)))), (b7, .inl (cJ, 16, .inr (.inl (fun _ => 0))))] H := hP
  have hD : va_D A [(y, .inr (1, [.int (nI 0), .int 0, .int 0, .ref b1, .ref b2, .long 0, .ref b3, .ref b4, .ref b5, .int (nI 0), .ref b6, .ref b7, .int (nI 0), .null, .null, .null])), (b1, .inl (cJ, 512, .inr (.inl (fun _ => 0)))), (b2, .inl (cZ, 512, .inl (fun _ => 0))), (b3, .inl (cI, 8192, .inl (fun _ => 0))), (b4, .inl (cJ, 8192, .inr (.inl (fun _ => 0)))), (b5, .inl (cJ, 8192, .inr (.inl (fun _ => 0)))), (b6, .inl (cJ, 16, .inr (.inl (fun _ => 0)))), (b7, .inl (cJ, 16, .inr (.inl (fun _ => 0))))] := hD
  refine lv_aload_n hx hb dX1_init_65 rfl (lv_at hl 0 rfl) ?_
  refine lv_sipush (v := 8208) hx hb dX1_init_66 (by decide) ?_
  refine tp_i (y := nI 8208) (by decide) ?_
  refine xa_newl (N := 8208) hx hb (hall _ kw_60) hK hP hD hS hA (by omega) (by show _ ≤ 10; omega) (by show _ ≤ 50256; omega) dX1_init_69 (fun b8 cA H hK hP hD hS => ?_)
  obtain rfl : cJ = cA := xk_sameL hK (t1 := 0) (t2 := 3) rfl rfl
  have hK := hK.sub (tys' := [(cJ, .long), (cZ, .boolean), (cI, .int)]) [0, 1, 2] rfl
  have hP : va_P (dC, dI) vwCl [(y, .inr (1, [.int (nI 0), .int 0, .int 0, .ref b1, .ref b2, .long 0, .ref b3, .ref b4, .ref b5, .int (nI 0), .ref b6, .ref b7, .int (nI 0), .null, .null, .null])), (b1, .inl (cJ, 512, .inr (.inl (fun _ => 0)))), (b2, .inl (cZ, 512, .inl (fun _ => 0))), (b3, .inl (cI, 8192, .inl (fun _ => 0))), (b4, .inl (cJ, 8192, .inr (.inl (fun _ => 0)))), (b5, .inl (cJ, 8192, .inr (.inl (fun _ => 0)))), (b6, .inl (cJ, 16, .inr (.inl (fun _ => 0)))), (b7, .inl (cJ, 16, .inr (.inl (fun _ => 0)))), (b8, .inl (cJ, 8208, .inr (.inl (fun _ => 0))))] H := hP
  have hD : va_D A [(y, .inr (1, [.int (nI 0), .int 0, .int 0, .ref b1, .ref b2, .long 0, .ref b3, .ref b4, .ref b5, .int (nI 0), .ref b6, .ref b7, .int (nI 0), .null, .null, .null])), (b1, .inl (cJ, 512, .inr (.inl (fun _ => 0)))), (b2, .inl (cZ, 512, .inl (fun _ => 0))), (b3, .inl (cI, 8192, .inl (fun _ => 0))), (b4, .inl (cJ, 8192, .inr (.inl (fun _ => 0)))), (b5, .inl (cJ, 8192, .inr (.inl (fun _ => 0)))), (b6, .inl (cJ, 16, .inr (.inl (fun _ => 0)))), (b7, .inl (cJ, 16, .inr (.inl (fun _ => 0)))), (b8, .inl (cJ, 8208, .inr (.inl (fun _ => 0))))] := hD
  refine va_putF (D := (dC, dI)) (ci := 1) (v := .ref b8) (ty := (.array .long)) (C := RX1) (T := TX1) (N := 16) hx hb hall inX1 tyX1 tyX1_ok nmX1 hown hK hP hD hS 0 rfl rfl 13 (by decide) (hall _ kw_336) (fun _ h9 => h9) rfl hin9 rfl (by decide +kernel) rfl rfl (Nat.le_of_ble_eq_true rfl) dX1_init_71 (fun H locs hP hD hS => ?_)
  have hP : va_P (dC, dI) vwCl [(y, .inr (1, [.int (nI 0), .int 0, .int 0, .ref b1, .ref b2, .long 0, .ref b3, .ref b4, .ref b5, .int (nI 0), .ref b6, .ref b7, .int (nI 0), .ref b8, .null, .null])), (b1, .inl (cJ, 512, .inr (.inl (fun _ => 0)))), (b2, .inl (cZ, 512, .inl (fun _ => 0))), (b3, .inl (cI, 8192, .inl (fun _ => 0))), (b4, .inl (cJ, 8192, .inr (.inl (fun _ => 0)))), (b5, .inl (cJ, 8192, .inr (.inl (fun _ => 0)))), (b6, .inl (cJ, 16, .inr (.inl (fun _ => 0)))), (b7, .inl (cJ, 16, .inr (.inl (fun _ => 0)))), (b8, .inl (cJ, 8208, .inr (.inl (fun _ => 0))))] H := hP
  have hD : va_D A [(y, .inr (1, [.int (nI 0), .int 0, .int 0, .ref b1, .ref b2, .long 0, .ref b3, .ref b4, .ref b5, .int (nI 0), .ref b6, .ref b7, .int (nI 0), .ref b8, .null, .null])), (b1, .inl (cJ, 512, .inr (.inl (fun _ => 0)))), (b2, .inl (cZ, 512, .inl (fun _ => 0))), (b3, .inl (cI, 8192, .inl (fun _ => 0))), (b4, .inl (cJ, 8192, .inr (.inl (fun _ => 0)))), (b5, .inl (cJ, 8192, .inr (.inl (fun _ => 0)))), (b6, .inl (cJ, 16, .inr (.inl (fun _ => 0)))), (b7, .inl (cJ, 16, .inr (.inl (fun _ => 0)))), (b8, .inl (cJ, 8208, .inr (.inl (fun _ => 0))))] := hD
  refine lv_aload_n hx hb dX1_init_74 rfl (lv_at hl 0 rfl) ?_
  refine lv_sipush (v := 8208) hx hb dX1_init_75 (by decide) ?_
  refine tp_i (y := nI 8208) (by decide) ?_
  refine xa_newl (N := 8208) hx hb (hall _ kw_60) hK hP hD hS hA (by omega) (by show _ ≤ 10; omega) (by show _ ≤ 50256; omega) dX1_init_78 (fun b9 cA H hK hP hD hS => ?_)
  obtain rfl : cJ = cA := xk_sameL hK (t1 := 0) (t2 := 3) rfl rfl
  have hK := hK.sub (tys' := [(cJ, .long), (cZ, .boolean), (cI, .int)]) [0, 1, 2] rfl
  have hP : va_P (dC, dI) vwCl [(y, .inr (1, [.int (nI 0), .int 0, .int 0, .ref b1, .ref b2, .long 0, .ref b3, .ref b4, .ref b5, .int (nI 0), .ref b6, .ref b7, .int (nI 0), .ref b8, .null, .null])), (b1, .inl (cJ, 512, .inr (.inl (fun _ => 0)))), (b2, .inl (cZ, 512, .inl (fun _ => 0))), (b3, .inl (cI, 8192, .inl (fun _ => 0))), (b4, .inl (cJ, 8192, .inr (.inl (fun _ => 0)))), (b5, .inl (cJ, 8192, .inr (.inl (fun _ => 0)))), (b6, .inl (cJ, 16, .inr (.inl (fun _ => 0)))), (b7, .inl (cJ, 16, .inr (.inl (fun _ => 0)))), (b8, .inl (cJ, 8208, .inr (.inl (fun _ => 0)))), (b9, .inl (cJ, 8208, .inr (.inl (fun _ => 0))))] H := hP
  have hD : va_D A [(y, .inr (1, [.int (nI 0), .int 0, .int 0, .ref b1, .ref b2, .long 0, .ref b3, .ref b4, .ref b5, .int (nI 0), .ref b6, .ref b7, .int (nI 0), .ref b8, .null, .null])), (b1, .inl (cJ, 512, .inr (.inl (fun _ => 0)))), (b2, .inl (cZ, 512, .inl (fun _ => 0))), (b3, .inl (cI, 8192, .inl (fun _ => 0))), (b4, .inl (cJ, 8192, .inr (.inl (fun _ => 0)))), (b5, .inl (cJ, 8192, .inr (.inl (fun _ => 0)))), (b6, .inl (cJ, 16, .inr (.inl (fun _ => 0)))), (b7, .inl (cJ, 16, .inr (.inl (fun _ => 0)))), (b8, .inl (cJ, 8208, .inr (.inl (fun _ => 0)))), (b9, .inl (cJ, 8208, .inr (.inl (fun _ => 0))))] := hD
  refine va_putF (D := (dC, dI)) (ci := 1) (v := .ref b9) (ty := (.array .long)) (C := RX1) (T := TX1) (N := 16) hx hb hall inX1 tyX1 tyX1_ok nmX1 hown hK hP hD hS 0 rfl rfl 14 (by decide) (hall _ kw_337) (fun _ h9 => h9) rfl hin9 rfl (by decide +kernel) rfl rfl (Nat.le_of_ble_eq_true rfl) dX1_init_80 (fun H locs hP hD hS => ?_)
  have hP : va_P (dC, dI) vwCl [(y, .inr (1, [.int (nI 0), .int 0, .int 0, .ref b1, .ref b2, .long 0, .ref b3, .ref b4, .ref b5, .int (nI 0), .ref b6, .ref b7, .int (nI 0), .ref b8, .ref b9, .null])), (b1, .inl (cJ, 512, .inr (.inl (fun _ => 0)))), (b2, .inl (cZ, 512, .inl (fun _ => 0))), (b3, .inl (cI, 8192, .inl (fun _ => 0))), (b4, .inl (cJ, 8192, .inr (.inl (fun _ => 0)))), (b5, .inl (cJ, 8192, .inr (.inl (fun _ => 0)))), (b6, .inl (cJ, 16, .inr (.inl (fun _ => 0)))), (b7, .inl (cJ, 16, .inr (.inl (fun _ => 0)))), (b8, .inl (cJ, 8208, .inr (.inl (fun _ => 0)))), (b9, .inl (cJ, 8208, .inr (.inl (fun _ => 0))))] H := hP
  have hD : va_D A [(y, .inr (1, [.int (nI 0), .int 0, .int 0, .ref b1, .ref b2, .long 0, .ref b3, .ref b4, .ref b5, .int (nI 0), .ref b6, .ref b7, .int (nI 0), .ref b8, .ref b9, .null])), (b1, .inl (cJ, 512, .inr (.inl (fun _ => 0)))), (b2, .inl (cZ, 512, .inl (fun _ => 0))), (b3, .inl (cI, 8192, .inl (fun _ => 0))), (b4, .inl (cJ, 8192, .inr (.inl (fun _ => 0)))), (b5, .inl (cJ, 8192, .inr (.inl (fun _ => 0)))), (b6, .inl (cJ, 16, .inr (.inl (fun _ => 0)))), (b7, .inl (cJ, 16, .inr (.inl (fun _ => 0)))), (b8, .inl (cJ, 8208, .inr (.inl (fun _ => 0)))), (b9, .inl (cJ, 8208, .inr (.inl (fun _ => 0))))] := hD
  refine lv_aload_n hx hb dX1_init_83 rfl (lv_at hl 0 rfl) ?_
  refine lv_sipush (v := 8208) hx hb dX1_init_84 (by decide) ?_
  refine tp_i (y := nI 8208) (by decide) ?_
  refine xa_newz (N := 8208) hx hb (hall _ kw_372) hK hP hD hS hA (by omega) (by show _ ≤ 10; omega) (by show _ ≤ 50256; omega) dX1_init_87 (fun b10 cA H hK hP hD hS => ?_)
  obtain rfl : cZ = cA := xk_sameZ hK (t1 := 1) (t2 := 3) rfl rfl
  have hK := hK.sub (tys' := [(cJ, .long), (cZ, .boolean), (cI, .int)]) [0, 1, 2] rfl
  have hP : va_P (dC, dI) vwCl [(y, .inr (1, [.int (nI 0), .int 0, .int 0, .ref b1, .ref b2, .long 0, .ref b3, .ref b4, .ref b5, .int (nI 0), .ref b6, .ref b7, .int (nI 0), .ref b8, .ref b9, .null])), (b1, .inl (cJ, 512, .inr (.inl (fun _ => 0)))), (b2, .inl (cZ, 512, .inl (fun _ => 0))), (b3, .inl (cI, 8192, .inl (fun _ => 0))), (b4, .inl (cJ, 8192, .inr (.inl (fun _ => 0)))), (b5, .inl (cJ, 8192, .inr (.inl (fun _ => 0)))), (b6, .inl (cJ, 16, .inr (.inl (fun _ => 0)))), (b7, .inl (cJ, 16, .inr (.inl (fun _ => 0)))), (b8, .inl (cJ, 8208, .inr (.inl (fun _ => 0)))), (b9, .inl (cJ, 8208, .inr (.inl (fun _ => 0)))), (b10, .inl (cZ, 8208, .inl (fun _ => 0)))] H := hP
  have hD : va_D A [(y, .inr (1, [.int (nI 0), .int 0, .int 0, .ref b1, .ref b2, .long 0, .ref b3, .ref b4, .ref b5, .int (nI 0), .ref b6, .ref b7, .int (nI 0), .ref b8, .ref b9, .null])), (b1, .inl (cJ, 512, .inr (.inl (fun _ => 0)))), (b2, .inl (cZ, 512, .inl (fun _ => 0))), (b3, .inl (cI, 8192, .inl (fun _ => 0))), (b4, .inl (cJ, 8192, .inr (.inl (fun _ => 0)))), (b5, .inl (cJ, 8192, .inr (.inl (fun _ => 0)))), (b6, .inl (cJ, 16, .inr (.inl (fun _ => 0)))), (b7, .inl (cJ, 16, .inr (.inl (fun _ => 0)))), (b8, .inl (cJ, 8208, .inr (.inl (fun _ => 0)))), (b9, .inl (cJ, 8208, .inr (.inl (fun _ => 0)))), (b10, .inl (cZ, 8208, .inl (fun _ => 0)))] := hD
  refine va_putF (D := (dC, dI)) (ci := 1) (v := .ref b10) (ty := (.array .boolean)) (C := RX1) (T := TX1) (N := 16) hx hb hall inX1 tyX1 tyX1_ok nmX1 hown hK hP hD hS 0 rfl rfl 15 (by decide) (hall _ kw_338) (fun _ h9 => h9) rfl hin9 rfl (by decide +kernel) rfl rfl (Nat.le_of_ble_eq_true rfl) dX1_init_89 (fun H locs hP hD hS => ?_)
  have hP : va_P (dC, dI) vwCl [(y, .inr (1, [.int (nI 0), .int 0, .int 0, .ref b1, .ref b2, .long 0, .ref b3, .ref b4, .ref b5, .int (nI 0), .ref b6, .ref b7, .int (nI 0), .ref b8, .ref b9, .ref b10])), (b1, .inl (cJ, 512, .inr (.inl (fun _ => 0)))), (b2, .inl (cZ, 512, .inl (fun _ => 0))), (b3, .inl (cI, 8192, .inl (fun _ => 0))), (b4, .inl (cJ, 8192, .inr (.inl (fun _ => 0)))), (b5, .inl (cJ, 8192, .inr (.inl (fun _ => 0)))), (b6, .inl (cJ, 16, .inr (.inl (fun _ => 0)))), (b7, .inl (cJ, 16, .inr (.inl (fun _ => 0)))), (b8, .inl (cJ, 8208, .inr (.inl (fun _ => 0)))), (b9, .inl (cJ, 8208, .inr (.inl (fun _ => 0)))), (b10, .inl (cZ, 8208, .inl (fun _ => 0)))] H := hP
  have hD : va_D A [(y, .inr (1, [.int (nI 0), .int 0, .int 0, .ref b1, .ref b2, .long 0, .ref b3, .ref b4, .ref b5, .int (nI 0), .ref b6, .ref b7, .int (nI 0), .ref b8, .ref b9, .ref b10])), (b1, .inl (cJ, 512, .inr (.inl (fun _ => 0)))), (b2, .inl (cZ, 512, .inl (fun _ => 0))), (b3, .inl (cI, 8192, .inl (fun _ => 0))), (b4, .inl (cJ, 8192, .inr (.inl (fun _ => 0)))), (b5, .inl (cJ, 8192, .inr (.inl (fun _ => 0)))), (b6, .inl (cJ, 16, .inr (.inl (fun _ => 0)))), (b7, .inl (cJ, 16, .inr (.inl (fun _ => 0)))), (b8, .inl (cJ, 8208, .inr (.inl (fun _ => 0)))), (b9, .inl (cJ, 8208, .inr (.inl (fun _ => 0)))), (b10, .inl (cZ, 8208, .inl (fun _ => 0)))] := hD
  refine lv_aload_n hx hb dX1_init_92 rfl (lv_at hl 0 rfl) ?_
  refine lv_iload_n hx hb dX1_init_93 rfl (lv_at hl 1 rfl) ?_
  refine lv_if_le (tgt := 108) hx hb dX1_init_94 (by decide) (fun c_1 => ?_) (fun c_1 => ?_)
  · have c_A := c_1
    refine lv_bipush (v := 64) hx hb dX1_init_108 (by decide) ?_
    refine tp_i (y := nI nD) (hi.elim (fun q => by first | exact absurd ((i32_le0 _).mp c_A) q.1 | exact absurd c_B q.2.1) (fun q => by rw [q.2]; decide)) ?_
    refine va_putF (D := (dC, dI)) (ci := 1) (v := .int (nI nD)) (ty := .int) (C := RX1) (T := TX1) (N := 16) hx hb hall inX1 tyX1 tyX1_ok nmX1 hown hK hP hD hS 0 rfl rfl 1 (by decide) (hall _ kw_324) (fun _ h9 => h9) rfl hin9 rfl (by decide +kernel) rfl rfl (Nat.le_of_ble_eq_true rfl) dX1_init_110 (fun H locs hP hD hS => ?_)
    have hP : va_P (dC, dI) vwCl [(y, .inr (1, [.int (nI 0), .int (nI nD), .int 0, .ref b1, .ref b2, .long 0, .ref b3, .ref b4, .ref b5, .int (nI 0), .ref b6, .ref b7, .int (nI 0), .ref b8, .ref b9, .ref b10])), (b1, .inl (cJ, 512, .inr (.inl (fun _ => 0)))), (b2, .inl (cZ, 512, .inl (fun _ => 0))), (b3, .inl (cI, 8192, .inl (fun _ => 0))), (b4, .inl (cJ, 8192, .inr (.inl (fun _ => 0)))), (b5, .inl (cJ, 8192, .inr (.inl (fun _ => 0)))), (b6, .inl (cJ, 16, .inr (.inl (fun _ => 0)))), (b7, .inl (cJ, 16, .inr (.inl (fun _ => 0)))), (b8, .inl (cJ, 8208, .inr (.inl (fun _ => 0)))), (b9, .inl (cJ, 8208, .inr (.inl (fun _ => 0)))), (b10, .inl (cZ, 8208, .inl (fun _ => 0)))] H := hP
    have hD : va_D A [(y, .inr (1, [.int (nI 0), .int (nI nD), .int 0, .ref b1, .ref b2, .long 0, .ref b3, .ref b4, .ref b5, .int (nI 0), .ref b6, .ref b7, .int (nI 0), .ref b8, .ref b9, .ref b10])), (b1, .inl (cJ, 512, .inr (.inl (fun _ => 0)))), (b2, .inl (cZ, 512, .inl (fun _ => 0))), (b3, .inl (cI, 8192, .inl (fun _ => 0))), (b4, .inl (cJ, 8192, .inr (.inl (fun _ => 0)))), (b5, .inl (cJ, 8192, .inr (.inl (fun _ => 0)))), (b6, .inl (cJ, 16, .inr (.inl (fun _ => 0)))), (b7, .inl (cJ, 16, .inr (.inl (fun _ => 0)))), (b8, .inl (cJ, 8208, .inr (.inl (fun _ => 0)))), (b9, .inl (cJ, 8208, .inr (.inl (fun _ => 0)))), (b10, .inl (cZ, 8208, .inl (fun _ => 0)))] := hD
    refine lv_aload_n hx hb dX1_init_113 rfl (lv_at hl 0 rfl) ?_
    refine lv_iload_n hx hb dX1_init_114 rfl (lv_at hl 2 rfl) ?_
    refine lv_if_le (tgt := 129) hx hb dX1_init_115 (by decide) (fun c_2 => ?_) (fun c_2 => ?_)
    · have c_C := c_2
      refine lv_sipush (v := 1024) hx hb dX1_init_129 (by decide) ?_
      refine tp_i (y := nI nR) (hj.elim (fun q => by first | exact absurd ((i32_le0 _).mp c_C) q.1 | exact absurd c_D q.2.1) (fun q => by rw [q.2]; decide)) ?_
      refine va_putF (D := (dC, dI)) (ci := 1) (v := .int (nI nR)) (ty := .int) (C := RX1) (T := TX1) (N := 16) hx hb hall inX1 tyX1 tyX1_ok nmX1 hown hK hP hD hS 0 rfl rfl 2 (by decide) (hall _ kw_325) (fun _ h9 => h9) rfl hin9 rfl (by decide +kernel) rfl rfl (Nat.le_of_ble_eq_true rfl) dX1_init_132 (fun H locs hP hD hS => ?_)
      have hP : va_P (dC, dI) vwCl [(y, .inr (1, [.int (nI 0), .int (nI nD), .int (nI nR), .ref b1, .ref b2, .long 0, .ref b3, .ref b4, .ref b5, .int (nI 0), .ref b6, .ref b7, .int (nI 0), .ref b8, .ref b9, .ref b10])), (b1, .inl (cJ, 512, .inr (.inl (fun _ => 0)))), (b2, .inl (cZ, 512, .inl (fun _ => 0))), (b3, .inl (cI, 8192, .inl (fun _ => 0))), (b4, .inl (cJ, 8192, .inr (.inl (fun _ => 0)))), (b5, .inl (cJ, 8192, .inr (.inl (fun _ => 0)))), (b6, .inl (cJ, 16, .inr (.inl (fun _ => 0)))), (b7, .inl (cJ, 16, .inr (.inl (fun _ => 0)))), (b8, .inl (cJ, 8208, .inr (.inl (fun _ => 0)))), (b9, .inl (cJ, 8208, .inr (.inl (fun _ => 0)))), (b10, .inl (cZ, 8208, .inl (fun _ => 0)))] H := hP
      have hD : va_D A [(y, .inr (1, [.int (nI 0), .int (nI nD), .int (nI nR), .ref b1, .ref b2, .long 0, .ref b3, .ref b4, .ref b5, .int (nI 0), .ref b6, .ref b7, .int (nI 0), .ref b8, .ref b9, .ref b10])), (b1, .inl (cJ, 512, .inr (.inl (fun _ => 0)))), (b2, .inl (cZ, 512, .inl (fun _ => 0))), (b3, .inl (cI, 8192, .inl (fun _ => 0))), (b4, .inl (cJ, 8192, .inr (.inl (fun _ => 0)))), (b5, .inl (cJ, 8192, .inr (.inl (fun _ => 0)))), (b6, .inl (cJ, 16, .inr (.inl (fun _ => 0)))), (b7, .inl (cJ, 16, .inr (.inl (fun _ => 0)))), (b8, .inl (cJ, 8208, .inr (.inl (fun _ => 0)))), (b9, .inl (cJ, 8208, .inr (.inl (fun _ => 0)))), (b10, .inl (cZ, 8208, .inl (fun _ => 0)))] := hD
      have hP : va_P (dC, dI) vwCl (wm y b1 b2 b3 b4 b5 b6 b7 b8 b9 b10 cI cJ cZ 0 nD nR (fun _ => 0) (fun _ => false) 0 (fun _ => 0) (fun _ => 0) (fun _ => 0) 0 (fun _ => 0) (fun _ => 0) 0 (fun _ => 0) (fun _ => 0) (fun _ => false)) H := hP
      have hD : va_D A (wm y b1 b2 b3 b4 b5 b6 b7 b8 b9 b10 cI cJ cZ 0 nD nR (fun _ => 0) (fun _ => false) 0 (fun _ => 0) (fun _ => 0) (fun _ => 0) 0 (fun _ => 0) (fun _ => 0) 0 (fun _ => 0) (fun _ => 0) (fun _ => false)) := hD
      have hK := hK.sub (tys' := [(cI, .int), (cJ, .long), (cZ, .boolean)]) [2, 0, 1] rfl
      refine W.widen (k := 10) (n := 50256) (by omega) (by omega) ?_
      exact W.vret hx hb hr (fun t9 ht hW => ⟨⟨(), rfl, trivial, b1, b2, b3, b4, b5, b6, b7, b8, b9, b10, cI, cJ, cZ, by rw [ht]; exact hP, va_K.moved hW.alike hK, hD⟩, hS.F ht⟩) hS.2.2 dX1_init_135
    · have c_C := c_2
      refine lv_iload_n hx hb dX1_init_118 rfl (lv_at hl 2 rfl) ?_
      refine lv_sipush (v := 8192) hx hb dX1_init_119 (by decide) ?_
      refine lv_icmp_gt (tgt := 129) hx hb dX1_init_122 (by decide) (fun c_3 => ?_) (fun c_3 => ?_)
      · have c_D := c_3
        refine lv_sipush (v := 1024) hx hb dX1_init_129 (by decide) ?_
        refine tp_i (y := nI nR) (hj.elim (fun q => by first | exact absurd ((i32_le0 _).mp c_C) q.1 | exact absurd c_D q.2.1) (fun q => by rw [q.2]; decide)) ?_
        refine va_putF (D := (dC, dI)) (ci := 1) (v := .int (nI nR)) (ty := .int) (C := RX1) (T := TX1) (N := 16) hx hb hall inX1 tyX1 tyX1_ok nmX1 hown hK hP hD hS 0 rfl rfl 2 (by decide) (hall _ kw_325) (fun _ h9 => h9) rfl hin9 rfl (by decide +kernel) rfl rfl (Nat.le_of_ble_eq_true rfl) dX1_init_132 (fun H locs hP hD hS => ?_)
        have hP : va_P (dC, dI) vwCl [(y, .inr (1, [.int (nI 0), .int (nI nD), .int (nI nR), .ref b1, .ref b2, .long 0, .ref b3, .ref b4, .ref b5, .int (nI 0), .ref b6, .ref b7, .int (nI 0), .ref b8, .ref b9, .ref b10])), (b1, .inl (cJ, 512, .inr (.inl (fun _ => 0)))), (b2, .inl (cZ, 512, .inl (fun _ => 0))), (b3, .inl (cI, 8192, .inl (fun _ => 0))), (b4, .inl (cJ, 8192, .inr (.inl (fun _ => 0)))), (b5, .inl (cJ, 8192, .inr (.inl (fun _ => 0)))), (b6, .inl (cJ, 16, .inr (.inl (fun _ => 0)))), (b7, .inl (cJ, 16, .inr (.inl (fun _ => 0)))), (b8, .inl (cJ, 8208, .inr (.inl (fun _ => 0)))), (b9, .inl (cJ, 8208, .inr (.inl (fun _ => 0)))), (b10, .inl (cZ, 8208, .inl (fun _ => 0)))] H := hP
        have hD : va_D A [(y, .inr (1, [.int (nI 0), .int (nI nD), .int (nI nR), .ref b1, .ref b2, .long 0, .ref b3, .ref b4, .ref b5, .int (nI 0), .ref b6, .ref b7, .int (nI 0), .ref b8, .ref b9, .ref b10])), (b1, .inl (cJ, 512, .inr (.inl (fun _ => 0)))), (b2, .inl (cZ, 512, .inl (fun _ => 0))), (b3, .inl (cI, 8192, .inl (fun _ => 0))), (b4, .inl (cJ, 8192, .inr (.inl (fun _ => 0)))), (b5, .inl (cJ, 8192, .inr (.inl (fun _ => 0)))), (b6, .inl (cJ, 16, .inr (.inl (fun _ => 0)))), (b7, .inl (cJ, 16, .inr (.inl (fun _ => 0)))), (b8, .inl (cJ, 8208, .inr (.inl (fun _ => 0)))), (b9, .inl (cJ, 8208, .inr (.inl (fun _ => 0)))), (b10, .inl (cZ, 8208, .inl (fun _ => 0)))] := hD
        have hP : va_P (dC, dI) vwCl (wm y b1 b2 b3 b4 b5 b6 b7 b8 b9 b10 cI cJ cZ 0 nD nR (fun _ => 0) (fun _ => false) 0 (fun _ => 0) (fun _ => 0) (fun _ => 0) 0 (fun _ => 0) (fun _ => 0) 0 (fun _ => 0) (fun _ => 0) (fun _ => false)) H := hP
        have hD : va_D A (wm y b1 b2 b3 b4 b5 b6 b7 b8 b9 b10 cI cJ cZ 0 nD nR (fun _ => 0) (fun _ => false) 0 (fun _ => 0) (fun _ => 0) (fun _ => 0) 0 (fun _ => 0) (fun _ => 0) 0 (fun _ => 0) (fun _ => 0) (fun _ => false)) := hD
        have hK := hK.sub (tys' := [(cI, .int), (cJ, .long), (cZ, .boolean)]) [2, 0, 1] rfl
        refine W.widen (k := 10) (n := 50256) (by omega) (by omega) ?_
        exact W.vret hx hb hr (fun t9 ht hW => ⟨⟨(), rfl, trivial, b1, b2, b3, b4, b5, b6, b7, b8, b9, b10, cI, cJ, cZ, by rw [ht]; exact hP, va_K.moved hW.alike hK, hD⟩, hS.F ht⟩) hS.2.2 dX1_init_135
      · have c_D := c_3
        refine lv_iload_n hx hb dX1_init_125 rfl (lv_at hl 2 rfl) ?_
        refine lv_goto (tgt := 132) hx hb dX1_init_126 (by decide) ?_
        refine tp_i (y := nI nR) (hj.elim (fun q => q.2.2.1) (fun q => absurd q.1 (fun q => q.elim (fun q => c_C ((i32_le0 _).mpr q)) c_D))) ?_
        refine va_putF (D := (dC, dI)) (ci := 1) (v := .int (nI nR)) (ty := .int) (C := RX1) (T := TX1) (N := 16) hx hb hall inX1 tyX1 tyX1_ok nmX1 hown hK hP hD hS 0 rfl rfl 2 (by decide) (hall _ kw_325) (fun _ h9 => h9) rfl hin9 rfl (by decide +kernel) rfl rfl (Nat.le_of_ble_eq_true rfl) dX1_init_132 (fun H locs hP hD hS => ?_)
        have hP : va_P (dC, dI) vwCl [(y, .inr (1, [.int (nI 0), .int (nI nD), .int (nI nR), .ref b1, .ref b2, .long 0, .ref b3, .ref b4, .ref b5, .int (nI 0), .ref b6, .ref b7, .int (nI 0), .ref b8, .ref b9, .ref b10])), (b1, .inl (cJ, 512, .inr (.inl (fun _ => 0)))), (b2, .inl (cZ, 512, .inl (fun _ => 0))), (b3, .inl (cI, 8192, .inl (fun _ => 0))), (b4, .inl (cJ, 8192, .inr (.inl (fun _ => 0)))), (b5, .inl (cJ, 8192, .inr (.inl (fun _ => 0)))), (b6, .inl (cJ, 16, .inr (.inl (fun _ => 0)))), (b7, .inl (cJ, 16, .inr (.inl (fun _ => 0)))), (b8, .inl (cJ, 8208, .inr (.inl (fun _ => 0)))), (b9, .inl (cJ, 8208, .inr (.inl (fun _ => 0)))), (b10, .inl (cZ, 8208, .inl (fun _ => 0)))] H := hP
        have hD : va_D A [(y, .inr (1, [.int (nI 0), .int (nI nD), .int (nI nR), .ref b1, .ref b2, .long 0, .ref b3, .ref b4, .ref b5, .int (nI 0), .ref b6, .ref b7, .int (nI 0), .ref b8, .ref b9, .ref b10])), (b1, .inl (cJ, 512, .inr (.inl (fun _ => 0)))), (b2, .inl (cZ, 512, .inl (fun _ => 0))), (b3, .inl (cI, 8192, .inl (fun _ => 0))), (b4, .inl (cJ, 8192, .inr (.inl (fun _ => 0)))), (b5, .inl (cJ, 8192, .inr (.inl (fun _ => 0)))), (b6, .inl (cJ, 16, .inr (.inl (fun _ => 0)))), (b7, .inl (cJ, 16, .inr (.inl (fun _ => 0)))), (b8, .inl (cJ, 8208, .inr (.inl (fun _ => 0)))), (b9, .inl (cJ, 8208, .inr (.inl (fun _ => 0)))), (b10, .inl (cZ, 8208, .inl (fun _ => 0)))] := hD
        have hP : va_P (dC, dI) vwCl (wm y b1 b2 b3 b4 b5 b6 b7 b8 b9 b10 cI cJ cZ 0 nD nR (fun _ => 0) (fun _ => false) 0 (fun _ => 0) (fun _ => 0) (fun _ => 0) 0 (fun _ => 0) (fun _ => 0) 0 (fun _ => 0) (fun _ => 0) (fun _ => false)) H := hP
        have hD : va_D A (wm y b1 b2 b3 b4 b5 b6 b7 b8 b9 b10 cI cJ cZ 0 nD nR (fun _ => 0) (fun _ => false) 0 (fun _ => 0) (fun _ => 0) (fun _ => 0) 0 (fun _ => 0) (fun _ => 0) 0 (fun _ => 0) (fun _ => 0) (fun _ => false)) := hD
        have hK := hK.sub (tys' := [(cI, .int), (cJ, .long), (cZ, .boolean)]) [2, 0, 1] rfl
        refine W.widen (k := 10) (n := 50256) (by omega) (by omega) ?_
        exact W.vret hx hb hr (fun t9 ht hW => ⟨⟨(), rfl, trivial, b1, b2, b3, b4, b5, b6, b7, b8, b9, b10, cI, cJ, cZ, by rw [ht]; exact hP, va_K.moved hW.alike hK, hD⟩, hS.F ht⟩) hS.2.2 dX1_init_135
  · have c_A := c_1
    refine lv_iload_n hx hb dX1_init_97 rfl (lv_at hl 1 rfl) ?_
    refine lv_sipush (v := 512) hx hb dX1_init_98 (by decide) ?_
    refine lv_icmp_gt (tgt := 108) hx hb dX1_init_101 (by decide) (fun c_4 => ?_) (fun c_4 => ?_)
    · have c_B := c_4
      refine lv_bipush (v := 64) hx hb dX1_init_108 (by decide) ?_
      refine tp_i (y := nI nD) (hi.elim (fun q => by first | exact absurd ((i32_le0 _).mp c_A) q.1 | exact absurd c_B q.2.1) (fun q => by rw [q.2]; decide)) ?_
      refine va_putF (D := (dC, dI)) (ci := 1) (v := .int (nI nD)) (ty := .int) (C := RX1) (T := TX1) (N := 16) hx hb hall inX1 tyX1 tyX1_ok nmX1 hown hK hP hD hS 0 rfl rfl 1 (by decide) (hall _ kw_324) (fun _ h9 => h9) rfl hin9 rfl (by decide +kernel) rfl rfl (Nat.le_of_ble_eq_true rfl) dX1_init_110 (fun H locs hP hD hS => ?_)
      have hP : va_P (dC, dI) vwCl [(y, .inr (1, [.int (nI 0), .int (nI nD), .int 0, .ref b1, .ref b2, .long 0, .ref b3, .ref b4, .ref b5, .int (nI 0), .ref b6, .ref b7, .int (nI 0), .ref b8, .ref b9, .ref b10])), (b1, .inl (cJ, 512, .inr (.inl (fun _ => 0)))), (b2, .inl (cZ, 512, .inl (fun _ => 0))), (b3, .inl (cI, 8192, .inl (fun _ => 0))), (b4, .inl (cJ, 8192, .inr (.inl (fun _ => 0)))), (b5, .inl (cJ, 8192, .inr (.inl (fun _ => 0)))), (b6, .inl (cJ, 16, .inr (.inl (fun _ => 0)))), (b7, .inl (cJ, 16, .inr (.inl (fun _ => 0)))), (b8, .inl (cJ, 8208, .inr (.inl (fun _ => 0)))), (b9, .inl (cJ, 8208, .inr (.inl (fun _ => 0)))), (b10, .inl (cZ, 8208, .inl (fun _ => 0)))] H := hP
      have hD : va_D A [(y, .inr (1, [.int (nI 0), .int (nI nD), .int 0, .ref b1, .ref b2, .long 0, .ref b3, .ref b4, .ref b5, .int (nI 0), .ref b6, .ref b7, .int (nI 0), .ref b8, .ref b9, .ref b10])), (b1, .inl (cJ, 512, .inr (.inl (fun _ => 0)))), (b2, .inl (cZ, 512, .inl (fun _ => 0))), (b3, .inl (cI, 8192, .inl (fun _ => 0))), (b4, .inl (cJ, 8192, .inr (.inl (fun _ => 0)))), (b5, .inl (cJ, 8192, .inr (.inl (fun _ => 0)))), (b6, .inl (cJ, 16, .inr (.inl (fun _ => 0)))), (b7, .inl (cJ, 16, .inr (.inl (fun _ => 0)))), (b8, .inl (cJ, 8208, .inr (.inl (fun _ => 0)))), (b9, .inl (cJ, 8208, .inr (.inl (fun _ => 0)))), (b10, .inl (cZ, 8208, .inl (fun _ => 0)))] := hD
      refine lv_aload_n hx hb dX1_init_113 rfl (lv_at hl 0 rfl) ?_
      refine lv_iload_n hx hb dX1_init_114 rfl (lv_at hl 2 rfl) ?_
      refine lv_if_le (tgt := 129) hx hb dX1_init_115 (by decide) (fun c_5 => ?_) (fun c_5 => ?_)
      · have c_C := c_5
        refine lv_sipush (v := 1024) hx hb dX1_init_129 (by decide) ?_
        refine tp_i (y := nI nR) (hj.elim (fun q => by first | exact absurd ((i32_le0 _).mp c_C) q.1 | exact absurd c_D q.2.1) (fun q => by rw [q.2]; decide)) ?_
        refine va_putF (D := (dC, dI)) (ci := 1) (v := .int (nI nR)) (ty := .int) (C := RX1) (T := TX1) (N := 16) hx hb hall inX1 tyX1 tyX1_ok nmX1 hown hK hP hD hS 0 rfl rfl 2 (by decide) (hall _ kw_325) (fun _ h9 => h9) rfl hin9 rfl (by decide +kernel) rfl rfl (Nat.le_of_ble_eq_true rfl) dX1_init_132 (fun H locs hP hD hS => ?_)
        have hP : va_P (dC, dI) vwCl [(y, .inr (1, [.int (nI 0), .int (nI nD), .int (nI nR), .ref b1, .ref b2, .long 0, .ref b3, .ref b4, .ref b5, .int (nI 0), .ref b6, .ref b7, .int (nI 0), .ref b8, .ref b9, .ref b10])), (b1, .inl (cJ, 512, .inr (.inl (fun _ => 0)))), (b2, .inl (cZ, 512, .inl (fun _ => 0))), (b3, .inl (cI, 8192, .inl (fun _ => 0))), (b4, .inl (cJ, 8192, .inr (.inl (fun _ => 0)))), (b5, .inl (cJ, 8192, .inr (.inl (fun _ => 0)))), (b6, .inl (cJ, 16, .inr (.inl (fun _ => 0)))), (b7, .inl (cJ, 16, .inr (.inl (fun _ => 0)))), (b8, .inl (cJ, 8208, .inr (.inl (fun _ => 0)))), (b9, .inl (cJ, 8208, .inr (.inl (fun _ => 0)))), (b10, .inl (cZ, 8208, .inl (fun _ => 0)))] H := hP
        have hD : va_D A [(y, .inr (1, [.int (nI 0), .int (nI nD), .int (nI nR), .ref b1, .ref b2, .long 0, .ref b3, .ref b4, .ref b5, .int (nI 0), .ref b6, .ref b7, .int (nI 0), .ref b8, .ref b9, .ref b10])), (b1, .inl (cJ, 512, .inr (.inl (fun _ => 0)))), (b2, .inl (cZ, 512, .inl (fun _ => 0))), (b3, .inl (cI, 8192, .inl (fun _ => 0))), (b4, .inl (cJ, 8192, .inr (.inl (fun _ => 0)))), (b5, .inl (cJ, 8192, .inr (.inl (fun _ => 0)))), (b6, .inl (cJ, 16, .inr (.inl (fun _ => 0)))), (b7, .inl (cJ, 16, .inr (.inl (fun _ => 0)))), (b8, .inl (cJ, 8208, .inr (.inl (fun _ => 0)))), (b9, .inl (cJ, 8208, .inr (.inl (fun _ => 0)))), (b10, .inl (cZ, 8208, .inl (fun _ => 0)))] := hD
        have hP : va_P (dC, dI) vwCl (wm y b1 b2 b3 b4 b5 b6 b7 b8 b9 b10 cI cJ cZ 0 nD nR (fun _ => 0) (fun _ => false) 0 (fun _ => 0) (fun _ => 0) (fun _ => 0) 0 (fun _ => 0) (fun _ => 0) 0 (fun _ => 0) (fun _ => 0) (fun _ => false)) H := hP
        have hD : va_D A (wm y b1 b2 b3 b4 b5 b6 b7 b8 b9 b10 cI cJ cZ 0 nD nR (fun _ => 0) (fun _ => false) 0 (fun _ => 0) (fun _ => 0) (fun _ => 0) 0 (fun _ => 0) (fun _ => 0) 0 (fun _ => 0) (fun _ => 0) (fun _ => false)) := hD
        have hK := hK.sub (tys' := [(cI, .int), (cJ, .long), (cZ, .boolean)]) [2, 0, 1] rfl
        refine W.widen (k := 10) (n := 50256) (by omega) (by omega) ?_
        exact W.vret hx hb hr (fun t9 ht hW => ⟨⟨(), rfl, trivial, b1, b2, b3, b4, b5, b6, b7, b8, b9, b10, cI, cJ, cZ, by rw [ht]; exact hP, va_K.moved hW.alike hK, hD⟩, hS.F ht⟩) hS.2.2 dX1_init_135
      · have c_C := c_5
        refine lv_iload_n hx hb dX1_init_118 rfl (lv_at hl 2 rfl) ?_
        refine lv_sipush (v := 8192) hx hb dX1_init_119 (by decide) ?_
        refine lv_icmp_gt (tgt := 129) hx hb dX1_init_122 (by decide) (fun c_6 => ?_) (fun c_6 => ?_)
        · have c_D := c_6
          refine lv_sipush (v := 1024) hx hb dX1_init_129 (by decide) ?_
          refine tp_i (y := nI nR) (hj.elim (fun q => by first | exact absurd ((i32_le0 _).mp c_C) q.1 | exact absurd c_D q.2.1) (fun q => by rw [q.2]; decide)) ?_
          refine va_putF (D := (dC, dI)) (ci := 1) (v := .int (nI nR)) (ty := .int) (C := RX1) (T := TX1) (N := 16) hx hb hall inX1 tyX1 tyX1_ok nmX1 hown hK hP hD hS 0 rfl rfl 2 (by decide) (hall _ kw_325) (fun _ h9 => h9) rfl hin9 rfl (by decide +kernel) rfl rfl (Nat.le_of_ble_eq_true rfl) dX1_init_132 (fun H locs hP hD hS => ?_)
          have hP : va_P (dC, dI) vwCl [(y, .inr (1, [.int (nI 0), .int (nI nD), .int (nI nR), .ref b1, .ref b2, .long 0, .ref b3, .ref b4, .ref b5, .int (nI 0), .ref b6, .ref b7, .int (nI 0), .ref b8, .ref b9, .ref b10])), (b1, .inl (cJ, 512, .inr (.inl (fun _ => 0)))), (b2, .inl (cZ, 512, .inl (fun _ => 0))), (b3, .inl (cI, 8192, .inl (fun _ => 0))), (b4, .inl (cJ, 8192, .inr (.inl (fun _ => 0)))), (b5, .inl (cJ, 8192, .inr (.inl (fun _ => 0)))), (b6, .inl (cJ, 16, .inr (.inl (fun _ => 0)))), (b7, .inl (cJ, 16, .inr (.inl (fun _ => 0)))), (b8, .inl (cJ, 8208, .inr (.inl (fun _ => 0)))), (b9, .inl (cJ, 8208, .inr (.inl (fun _ => 0)))), (b10, .inl (cZ, 8208, .inl (fun _ => 0)))] H := hP
          have hD : va_D A [(y, .inr (1, [.int (nI 0), .int (nI nD), .int (nI nR), .ref b1, .ref b2, .long 0, .ref b3, .ref b4, .ref b5, .int (nI 0), .ref b6, .ref b7, .int (nI 0), .ref b8, .ref b9, .ref b10])), (b1, .inl (cJ, 512, .inr (.inl (fun _ => 0)))), (b2, .inl (cZ, 512, .inl (fun _ => 0))), (b3, .inl (cI, 8192, .inl (fun _ => 0))), (b4, .inl (cJ, 8192, .inr (.inl (fun _ => 0)))), (b5, .inl (cJ, 8192, .inr (.inl (fun _ => 0)))), (b6, .inl (cJ, 16, .inr (.inl (fun _ => 0)))), (b7, .inl (cJ, 16, .inr (.inl (fun _ => 0)))), (b8, .inl (cJ, 8208, .inr (.inl (fun _ => 0)))), (b9, .inl (cJ, 8208, .inr (.inl (fun _ => 0)))), (b10, .inl (cZ, 8208, .inl (fun _ => 0)))] := hD
          have hP : va_P (dC, dI) vwCl (wm y b1 b2 b3 b4 b5 b6 b7 b8 b9 b10 cI cJ cZ 0 nD nR (fun _ => 0) (fun _ => false) 0 (fun _ => 0) (fun _ => 0) (fun _ => 0) 0 (fun _ => 0) (fun _ => 0) 0 (fun _ => 0) (fun _ => 0) (fun _ => false)) H := hP
          have hD : va_D A (wm y b1 b2 b3 b4 b5 b6 b7 b8 b9 b10 cI cJ cZ 0 nD nR (fun _ => 0) (fun _ => false) 0 (fun _ => 0) (fun _ => 0) (fun _ => 0) 0 (fun _ => 0) (fun _ => 0) 0 (fun _ => 0) (fun _ => 0) (fun _ => false)) := hD
          have hK := hK.sub (tys' := [(cI, .int), (cJ, .long), (cZ, .boolean)]) [2, 0, 1] rfl
          refine W.widen (k := 10) (n := 50256) (by omega) (by omega) ?_
          exact W.vret hx hb hr (fun t9 ht hW => ⟨⟨(), rfl, trivial, b1, b2, b3, b4, b5, b6, b7, b8, b9, b10, cI, cJ, cZ, by rw [ht]; exact hP, va_K.moved hW.alike hK, hD⟩, hS.F ht⟩) hS.2.2 dX1_init_135
        · have c_D := c_6
          refine lv_iload_n hx hb dX1_init_125 rfl (lv_at hl 2 rfl) ?_
          refine lv_goto (tgt := 132) hx hb dX1_init_126 (by decide) ?_
          refine tp_i (y := nI nR) (hj.elim (fun q => q.2.2.1) (fun q => absurd q.1 (fun q => q.elim (fun q => c_C ((i32_le0 _).mpr q)) c_D))) ?_
          refine va_putF (D := (dC, dI)) (ci := 1) (v := .int (nI nR)) (ty := .int) (C := RX1) (T := TX1) (N := 16) hx hb hall inX1 tyX1 tyX1_ok nmX1 hown hK hP hD hS 0 rfl rfl 2 (by decide) (hall _ kw_325) (fun _ h9 => h9) rfl hin9 rfl (by decide +kernel) rfl rfl (Nat.le_of_ble_eq_true rfl) dX1_init_132 (fun H locs hP hD hS => ?_)
          have hP : va_P (dC, dI) vwCl [(y, .inr (1, [.int (nI 0), .int (nI nD), .int (nI nR), .ref b1, .ref b2, .long 0, .ref b3, .ref b4, .ref b5, .int (nI 0), .ref b6, .ref b7, .int (nI 0), .ref b8, .ref b9, .ref b10])), (b1, .inl (cJ, 512, .inr (.inl (fun _ => 0)))), (b2, .inl (cZ, 512, .inl (fun _ => 0))), (b3, .inl (cI, 8192, .inl (fun _ => 0))), (b4, .inl (cJ, 8192, .inr (.inl (fun _ => 0)))), (b5, .inl (cJ, 8192, .inr (.inl (fun _ => 0)))), (b6, .inl (cJ, 16, .inr (.inl (fun _ => 0)))), (b7, .inl (cJ, 16, .inr (.inl (fun _ => 0)))), (b8, .inl (cJ, 8208, .inr (.inl (fun _ => 0)))), (b9, .inl (cJ, 8208, .inr (.inl (fun _ => 0)))), (b10, .inl (cZ, 8208, .inl (fun _ => 0)))] H := hP
          have hD : va_D A [(y, .inr (1, [.int (nI 0), .int (nI nD), .int (nI nR), .ref b1, .ref b2, .long 0, .ref b3, .ref b4, .ref b5, .int (nI 0), .ref b6, .ref b7, .int (nI 0), .ref b8, .ref b9, .ref b10])), (b1, .inl (cJ, 512, .inr (.inl (fun _ => 0)))), (b2, .inl (cZ, 512, .inl (fun _ => 0))), (b3, .inl (cI, 8192, .inl (fun _ => 0))), (b4, .inl (cJ, 8192, .inr (.inl (fun _ => 0)))), (b5, .inl (cJ, 8192, .inr (.inl (fun _ => 0)))), (b6, .inl (cJ, 16, .inr (.inl (fun _ => 0)))), (b7, .inl (cJ, 16, .inr (.inl (fun _ => 0)))), (b8, .inl (cJ, 8208, .inr (.inl (fun _ => 0)))), (b9, .inl (cJ, 8208, .inr (.inl (fun _ => 0)))), (b10, .inl (cZ, 8208, .inl (fun _ => 0)))] := hD
          have hP : va_P (dC, dI) vwCl (wm y b1 b2 b3 b4 b5 b6 b7 b8 b9 b10 cI cJ cZ 0 nD nR (fun _ => 0) (fun _ => false) 0 (fun _ => 0) (fun _ => 0) (fun _ => 0) 0 (fun _ => 0) (fun _ => 0) 0 (fun _ => 0) (fun _ => 0) (fun _ => false)) H := hP
          have hD : va_D A (wm y b1 b2 b3 b4 b5 b6 b7 b8 b9 b10 cI cJ cZ 0 nD nR (fun _ => 0) (fun _ => false) 0 (fun _ => 0) (fun _ => 0) (fun _ => 0) 0 (fun _ => 0) (fun _ => 0) 0 (fun _ => 0) (fun _ => 0) (fun _ => false)) := hD
          have hK := hK.sub (tys' := [(cI, .int), (cJ, .long), (cZ, .boolean)]) [2, 0, 1] rfl
          refine W.widen (k := 10) (n := 50256) (by omega) (by omega) ?_
          exact W.vret hx hb hr (fun t9 ht hW => ⟨⟨(), rfl, trivial, b1, b2, b3, b4, b5, b6, b7, b8, b9, b10, cI, cJ, cZ, by rw [ht]; exact hP, va_K.moved hW.alike hK, hD⟩, hS.F ht⟩) hS.2.2 dX1_init_135
    · have c_B := c_4
      refine lv_iload_n hx hb dX1_init_104 rfl (lv_at hl 1 rfl) ?_
      refine lv_goto (tgt := 110) hx hb dX1_init_105 (by decide) ?_
      refine tp_i (y := nI nD) (hi.elim (fun q => q.2.2.1) (fun q => absurd q.1 (fun q => q.elim (fun q => c_A ((i32_le0 _).mpr q)) c_B))) ?_
      refine va_putF (D := (dC, dI)) (ci := 1) (v := .int (nI nD)) (ty := .int) (C := RX1) (T := TX1) (N := 16) hx hb hall inX1 tyX1 tyX1_ok nmX1 hown hK hP hD hS 0 rfl rfl 1 (by decide) (hall _ kw_324) (fun _ h9 => h9) rfl hin9 rfl (by decide +kernel) rfl rfl (Nat.le_of_ble_eq_true rfl) dX1_init_110 (fun H locs hP hD hS => ?_)
      have hP : va_P (dC, dI) vwCl [(y, .inr (1, [.int (nI 0), .int (nI nD), .int 0, .ref b1, .ref b2, .long 0, .ref b3, .ref b4, .ref b5, .int (nI 0), .ref b6, .ref b7, .int (nI 0), .ref b8, .ref b9, .ref b10])), (b1, .inl (cJ, 512, .inr (.inl (fun _ => 0)))), (b2, .inl (cZ, 512, .inl (fun _ => 0))), (b3, .inl (cI, 8192, .inl (fun _ => 0))), (b4, .inl (cJ, 8192, .inr (.inl (fun _ => 0)))), (b5, .inl (cJ, 8192, .inr (.inl (fun _ => 0)))), (b6, .inl (cJ, 16, .inr (.inl (fun _ => 0)))), (b7, .inl (cJ, 16, .inr (.inl (fun _ => 0)))), (b8, .inl (cJ, 8208, .inr (.inl (fun _ => 0)))), (b9, .inl (cJ, 8208, .inr (.inl (fun _ => 0)))), (b10, .inl (cZ, 8208, .inl (fun _ => 0)))] H := hP
      have hD : va_D A [(y, .inr (1, [.int (nI 0), .int (nI nD), .int 0, .ref b1, .ref b2, .long 0, .ref b3, .ref b4, .ref b5, .int (nI 0), .ref b6, .ref b7, .int (nI 0), .ref b8, .ref b9, .ref b10])), (b1, .inl (cJ, 512, .inr (.inl (fun _ => 0)))), (b2, .inl (cZ, 512, .inl (fun _ => 0))), (b3, .inl (cI, 8192, .inl (fun _ => 0))), (b4, .inl (cJ, 8192, .inr (.inl (fun _ => 0)))), (b5, .inl (cJ, 8192, .inr (.inl (fun _ => 0)))), (b6, .inl (cJ, 16, .inr (.inl (fun _ => 0)))), (b7, .inl (cJ, 16, .inr (.inl (fun _ => 0)))), (b8, .inl (cJ, 8208, .inr (.inl (fun _ => 0)))), (b9, .inl (cJ, 8208, .inr (.inl (fun _ => 0)))), (b10, .inl (cZ, 8208, .inl (fun _ => 0)))] := hD
      refine lv_aload_n hx hb dX1_init_113 rfl (lv_at hl 0 rfl) ?_
      refine lv_iload_n hx hb dX1_init_114 rfl (lv_at hl 2 rfl) ?_
      refine lv_if_le (tgt := 129) hx hb dX1_init_115 (by decide) (fun c_7 => ?_) (fun c_7 => ?_)
      · have c_C := c_7
        refine lv_sipush (v := 1024) hx hb dX1_init_129 (by decide) ?_
        refine tp_i (y := nI nR) (hj.elim (fun q => by first | exact absurd ((i32_le0 _).mp c_C) q.1 | exact absurd c_D q.2.1) (fun q => by rw [q.2]; decide)) ?_
        refine va_putF (D := (dC, dI)) (ci := 1) (v := .int (nI nR)) (ty := .int) (C := RX1) (T := TX1) (N := 16) hx hb hall inX1 tyX1 tyX1_ok nmX1 hown hK hP hD hS 0 rfl rfl 2 (by decide) (hall _ kw_325) (fun _ h9 => h9) rfl hin9 rfl (by decide +kernel) rfl rfl (Nat.le_of_ble_eq_true rfl) dX1_init_132 (fun H locs hP hD hS => ?_)
        have hP : va_P (dC, dI) vwCl [(y, .inr (1, [.int (nI 0), .int (nI nD), .int (nI nR), .ref b1, .ref b2, .long 0, .ref b3, .ref b4, .ref b5, .int (nI 0), .ref b6, .ref b7, .int (nI 0), .ref b8, .ref b9, .ref b10])), (b1, .inl (cJ, 512, .inr (.inl (fun _ => 0)))), (b2, .inl (cZ, 512, .inl (fun _ => 0))), (b3, .inl (cI, 8192, .inl (fun _ => 0))), (b4, .inl (cJ, 8192, .inr (.inl (fun _ => 0)))), (b5, .inl (cJ, 8192, .inr (.inl (fun _ => 0)))), (b6, .inl (cJ, 16, .inr (.inl (fun _ => 0)))), (b7, .inl (cJ, 16, .inr (.inl (fun _ => 0)))), (b8, .inl (cJ, 8208, .inr (.inl (fun _ => 0)))), (b9, .inl (cJ, 8208, .inr (.inl (fun _ => 0)))), (b10, .inl (cZ, 8208, .inl (fun _ => 0)))] H := hP
        have hD : va_D A [(y, .inr (1, [.int (nI 0), .int (nI nD), .int (nI nR), .ref b1, .ref b2, .long 0, .ref b3, .ref b4, .ref b5, .int (nI 0), .ref b6, .ref b7, .int (nI 0), .ref b8, .ref b9, .ref b10])), (b1, .inl (cJ, 512, .inr (.inl (fun _ => 0)))), (b2, .inl (cZ, 512, .inl (fun _ => 0))), (b3, .inl (cI, 8192, .inl (fun _ => 0))), (b4, .inl (cJ, 8192, .inr (.inl (fun _ => 0)))), (b5, .inl (cJ, 8192, .inr (.inl (fun _ => 0)))), (b6, .inl (cJ, 16, .inr (.inl (fun _ => 0)))), (b7, .inl (cJ, 16, .inr (.inl (fun _ => 0)))), (b8, .inl (cJ, 8208, .inr (.inl (fun _ => 0)))), (b9, .inl (cJ, 8208, .inr (.inl (fun _ => 0)))), (b10, .inl (cZ, 8208, .inl (fun _ => 0)))] := hD
        have hP : va_P (dC, dI) vwCl (wm y b1 b2 b3 b4 b5 b6 b7 b8 b9 b10 cI cJ cZ 0 nD nR (fun _ => 0) (fun _ => false) 0 (fun _ => 0) (fun _ => 0) (fun _ => 0) 0 (fun _ => 0) (fun _ => 0) 0 (fun _ => 0) (fun _ => 0) (fun _ => false)) H := hP
        have hD : va_D A (wm y b1 b2 b3 b4 b5 b6 b7 b8 b9 b10 cI cJ cZ 0 nD nR (fun _ => 0) (fun _ => false) 0 (fun _ => 0) (fun _ => 0) (fun _ => 0) 0 (fun _ => 0) (fun _ => 0) 0 (fun _ => 0) (fun _ => 0) (fun _ => false)) := hD
        have hK := hK.sub (tys' := [(cI, .int), (cJ, .long), (cZ, .boolean)]) [2, 0, 1] rfl
        refine W.widen (k := 10) (n := 50256) (by omega) (by omega) ?_
        exact W.vret hx hb hr (fun t9 ht hW => ⟨⟨(), rfl, trivial, b1, b2, b3, b4, b5, b6, b7, b8, b9, b10, cI, cJ, cZ, by rw [ht]; exact hP, va_K.moved hW.alike hK, hD⟩, hS.F ht⟩) hS.2.2 dX1_init_135
      · have c_C := c_7
        refine lv_iload_n hx hb dX1_init_118 rfl (lv_at hl 2 rfl) ?_
        refine lv_sipush (v := 8192) hx hb dX1_init_119 (by decide) ?_
        refine lv_icmp_gt (tgt := 129) hx hb dX1_init_122 (by decide) (fun c_8 => ?_) (fun c_8 => ?_)
        · have c_D := c_8
          refine lv_sipush (v := 1024) hx hb dX1_init_129 (by decide) ?_
          refine tp_i (y := nI nR) (hj.elim (fun q => by first | exact absurd ((i32_le0 _).mp c_C) q.1 | exact absurd c_D q.2.1) (fun q => by rw [q.2]; decide)) ?_
          refine va_putF (D := (dC, dI)) (ci := 1) (v := .int (nI nR)) (ty := .int) (C := RX1) (T := TX1) (N := 16) hx hb hall inX1 tyX1 tyX1_ok nmX1 hown hK hP hD hS 0 rfl rfl 2 (by decide) (hall _ kw_325) (fun _ h9 => h9) rfl hin9 rfl (by decide +kernel) rfl rfl (Nat.le_of_ble_eq_true rfl) dX1_init_132 (fun H locs hP hD hS => ?_)
          have hP : va_P (dC, dI) vwCl [(y, .inr (1, [.int (nI 0), .int (nI nD), .int (nI nR), .ref b1, .ref b2, .long 0, .ref b3, .ref b4, .ref b5, .int (nI 0), .ref b6, .ref b7, .int (nI 0), .ref b8, .ref b9, .ref b10])), (b1, .inl (cJ, 512, .inr (.inl (fun _ => 0)))), (b2, .inl (cZ, 512, .inl (fun _ => 0))), (b3, .inl (cI, 8192, .inl (fun _ => 0))), (b4, .inl (cJ, 8192, .inr (.inl (fun _ => 0)))), (b5, .inl (cJ, 8192, .inr (.inl (fun _ => 0)))), (b6, .inl (cJ, 16, .inr (.inl (fun _ => 0)))), (b7, .inl (cJ, 16, .inr (.inl (fun _ => 0)))), (b8, .inl (cJ, 8208, .inr (.inl (fun _ => 0)))), (b9, .inl (cJ, 8208, .inr (.inl (fun _ => 0)))), (b10, .inl (cZ, 8208, .inl (fun _ => 0)))] H := hP
          have hD : va_D A [(y, .inr (1, [.int (nI 0), .int (nI nD), .int (nI nR), .ref b1, .ref b2, .long 0, .ref b3, .ref b4, .ref b5, .int (nI 0), .ref b6, .ref b7, .int (nI 0), .ref b8, .ref b9, .ref b10])), (b1, .inl (cJ, 512, .inr (.inl (fun _ => 0)))), (b2, .inl (cZ, 512, .inl (fun _ => 0))), (b3, .inl (cI, 8192, .inl (fun _ => 0))), (b4, .inl (cJ, 8192, .inr (.inl (fun _ => 0)))), (b5, .inl (cJ, 8192, .inr (.inl (fun _ => 0)))), (b6, .inl (cJ, 16, .inr (.inl (fun _ => 0)))), (b7, .inl (cJ, 16, .inr (.inl (fun _ => 0)))), (b8, .inl (cJ, 8208, .inr (.inl (fun _ => 0)))), (b9, .inl (cJ, 8208, .inr (.inl (fun _ => 0)))), (b10, .inl (cZ, 8208, .inl (fun _ => 0)))] := hD
          have hP : va_P (dC, dI) vwCl (wm y b1 b2 b3 b4 b5 b6 b7 b8 b9 b10 cI cJ cZ 0 nD nR (fun _ => 0) (fun _ => false) 0 (fun _ => 0) (fun _ => 0) (fun _ => 0) 0 (fun _ => 0) (fun _ => 0) 0 (fun _ => 0) (fun _ => 0) (fun _ => false)) H := hP
          have hD : va_D A (wm y b1 b2 b3 b4 b5 b6 b7 b8 b9 b10 cI cJ cZ 0 nD nR (fun _ => 0) (fun _ => false) 0 (fun _ => 0) (fun _ => 0) (fun _ => 0) 0 (fun _ => 0) (fun _ => 0) 0 (fun _ => 0) (fun _ => 0) (fun _ => false)) := hD
          have hK := hK.sub (tys' := [(cI, .int), (cJ, .long), (cZ, .boolean)]) [2, 0, 1] rfl
          refine W.widen (k := 10) (n := 50256) (by omega) (by omega) ?_
          exact W.vret hx hb hr (fun t9 ht hW => ⟨⟨(), rfl, trivial, b1, b2, b3, b4, b5, b6, b7, b8, b9, b10, cI, cJ, cZ, by rw [ht]; exact hP, va_K.moved hW.alike hK, hD⟩, hS.F ht⟩) hS.2.2 dX1_init_135
        · have c_D := c_8
          refine lv_iload_n hx hb dX1_init_125 rfl (lv_at hl 2 rfl) ?_
          refine lv_goto (tgt := 132) hx hb dX1_init_126 (by decide) ?_
          refine tp_i (y := nI nR) (hj.elim (fun q => q.2.2.1) (fun q => absurd q.1 (fun q => q.elim (fun q => c_C ((i32_le0 _).mpr q)) c_D))) ?_
          refine va_putF (D := (dC, dI)) (ci := 1) (v := .int (nI nR)) (ty := .int) (C := RX1) (T := TX1) (N := 16) hx hb hall inX1 tyX1 tyX1_ok nmX1 hown hK hP hD hS 0 rfl rfl 2 (by decide) (hall _ kw_325) (fun _ h9 => h9) rfl hin9 rfl (by decide +kernel) rfl rfl (Nat.le_of_ble_eq_true rfl) dX1_init_132 (fun H locs hP hD hS => ?_)
          have hP : va_P (dC, dI) vwCl [(y, .inr (1, [.int (nI 0), .int (nI nD), .int (nI nR), .ref b1, .ref b2, .long 0, .ref b3, .ref b4, .ref b5, .int (nI 0), .ref b6, .ref b7, .int (nI 0), .ref b8, .ref b9, .ref b10])), (b1, .inl (cJ, 512, .inr (.inl (fun _ => 0)))), (b2, .inl (cZ, 512, .inl (fun _ => 0))), (b3, .inl (cI, 8192, .inl (fun _ => 0))), (b4, .inl (cJ, 8192, .inr (.inl (fun _ => 0)))), (b5, .inl (cJ, 8192, .inr (.inl (fun _ => 0)))), (b6, .inl (cJ, 16, .inr (.inl (fun _ => 0)))), (b7, .inl (cJ, 16, .inr (.inl (fun _ => 0)))), (b8, .inl (cJ, 8208, .inr (.inl (fun _ => 0)))), (b9, .inl (cJ, 8208, .inr (.inl (fun _ => 0)))), (b10, .inl (cZ, 8208, .inl (fun _ => 0)))] H := hP
          have hD : va_D A [(y, .inr (1, [.int (nI 0), .int (nI nD), .int (nI nR), .ref b1, .ref b2, .long 0, .ref b3, .ref b4, .ref b5, .int (nI 0), .ref b6, .ref b7, .int (nI 0), .ref b8, .ref b9, .ref b10])), (b1, .inl (cJ, 512, .inr (.inl (fun _ => 0)))), (b2, .inl (cZ, 512, .inl (fun _ => 0))), (b3, .inl (cI, 8192, .inl (fun _ => 0))), (b4, .inl (cJ, 8192, .inr (.inl (fun _ => 0)))), (b5, .inl (cJ, 8192, .inr (.inl (fun _ => 0)))), (b6, .inl (cJ, 16, .inr (.inl (fun _ => 0)))), (b7, .inl (cJ, 16, .inr (.inl (fun _ => 0)))), (b8, .inl (cJ, 8208, .inr (.inl (fun _ => 0)))), (b9, .inl (cJ, 8208, .inr (.inl (fun _ => 0)))), (b10, .inl (cZ, 8208, .inl (fun _ => 0)))] := hD
          have hP : va_P (dC, dI) vwCl (wm y b1 b2 b3 b4 b5 b6 b7 b8 b9 b10 cI cJ cZ 0 nD nR (fun _ => 0) (fun _ => false) 0 (fun _ => 0) (fun _ => 0) (fun _ => 0) 0 (fun _ => 0) (fun _ => 0) 0 (fun _ => 0) (fun _ => 0) (fun _ => false)) H := hP
          have hD : va_D A (wm y b1 b2 b3 b4 b5 b6 b7 b8 b9 b10 cI cJ cZ 0 nD nR (fun _ => 0) (fun _ => false) 0 (fun _ => 0) (fun _ => 0) (fun _ => 0) 0 (fun _ => 0) (fun _ => 0) 0 (fun _ => 0) (fun _ => 0) (fun _ => false)) := hD
          have hK := hK.sub (tys' := [(cI, .int), (cJ, .long), (cZ, .boolean)]) [2, 0, 1] rfl
          refine W.widen (k := 10) (n := 50256) (by omega) (by omega) ?_
          exact W.vret hx hb hr (fun t9 ht hW => ⟨⟨(), rfl, trivial, b1, b2, b3, b4, b5, b6, b7, b8, b9, b10, cI, cJ, cZ, by rw [ht]; exact hP, va_K.moved hW.alike hK, hD⟩, hS.F ht⟩) hS.2.2 dX1_init_135
