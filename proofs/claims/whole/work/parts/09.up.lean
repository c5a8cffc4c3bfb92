set_option maxHeartbeats 4000000 in
set_option maxRecDepth 100000 in
theorem c_drop (l : Launch) (dC : Nat → ClassId) (dI : Nat → Nat → Nat) (x a1 a2 a3 a4 a5 a6 a7 : Nat) (cI cJ : ClassId) (nD nR : Nat) (dv : Nat → Int64) (r : Nat → Nat) (cap : Nat) (ti va ev ed : Nat → Int64) (ec : Nat) (ad : Nat → Int32) (ac : Nat) (now : Int64) (sz : Nat)  : Met l yX0_drop wsX0_drop ({ frames := 0, cells := 0, slots := 0, locals := 0 }) (va_Pc [.ref x] (fun U => U.heap.size = sz ∧ va_P (dC, dI) vwCl (wr x a1 a2 a3 a4 a5 a6 a7 cI cJ nD nR dv r cap ti va ev ed ec ad ac now) U.heap ∧ va_K (dC, dI) vwCl [(cI, .int), (cJ, .long)] U ∧ va_D (fun _ => True) (wr x a1 a2 a3 a4 a5 a6 a7 cI cJ nD nR dv r cap ti va ev ed ec ad ac now))) (va_Qi (fun (v : Int32) (_ : Unit) => v = nI ec) (fun _ t9 => va_P (dC, dI) vwCl (wr x a1 a2 a3 a4 a5 a6 a7 cI cJ nD nR dv r cap ti va ev ed 0 ad ac now) t9.heap ∧ va_K (dC, dI) vwCl [(cI, .int), (cJ, .long)] t9 ∧ va_D (va_A (wr x a1 a2 a3 a4 a5 a6 a7 cI cJ nD nR dv r cap ti va ev ed ec ad ac now) sz) (wr x a1 a2 a3 a4 a5 a6 a7 cI cJ nD nR dv r cap ti va ev ed 0 ad ac now)) (va_A (wr x a1 a2 a3 a4 a5 a6 a7 cI cJ nD nR dv r cap ti va ev ed ec ad ac now) sz)) 0 0 (va_A (wr x a1 a2 a3 a4 a5 a6 a7 cI cJ nD nR dv r cap ti va ev ed ec ad ac now) sz) := by
  refine Met.ofW (cc := cX0_drop) (maxL := 2) (ret := (some .int)) (by decide) rfl ?_
  intro p e s m args below meth c s₁ B hml hv
  obtain ⟨rfl, hsz, hP, hK, hD0⟩ := hv
  subst hsz
  have hD := hD0.self (sz := s.heap.size)
  generalize hAe : va_A (wr x a1 a2 a3 a4 a5 a6 a7 cI cJ nD nR dv r cap ti va ev ed ec ad ac now) s.heap.size = A at hD ⊢
  have hA : ∀ q : Nat, s.heap.size ≤ q → A q := fun q h => by rw [← hAe]; exact Or.inr h
  have hS : va_S A s.heap s.heap [] := va_S.rf
  have hx := B.exec
  have hb := B.bytes
  have hr := B.returns
  have hts := atoms_spec (ws := wsX0_drop) B.pre
  have hown : s.vm.findClass RX0 = some m.cls := findClass_of_methodNamed B.named
  have hlocks := B.notSynchronized
  have hall := fun (w : Cond) (h : w ∈ allw) => hts w (List.mem_cons_of_mem _ h)
  have hl := lv_entry ([.ref x]) (n := 2) (Nat.le_of_ble_eq_true rfl)
  rw [lg_entry_eq]
  generalize (lg_sl ([.ref x]) ++ List.replicate (2 - (lg_sl ([.ref x])).length) Slot.unset).toArray = ls at hl ⊢
  have hl : lv_has ls 2 [(0, .ref x)] := hl
  refine lv_aload_n hx hb dX0_drop_0 rfl (lv_at hl 0 rfl) ?_
  refine va_get (D := (dC, dI)) (ci := 0) (v := .int (nI ec)) (C := RX0) (T := TX0) (N := 12) hx hb hall inX0 hown hK hP 0 rfl rfl 8 (by decide) (hall _ kw_31) (fun _ h9 => h9) rfl dX0_drop_1 ?_
  refine lv_istore_n (lv' := [(1, .int (nI ec)), (0, .ref x)]) hx hb dX0_drop_4 rfl hl (by decide) rfl (fun ls hl => ?_)
  refine lv_aload_n hx hb dX0_drop_5 rfl (lv_at hl 1 rfl) ?_
  refine lv_iconst (v := 0) hx hb dX0_drop_6 (by decide) ?_
  refine tp_i (y := nI 0) nI_0.symm ?_
  refine va_put (D := (dC, dI)) (ci := 0) (v := .int (nI 0)) (ty := .int) (C := RX0) (T := TX0) (N := 12) hx hb hall inX0 tyX0 tyX0_ok nmX0 hown hK hP hD hS 0 rfl rfl 8 (by decide) (hall _ kw_31) (fun _ h9 => h9) rfl (by decide +kernel) rfl rfl (Nat.le_of_ble_eq_true rfl) dX0_drop_7 (fun H locs hP hD hS => ?_)
  have hP : va_P (dC, dI) vwCl [(x, .inr (0, [.int (nI nD), .int (nI nR), .ref a1, .ref a2, .ref a3, .ref a4, .ref a5, .ref a6, .int (nI 0), .ref a7, .int (nI ac), .long now])), (a1, .inl (cJ, nD, .inr (.inl dv))), (a2, .inl (cI, nD + 1, .inl (fun j => nI (r j)))), (a3, .inl (cJ, cap, .inr (.inl ti))), (a4, .inl (cJ, cap, .inr (.inl va))), (a5, .inl (cJ, 16, .inr (.inl ev))), (a6, .inl (cJ, 16, .inr (.inl ed))), (a7, .inl (cI, nD, .inl ad))] H := hP
  have hD : va_D A [(x, .inr (0, [.int (nI nD), .int (nI nR), .ref a1, .ref a2, .ref a3, .ref a4, .ref a5, .ref a6, .int (nI 0), .ref a7, .int (nI ac), .long now])), (a1, .inl (cJ, nD, .inr (.inl dv))), (a2, .inl (cI, nD + 1, .inl (fun j => nI (r j)))), (a3, .inl (cJ, cap, .inr (.inl ti))), (a4, .inl (cJ, cap, .inr (.inl va))), (a5, .inl (cJ, 16, .inr (.inl ev))), (a6, .inl (cJ, 16, .inr (.inl ed))), (a7, .inl (cI, nD, .inl ad))] := hD
  refine lv_iload_n hx hb dX0_drop_10 rfl (lv_at hl 0 rfl) ?_
  exact W.iret (v := nI ec) hx hb hr (fun t9 ht hW => ⟨⟨nI ec, (), rfl, rfl, by rw [ht]; exact hP, va_K.moved hW.alike hK, hD⟩, hS.F ht⟩) hS.2.2 dX0_drop_11
set_option maxHeartbeats 4000000 in
set_option maxRecDepth 100000 in
theorem c_element (l : Launch) (dC : Nat → ClassId) (dI : Nat → Nat → Nat) (x a1 a2 a3 a4 a5 a6 a7 : Nat) (cI cJ : ClassId) (nD nR : Nat) (dv : Nat → Int64) (r : Nat → Nat) (cap : Nat) (ti va ev ed : Nat → Int64) (ec : Nat) (ad : Nat → Int32) (ac : Nat) (now : Int64) (sz : Nat) (hI : wf_R nD nR cap ec ac r) (v0 t : Int64) (h1 : ¬ t < 0) (h2 : ¬ 1152921504606846976 < t) (h3 : ec < 16) : Met l yX0_element wsX0_element ({ frames := 0, cells := 0, slots := 0, locals := 0 }) (va_Pc [.ref x, .long v0, .long t] (fun U => U.heap.size = sz ∧ va_P (dC, dI) vwCl (wr x a1 a2 a3 a4 a5 a6 a7 cI cJ nD nR dv r cap ti va ev ed ec ad ac now) U.heap ∧ va_K (dC, dI) vwCl [(cI, .int), (cJ, .long)] U ∧ va_D (fun _ => True) (wr x a1 a2 a3 a4 a5 a6 a7 cI cJ nD nR dv r cap ti va ev ed ec ad ac now))) (va_Qv (fun _ : Unit => True) (fun _ t9 => va_P (dC, dI) vwCl (wr x a1 a2 a3 a4 a5 a6 a7 cI cJ nD nR dv r cap ti va (vp_updL ev ec v0) (vp_updL ed ec t) (ec + 1) ad ac now) t9.heap ∧ va_K (dC, dI) vwCl [(cI, .int), (cJ, .long)] t9 ∧ va_D (va_A (wr x a1 a2 a3 a4 a5 a6 a7 cI cJ nD nR dv r cap ti va ev ed ec ad ac now) sz) (wr x a1 a2 a3 a4 a5 a6 a7 cI cJ nD nR dv r cap ti va (vp_updL ev ec v0) (vp_updL ed ec t) (ec + 1) ad ac now)) (va_A (wr x a1 a2 a3 a4 a5 a6 a7 cI cJ nD nR dv r cap ti va ev ed ec ad ac now) sz)) 0 0 (va_A (wr x a1 a2 a3 a4 a5 a6 a7 cI cJ nD nR dv r cap ti va ev ed ec ad ac now) sz) := by
  refine Met.ofW (cc := cX0_element) (maxL := 5) (ret := none) (by decide) rfl ?_
  intro p e s m args below meth c s₁ B hml hv
  obtain ⟨rfl, hsz, hP, hK, hD0⟩ := hv
  subst hsz
  have hD := hD0.self (sz := s.heap.size)
  generalize hAe : va_A (wr x a1 a2 a3 a4 a5 a6 a7 cI cJ nD nR dv r cap ti va ev ed ec ad ac now) s.heap.size = A at hD ⊢
  have hA : ∀ q : Nat, s.heap.size ≤ q → A q := fun q h => by rw [← hAe]; exact Or.inr h
  have hS : va_S A s.heap s.heap [] := va_S.rf
  have hx := B.exec
  have hb := B.bytes
  have hr := B.returns
  have hts := atoms_spec (ws := wsX0_element) B.pre
  have hown : s.vm.findClass RX0 = some m.cls := findClass_of_methodNamed B.named
  have hlocks := B.notSynchronized
  have hall := fun (w : Cond) (h : w ∈ allw) => hts w (List.mem_cons_of_mem _ h)
  have hl := lv_entry ([.ref x, .long v0, .long t]) (n := 5) (Nat.le_of_ble_eq_true rfl)
  rw [lg_entry_eq]
  generalize (lg_sl ([.ref x, .long v0, .long t]) ++ List.replicate (5 - (lg_sl ([.ref x, .long v0, .long t])).length) Slot.unset).toArray = ls at hl ⊢
  have hl : lv_has ls 5 [(0, .ref x), (1, .long v0), (3, .long t)] := hl
  obtain ⟨hnD1, hnD, hnR1, hnR, hcap, hrc, hrR, hr0, hmo, hec, hac⟩ := hI
  refine lv_lload_n hx hb dX0_element_0 rfl (lv_at hl 2 rfl) ?_
  refine lv_lconst (v := 0) hx hb dX0_element_1 (by decide) ?_
  refine xl_lt (tgt := 14) hx hb dX0_element_2 dX0_element_3 (by decide) (fun c_1 => ?_) (fun c_1 => ?_)
  · exact absurd c_1 h1
  · refine lv_lload_n hx hb dX0_element_6 rfl (lv_at hl 2 rfl) ?_
    refine lv_ldc2 (v := 1152921504606846976) hx hb hown (hall _ kw_102) dX0_element_7 ?_
    refine xl_le (tgt := 24) hx hb dX0_element_10 dX0_element_11 (by decide) (fun c_2 => ?_) (fun c_2 => ?_)
    · refine lv_aload_n hx hb dX0_element_24 rfl (lv_at hl 0 rfl) ?_
      refine va_get (D := (dC, dI)) (ci := 0) (v := .int (nI ec)) (C := RX0) (T := TX0) (N := 12) hx hb hall inX0 hown hK hP 0 rfl rfl 8 (by decide) (hall _ kw_31) (fun _ h9 => h9) rfl dX0_element_25 ?_
      refine lv_bipush (v := 16) hx hb dX0_element_28 (by decide) ?_
      refine tp_i (y := nI 16) (by decide) ?_
      refine xc_lt (tgt := 43) hx hb (by omega) (by omega) dX0_element_30 (by decide) (fun c_3 => ?_) (fun c_3 => ?_)
      · refine lv_aload_n hx hb dX0_element_43 rfl (lv_at hl 0 rfl) ?_
        refine va_get (D := (dC, dI)) (ci := 0) (v := .ref a5) (C := RX0) (T := TX0) (N := 12) hx hb hall inX0 hown hK hP 0 rfl rfl 6 (by decide) (hall _ kw_29) (fun _ h9 => h9) rfl dX0_element_44 ?_
        refine lv_aload_n hx hb dX0_element_47 rfl (lv_at hl 0 rfl) ?_
        refine va_get (D := (dC, dI)) (ci := 0) (v := .int (nI ec)) (C := RX0) (T := TX0) (N := 12) hx hb hall inX0 hown hK hP 0 rfl rfl 8 (by decide) (hall _ kw_31) (fun _ h9 => h9) rfl dX0_element_48 ?_
        refine lv_lload_n hx hb dX0_element_51 rfl (lv_at hl 1 rfl) ?_
        refine xa_last hx hb hK hP hD hS 5 1 rfl rfl (by omega) (by omega) dX0_element_52 (fun H locs hP hD hS => ?_)
        have hP : va_P (dC, dI) vwCl [(x, .inr (0, [.int (nI nD), .int (nI nR), .ref a1, .ref a2, .ref a3, .ref a4, .ref a5, .ref a6, .int (nI ec), .ref a7, .int (nI ac), .long now])), (a1, .inl (cJ, nD, .inr (.inl dv))), (a2, .inl (cI, nD + 1, .inl (fun j => nI (r j)))), (a3, .inl (cJ, cap, .inr (.inl ti))), (a4, .inl (cJ, cap, .inr (.inl va))), (a5, .inl (cJ, 16, .inr (.inl (vp_updL ev ec v0)))), (a6, .inl (cJ, 16, .inr (.inl ed))), (a7, .inl (cI, nD, .inl ad))] H := hP
        have hD : va_D A [(x, .inr (0, [.int (nI nD), .int (nI nR), .ref a1, .ref a2, .ref a3, .ref a4, .ref a5, .ref a6, .int (nI ec), .ref a7, .int (nI ac), .long now])), (a1, .inl (cJ, nD, .inr (.inl dv))), (a2, .inl (cI, nD + 1, .inl (fun j => nI (r j)))), (a3, .inl (cJ, cap, .inr (.inl ti))), (a4, .inl (cJ, cap, .inr (.inl va))), (a5, .inl (cJ, 16, .inr (.inl (vp_updL ev ec v0)))), (a6, .inl (cJ, 16, .inr (.inl ed))), (a7, .inl (cI, nD, .inl ad))] := hD
        refine lv_aload_n hx hb dX0_element_53 rfl (lv_at hl 0 rfl) ?_
        refine va_get (D := (dC, dI)) (ci := 0) (v := .ref a6) (C := RX0) (T := TX0) (N := 12) hx hb hall inX0 hown hK hP 0 rfl rfl 7 (by decide) (hall _ kw_30) (fun _ h9 => h9) rfl dX0_element_54 ?_
        refine lv_aload_n hx hb dX0_element_57 rfl (lv_at hl 0 rfl) ?_
        refine va_get (D := (dC, dI)) (ci := 0) (v := .int (nI ec)) (C := RX0) (T := TX0) (N := 12) hx hb hall inX0 hown hK hP 0 rfl rfl 8 (by decide) (hall _ kw_31) (fun _ h9 => h9) rfl dX0_element_58 ?_
        refine lv_lload_n hx hb dX0_element_61 rfl (lv_at hl 2 rfl) ?_
        refine xa_last hx hb hK hP hD hS 6 1 rfl rfl (by omega) (by omega) dX0_element_62 (fun H locs hP hD hS => ?_)
        have hP : va_P (dC, dI) vwCl [(x, .inr (0, [.int (nI nD), .int (nI nR), .ref a1, .ref a2, .ref a3, .ref a4, .ref a5, .ref a6, .int (nI ec), .ref a7, .int (nI ac), .long now])), (a1, .inl (cJ, nD, .inr (.inl dv))), (a2, .inl (cI, nD + 1, .inl (fun j => nI (r j)))), (a3, .inl (cJ, cap, .inr (.inl ti))), (a4, .inl (cJ, cap, .inr (.inl va))), (a5, .inl (cJ, 16, .inr (.inl (vp_updL ev ec v0)))), (a6, .inl (cJ, 16, .inr (.inl (vp_updL ed ec t)))), (a7, .inl (cI, nD, .inl ad))] H := hP
        have hD : va_D A [(x, .inr (0, [.int (nI nD), .int (nI nR), .ref a1, .ref a2, .ref a3, .ref a4, .ref a5, .ref a6, .int (nI ec), .ref a7, .int (nI ac), .long now])), (a1, .inl (cJ, nD, .inr (.inl dv))), (a2, .inl (cI, nD + 1, .inl (fun j => nI (r j)))), (a3, .inl (cJ, cap, .inr (.inl ti))), (a4, .inl (cJ, cap, .inr (.inl va))), (a5, .inl (cJ, 16, .inr (.inl (vp_updL ev ec v0)))), (a6, .inl (cJ, 16, .inr (.inl (vp_updL ed ec t)))), (a7, .inl (cI, nD, .inl ad))] := hD
        refine lv_aload_n hx hb dX0_element_63 rfl (lv_at hl 0 rfl) ?_
        refine lv_dup hx hb dX0_element_64 rfl ?_
        refine va_get (D := (dC, dI)) (ci := 0) (v := .int (nI ec)) (C := RX0) (T := TX0) (N := 12) hx hb hall inX0 hown hK hP 0 rfl rfl 8 (by decide) (hall _ kw_31) (fun _ h9 => h9) rfl dX0_element_65 ?_
        refine lv_iconst (v := 1) hx hb dX0_element_68 (by decide) ?_
        refine lv_iadd hx hb dX0_element_69 ?_
        refine tp_i (y := nI (ec + 1)) (nI_1 ec) ?_
        refine va_put (D := (dC, dI)) (ci := 0) (v := .int (nI (ec + 1))) (ty := .int) (C := RX0) (T := TX0) (N := 12) hx hb hall inX0 tyX0 tyX0_ok nmX0 hown hK hP hD hS 0 rfl rfl 8 (by decide) (hall _ kw_31) (fun _ h9 => h9) rfl (by decide +kernel) rfl rfl (Nat.le_of_ble_eq_true rfl) dX0_element_70 (fun H locs hP hD hS => ?_)
        have hP : va_P (dC, dI) vwCl [(x, .inr (0, [.int (nI nD), .int (nI nR), .ref a1, .ref a2, .ref a3, .ref a4, .ref a5, .ref a6, .int (nI (ec + 1)), .ref a7, .int (nI ac), .long now])), (a1, .inl (cJ, nD, .inr (.inl dv))), (a2, .inl (cI, nD + 1, .inl (fun j => nI (r j)))), (a3, .inl (cJ, cap, .inr (.inl ti))), (a4, .inl (cJ, cap, .inr (.inl va))), (a5, .inl (cJ, 16, .inr (.inl (vp_updL ev ec v0)))), (a6, .inl (cJ, 16, .inr (.inl (vp_updL ed ec t)))), (a7, .inl (cI, nD, .inl ad))] H := hP
        have hD : va_D A [(x, .inr (0, [.int (nI nD), .int (nI nR), .ref a1, .ref a2, .ref a3, .ref a4, .ref a5, .ref a6, .int (nI (ec + 1)), .ref a7, .int (nI ac), .long now])), (a1, .inl (cJ, nD, .inr (.inl dv))), (a2, .inl (cI, nD + 1, .inl (fun j => nI (r j)))), (a3, .inl (cJ, cap, .inr (.inl ti))), (a4, .inl (cJ, cap, .inr (.inl va))), (a5, .inl (cJ, 16, .inr (.inl (vp_updL ev ec v0)))), (a6, .inl (cJ, 16, .inr (.inl (vp_updL ed ec t)))), (a7, .inl (cI, nD, .inl ad))] := hD
        exact W.vret hx hb hr (fun t9 ht hW => ⟨⟨(), rfl, trivial, by rw [ht]; exact hP, va_K.moved hW.alike hK, hD⟩, hS.F ht⟩) hS.2.2 dX0_element_73
      · exact absurd c_3 (by omega)
    · exact absurd (Int64.not_le.mp c_2) h2
set_option maxHeartbeats 4000000 in
set_option maxRecDepth 100000 in
theorem c_moveTransactions (l : Launch) (dC : Nat → ClassId) (dI : Nat → Nat → Nat) (x a1 a2 a3 a4 a5 a6 a7 : Nat) (cI cJ : ClassId) (nD nR : Nat) (dv : Nat → Int64) (r : Nat → Nat) (cap : Nat) (ti va ev ed : Nat → Int64) (ec : Nat) (ad : Nat → Int32) (ac : Nat) (now : Int64) (sz : Nat) (f t n : Nat) (h1 : f + n ≤ cap) (h2 : t + n ≤ cap) (hc : cap ≤ 8192) : Met l yX0_moveTransactions wsX0_moveTransactions ({ frames := 1, cells := 0, slots := 0, locals := 60 }) (va_Pc [.ref x, .int (nI f), .int (nI t), .int (nI n)] (fun U => U.heap.size = sz ∧ va_P (dC, dI) vwCl (wr x a1 a2 a3 a4 a5 a6 a7 cI cJ nD nR dv r cap ti va ev ed ec ad ac now) U.heap ∧ va_K (dC, dI) vwCl [(cI, .int), (cJ, .long)] U ∧ va_D (fun _ => True) (wr x a1 a2 a3 a4 a5 a6 a7 cI cJ nD nR dv r cap ti va ev ed ec ad ac now))) (va_Qv (fun _ : Unit => True) (fun _ t9 => va_P (dC, dI) vwCl (wr x a1 a2 a3 a4 a5 a6 a7 cI cJ nD nR dv r cap (va_cpy ti ti f t n) (va_cpy va va f t n) ev ed ec ad ac now) t9.heap ∧ va_K (dC, dI) vwCl [(cI, .int), (cJ, .long)] t9 ∧ va_D (va_A (wr x a1 a2 a3 a4 a5 a6 a7 cI cJ nD nR dv r cap ti va ev ed ec ad ac now) sz) (wr x a1 a2 a3 a4 a5 a6 a7 cI cJ nD nR dv r cap (va_cpy ti ti f t n) (va_cpy va va f t n) ev ed ec ad ac now)) (va_A (wr x a1 a2 a3 a4 a5 a6 a7 cI cJ nD nR dv r cap ti va ev ed ec ad ac now) sz)) 0 0 (va_A (wr x a1 a2 a3 a4 a5 a6 a7 cI cJ nD nR dv r cap ti va ev ed ec ad ac now) sz) := by
  refine Met.ofW (cc := cX0_moveTransactions) (maxL := 4) (ret := none) (by decide) rfl ?_
  intro p e s m args below meth c s₁ B hml hv
  obtain ⟨rfl, hsz, hP, hK, hD0⟩ := hv
  subst hsz
  have hD := hD0.self (sz := s.heap.size)
  generalize hAe : va_A (wr x a1 a2 a3 a4 a5 a6 a7 cI cJ nD nR dv r cap ti va ev ed ec ad ac now) s.heap.size = A at hD ⊢
  have hA : ∀ q : Nat, s.heap.size ≤ q → A q := fun q h => by rw [← hAe]; exact Or.inr h
  have hS : va_S A s.heap s.heap [] := va_S.rf
  have hx := B.exec
  have hb := B.bytes
  have hr := B.returns
  have hts := atoms_spec (ws := wsX0_moveTransactions) B.pre
  have hown : s.vm.findClass RX0 = some m.cls := findClass_of_methodNamed B.named
  have hlocks := B.notSynchronized
  have hall := fun (w : Cond) (h : w ∈ allw) => hts w (List.mem_cons_of_mem _ h)
  have hl := lv_entry ([.ref x, .int (nI f), .int (nI t), .int (nI n)]) (n := 4) (Nat.le_of_ble_eq_true rfl)
  rw [lg_entry_eq]
  generalize (lg_sl ([.ref x, .int (nI f), .int (nI t), .int (nI n)]) ++ List.replicate (4 - (lg_sl ([.ref x, .int (nI f), .int (nI t), .int (nI n)])).length) Slot.unset).toArray = ls at hl ⊢
  have hl : lv_has ls 4 [(0, .ref x), (1, .int (nI f)), (2, .int (nI t)), (3, .int (nI n))] := hl
  refine lv_aload_n hx hb dX0_moveTransactions_0 rfl (lv_at hl 0 rfl) ?_
  refine va_get (D := (dC, dI)) (ci := 0) (v := .ref a3) (C := RX0) (T := TX0) (N := 12) hx hb hall inX0 hown hK hP 0 rfl rfl 4 (by decide) (hall _ kw_27) (fun _ h9 => h9) rfl dX0_moveTransactions_1 ?_
  refine lv_iload_n hx hb dX0_moveTransactions_4 rfl (lv_at hl 1 rfl) ?_
  refine lv_aload_n hx hb dX0_moveTransactions_5 rfl (lv_at hl 0 rfl) ?_
  refine va_get (D := (dC, dI)) (ci := 0) (v := .ref a3) (C := RX0) (T := TX0) (N := 12) hx hb hall inX0 hown hK hP 0 rfl rfl 4 (by decide) (hall _ kw_27) (fun _ h9 => h9) rfl dX0_moveTransactions_6 ?_
  refine lv_iload_n hx hb dX0_moveTransactions_9 rfl (lv_at hl 2 rfl) ?_
  refine lv_iload_n hx hb dX0_moveTransactions_10 rfl (lv_at hl 3 rfl) ?_
  refine xa_copyl hx hb (hml.trans hl.1.symm) hown (hall _ kw_242) (hall _ kw_244) (hall _ kw_243) (hall _ kw_10) hK hP hD hS 3 1 rfl rfl (by omega) (by omega) (by omega) (Nat.le_of_ble_eq_true rfl) (Nat.le_of_ble_eq_true rfl) dX0_moveTransactions_11 (fun H locs hP hD hS => ?_)
  have hP : va_P (dC, dI) vwCl [(x, .inr (0, [.int (nI nD), .int (nI nR), .ref a1, .ref a2, .ref a3, .ref a4, .ref a5, .ref a6, .int (nI ec), .ref a7, .int (nI ac), .long now])), (a1, .inl (cJ, nD, .inr (.inl dv))), (a2, .inl (cI, nD + 1, .inl (fun j => nI (r j)))), (a3, .inl (cJ, cap, .inr (.inl (va_cpy ti ti f t n)))), (a4, .inl (cJ, cap, .inr (.inl va))), (a5, .inl (cJ, 16, .inr (.inl ev))), (a6, .inl (cJ, 16, .inr (.inl ed))), (a7, .inl (cI, nD, .inl ad))] H := hP
  have hD : va_D A [(x, .inr (0, [.int (nI nD), .int (nI nR), .ref a1, .ref a2, .ref a3, .ref a4, .ref a5, .ref a6, .int (nI ec), .ref a7, .int (nI ac), .long now])), (a1, .inl (cJ, nD, .inr (.inl dv))), (a2, .inl (cI, nD + 1, .inl (fun j => nI (r j)))), (a3, .inl (cJ, cap, .inr (.inl (va_cpy ti ti f t n)))), (a4, .inl (cJ, cap, .inr (.inl va))), (a5, .inl (cJ, 16, .inr (.inl ev))), (a6, .inl (cJ, 16, .inr (.inl ed))), (a7, .inl (cI, nD, .inl ad))] := hD
  refine lv_aload_n hx hb dX0_moveTransactions_14 rfl (lv_at hl 0 rfl) ?_
  refine va_get (D := (dC, dI)) (ci := 0) (v := .ref a4) (C := RX0) (T := TX0) (N := 12) hx hb hall inX0 hown hK hP 0 rfl rfl 5 (by decide) (hall _ kw_28) (fun _ h9 => h9) rfl dX0_moveTransactions_15 ?_
  refine lv_iload_n hx hb dX0_moveTransactions_18 rfl (lv_at hl 1 rfl) ?_
  refine lv_aload_n hx hb dX0_moveTransactions_19 rfl (lv_at hl 0 rfl) ?_
  refine va_get (D := (dC, dI)) (ci := 0) (v := .ref a4) (C := RX0) (T := TX0) (N := 12) hx hb hall inX0 hown hK hP 0 rfl rfl 5 (by decide) (hall _ kw_28) (fun _ h9 => h9) rfl dX0_moveTransactions_20 ?_
  refine lv_iload_n hx hb dX0_moveTransactions_23 rfl (lv_at hl 2 rfl) ?_
  refine lv_iload_n hx hb dX0_moveTransactions_24 rfl (lv_at hl 3 rfl) ?_
  refine xa_copyl hx hb (hml.trans hl.1.symm) hown (hall _ kw_242) (hall _ kw_244) (hall _ kw_243) (hall _ kw_10) hK hP hD hS 4 1 rfl rfl (by omega) (by omega) (by omega) (Nat.le_of_ble_eq_true rfl) (Nat.le_of_ble_eq_true rfl) dX0_moveTransactions_25 (fun H locs hP hD hS => ?_)
  have hP : va_P (dC, dI) vwCl [(x, .inr (0, [.int (nI nD), .int (nI nR), .ref a1, .ref a2, .ref a3, .ref a4, .ref a5, .ref a6, .int (nI ec), .ref a7, .int (nI ac), .long now])), (a1, .inl (cJ, nD, .inr (.inl dv))), (a2, .inl (cI, nD + 1, .inl (fun j => nI (r j)))), (a3, .inl (cJ, cap, .inr (.inl (va_cpy ti ti f t n)))), (a4, .inl (cJ, cap, .inr (.inl (va_cpy va va f t n)))), (a5, .inl (cJ, 16, .inr (.inl ev))), (a6, .inl (cJ, 16, .inr (.inl ed))), (a7, .inl (cI, nD, .inl ad))] H := hP
  have hD : va_D A [(x, .inr (0, [.int (nI nD), .int (nI nR), .ref a1, .ref a2, .ref a3, .ref a4, .ref a5, .ref a6, .int (nI ec), .ref a7, .int (nI ac), .long now])), (a1, .inl (cJ, nD, .inr (.inl dv))), (a2, .inl (cI, nD + 1, .inl (fun j => nI (r j)))), (a3, .inl (cJ, cap, .inr (.inl (va_cpy ti ti f t n)))), (a4, .inl (cJ, cap, .inr (.inl (va_cpy va va f t n)))), (a5, .inl (cJ, 16, .inr (.inl ev))), (a6, .inl (cJ, 16, .inr (.inl ed))), (a7, .inl (cI, nD, .inl ad))] := hD
  exact W.vret hx hb hr (fun t9 ht hW => ⟨⟨(), rfl, trivial, by rw [ht]; exact hP, va_K.moved hW.alike hK, hD⟩, hS.F ht⟩) hS.2.2 dX0_moveTransactions_28
set_option maxHeartbeats 4000000 in
set_option maxRecDepth 100000 in
theorem c_writeElements (l : Launch) (dC : Nat → ClassId) (dI : Nat → Nat → Nat) (x a1 a2 a3 a4 a5 a6 a7 : Nat) (cI cJ : ClassId) (nD nR : Nat) (dv : Nat → Int64) (r : Nat → Nat) (cap : Nat) (ti va ev ed : Nat → Int64) (ec : Nat) (ad : Nat → Int32) (ac : Nat) (now : Int64) (sz : Nat) (f : Nat) (h1 : f + ec ≤ cap) (hc : cap ≤ 8192) (hec : ec ≤ 16) : Met l yX0_writeElements wsX0_writeElements ({ frames := 0, cells := 0, slots := 0, locals := 0 }) (va_Pc [.ref x, .int (nI f)] (fun U => U.heap.size = sz ∧ va_P (dC, dI) vwCl (wr x a1 a2 a3 a4 a5 a6 a7 cI cJ nD nR dv r cap ti va ev ed ec ad ac now) U.heap ∧ va_K (dC, dI) vwCl [(cI, .int), (cJ, .long)] U ∧ va_D (fun _ => True) (wr x a1 a2 a3 a4 a5 a6 a7 cI cJ nD nR dv r cap ti va ev ed ec ad ac now))) (va_Qv (fun _ : Unit => True) (fun _ t9 => va_P (dC, dI) vwCl (wr x a1 a2 a3 a4 a5 a6 a7 cI cJ nD nR dv r cap (wf_pt ti f (fun i => now + ed i) ec) (wf_pt va f ev ec) ev ed ec ad ac now) t9.heap ∧ va_K (dC, dI) vwCl [(cI, .int), (cJ, .long)] t9 ∧ va_D (va_A (wr x a1 a2 a3 a4 a5 a6 a7 cI cJ nD nR dv r cap ti va ev ed ec ad ac now) sz) (wr x a1 a2 a3 a4 a5 a6 a7 cI cJ nD nR dv r cap (wf_pt ti f (fun i => now + ed i) ec) (wf_pt va f ev ec) ev ed ec ad ac now)) (va_A (wr x a1 a2 a3 a4 a5 a6 a7 cI cJ nD nR dv r cap ti va ev ed ec ad ac now) sz)) 0 0 (va_A (wr x a1 a2 a3 a4 a5 a6 a7 cI cJ nD nR dv r cap ti va ev ed ec ad ac now) sz) := by
  refine Met.ofW (cc := cX0_writeElements) (maxL := 3) (ret := none) (by decide) rfl ?_
  intro p e s m args below meth c s₁ B hml hv
  obtain ⟨rfl, hsz, hP, hK, hD0⟩ := hv
  subst hsz
  have hD := hD0.self (sz := s.heap.size)
  generalize hAe : va_A (wr x a1 a2 a3 a4 a5 a6 a7 cI cJ nD nR dv r cap ti va ev ed ec ad ac now) s.heap.size = A at hD ⊢
  have hA : ∀ q : Nat, s.heap.size ≤ q → A q := fun q h => by rw [← hAe]; exact Or.inr h
  have hS : va_S A s.heap s.heap [] := va_S.rf
  have hx := B.exec
  have hb := B.bytes
  have hr := B.returns
  have hts := atoms_spec (ws := wsX0_writeElements) B.pre
  have hown : s.vm.findClass RX0 = some m.cls := findClass_of_methodNamed B.named
  have hlocks := B.notSynchronized
  have hall := fun (w : Cond) (h : w ∈ allw) => hts w (List.mem_cons_of_mem _ h)
  have hl := lv_entry ([.ref x, .int (nI f)]) (n := 3) (Nat.le_of_ble_eq_true rfl)
  rw [lg_entry_eq]
  generalize (lg_sl ([.ref x, .int (nI f)]) ++ List.replicate (3 - (lg_sl ([.ref x, .int (nI f)])).length) Slot.unset).toArray = ls at hl ⊢
  have hl : lv_has ls 3 [(0, .ref x), (1, .int (nI f))] := hl
  refine lv_iconst (v := 0) hx hb dX0_writeElements_0 (by decide) ?_
  refine tp_i (y := nI 0) nI_0.symm ?_
  refine lv_istore_n (lv' := [(2, .int (nI 0)), (0, .ref x), (1, .int (nI f))]) hx hb dX0_writeElements_1 rfl hl (by decide) rfl (fun ls hl => ?_)
  have hloop : ∀ (n k : Nat) (H : Heap) (locs : List Loc) (ls : Array Slot), k + n = ec → va_P (dC, dI) vwCl [(x, .inr (0, [.int (nI nD), .int (nI nR), .ref a1, .ref a2, .ref a3, .ref a4, .ref a5, .ref a6, .int (nI ec), .ref a7, .int (nI ac), .long now])), (a1, .inl (cJ, nD, .inr (.inl dv))), (a2, .inl (cI, nD + 1, .inl (fun j => nI (r j)))), (a3, .inl (cJ, cap, .inr (.inl (wf_pt ti f (fun i => now + ed i) k)))), (a4, .inl (cJ, cap, .inr (.inl (wf_pt va f ev k)))), (a5, .inl (cJ, 16, .inr (.inl ev))), (a6, .inl (cJ, 16, .inr (.inl ed))), (a7, .inl (cI, nD, .inl ad))] H → va_D A [(x, .inr (0, [.int (nI nD), .int (nI nR), .ref a1, .ref a2, .ref a3, .ref a4, .ref a5, .ref a6, .int (nI ec), .ref a7, .int (nI ac), .long now])), (a1, .inl (cJ, nD, .inr (.inl dv))), (a2, .inl (cI, nD + 1, .inl (fun j => nI (r j)))), (a3, .inl (cJ, cap, .inr (.inl (wf_pt ti f (fun i => now + ed i) k)))), (a4, .inl (cJ, cap, .inr (.inl (wf_pt va f ev k)))), (a5, .inl (cJ, 16, .inr (.inl ev))), (a6, .inl (cJ, 16, .inr (.inl ed))), (a7, .inl (cI, nD, .inl ad))] → va_S A s.heap H locs → lv_has ls 3 [(0, .ref x), (1, .int (nI f)), (2, .int (nI k))] → W p l e (headSpec wsX0_writeElements ({ frames := 0, cells := 0, slots := 0, locals := 0 })).room s m (([.ref x, .int (nI f)] : List Value).toArray) below meth c H locs 0 0 (MQ below (va_Qv (fun _ : Unit => True) (fun _ t9 => va_P (dC, dI) vwCl (wr x a1 a2 a3 a4 a5 a6 a7 cI cJ nD nR dv r cap (wf_pt ti f (fun i => now + ed i) ec) (wf_pt va f ev ec) ev ed ec ad ac now) t9.heap ∧ va_K (dC, dI) vwCl [(cI, .int), (cJ, .long)] t9 ∧ va_D A (wr x a1 a2 a3 a4 a5 a6 a7 cI cJ nD nR dv r cap (wf_pt ti f (fun i => now + ed i) ec) (wf_pt va f ev ec) ev ed ec ad ac now)) A) (([.ref x, .int (nI f)] : List Value).toArray) s 0 0 A) (F0 m 2 ls []) := by
    intro n
    induction n with
    | zero =>
      intro k H locs ls hk hP hD hS hl
      obtain rfl : ec = k := by omega
      refine lv_iload_n hx hb dX0_writeElements_2 rfl (lv_at hl 2 rfl) ?_
      refine lv_aload_n hx hb dX0_writeElements_3 rfl (lv_at hl 0 rfl) ?_
      refine va_get (D := (dC, dI)) (ci := 0) (v := .int (nI ec)) (C := RX0) (T := TX0) (N := 12) hx hb hall inX0 hown hK hP 0 rfl rfl 8 (by decide) (hall _ kw_31) (fun _ h9 => h9) rfl dX0_writeElements_4 ?_
      refine xc_ge (tgt := 49) hx hb (by omega) (by omega) dX0_writeElements_7 (by decide) (fun c_1 => ?_) (fun c_1 => ?_)
      · exact W.vret hx hb hr (fun t9 ht hW => ⟨⟨(), rfl, trivial, by rw [ht]; exact hP, va_K.moved hW.alike hK, hD⟩, hS.F ht⟩) hS.2.2 dX0_writeElements_49
      · exact absurd c_1 (by omega)
    | succ n ih =>
      intro k H locs ls hk hP hD hS hl
      refine lv_iload_n hx hb dX0_writeElements_2 rfl (lv_at hl 2 rfl) ?_
      refine lv_aload_n hx hb dX0_writeElements_3 rfl (lv_at hl 0 rfl) ?_
      refine va_get (D := (dC, dI)) (ci := 0) (v := .int (nI ec)) (C := RX0) (T := TX0) (N := 12) hx hb hall inX0 hown hK hP 0 rfl rfl 8 (by decide) (hall _ kw_31) (fun _ h9 => h9) rfl dX0_writeElements_4 ?_
      refine xc_ge (tgt := 49) hx hb (by omega) (by omega) dX0_writeElements_7 (by decide) (fun c_2 => ?_) (fun c_2 => ?_)
      · exact absurd c_2 (by omega)
      · refine lv_aload_n hx hb dX0_writeElements_10 rfl (lv_at hl 0 rfl) ?_
        refine va_get (D := (dC, dI)) (ci := 0) (v := .ref a3) (C := RX0) (T := TX0) (N := 12) hx hb hall inX0 hown hK hP 0 rfl rfl 4 (by decide) (hall _ kw_27) (fun _ h9 => h9) rfl dX0_writeElements_11 ?_
        refine lv_iload_n hx hb dX0_writeElements_14 rfl (lv_at hl 1 rfl) ?_
        refine lv_iload_n hx hb dX0_writeElements_15 rfl (lv_at hl 2 rfl) ?_
        refine lv_iadd hx hb dX0_writeElements_16 ?_
        refine tp_i (y := nI (f + k)) (nI_add f k) ?_
        refine lv_aload_n hx hb dX0_writeElements_17 rfl (lv_at hl 0 rfl) ?_
        refine va_get (D := (dC, dI)) (ci := 0) (v := .long now) (C := RX0) (T := TX0) (N := 12) hx hb hall inX0 hown hK hP 0 rfl rfl 11 (by decide) (hall _ kw_34) (fun _ h9 => h9) rfl dX0_writeElements_18 ?_
        refine lv_aload_n hx hb dX0_writeElements_21 rfl (lv_at hl 0 rfl) ?_
        refine va_get (D := (dC, dI)) (ci := 0) (v := .ref a6) (C := RX0) (T := TX0) (N := 12) hx hb hall inX0 hown hK hP 0 rfl rfl 7 (by decide) (hall _ kw_30) (fun _ h9 => h9) rfl dX0_writeElements_22 ?_
        refine lv_iload_n hx hb dX0_writeElements_25 rfl (lv_at hl 2 rfl) ?_
        refine xa_lald hx hb hK hP 6 1 rfl rfl (by omega) (by omega) dX0_writeElements_26 ?_
        refine lv_ladd hx hb dX0_writeElements_27 ?_
        refine xa_last hx hb hK hP hD hS 3 1 rfl rfl (by omega) (by omega) dX0_writeElements_28 (fun H locs hP hD hS => ?_)
        have hP : va_P (dC, dI) vwCl [(x, .inr (0, [.int (nI nD), .int (nI nR), .ref a1, .ref a2, .ref a3, .ref a4, .ref a5, .ref a6, .int (nI ec), .ref a7, .int (nI ac), .long now])), (a1, .inl (cJ, nD, .inr (.inl dv))), (a2, .inl (cI, nD + 1, .inl (fun j => nI (r j)))), (a3, .inl (cJ, cap, .inr (.inl (vp_updL (wf_pt ti f (fun i => now + ed i) k) (f + k) (now + (ed k)))))), (a4, .inl (cJ, cap, .inr (.inl (wf_pt va f ev k)))), (a5, .inl (cJ, 16, .inr (.inl ev))), (a6, .inl (cJ, 16, .inr (.inl ed))), (a7, .inl (cI, nD, .inl ad))] H := hP
        have hD : va_D A [(x, .inr (0, [.int (nI nD), .int (nI nR), .ref a1, .ref a2, .ref a3, .ref a4, .ref a5, .ref a6, .int (nI ec), .ref a7, .int (nI ac), .long now])), (a1, .inl (cJ, nD, .inr (.inl dv))), (a2, .inl (cI, nD + 1, .inl (fun j => nI (r j)))), (a3, .inl (cJ, cap, .inr (.inl (vp_updL (wf_pt ti f (fun i => now + ed i) k) (f + k) (now + (ed k)))))), (a4, .inl (cJ, cap, .inr (.inl (wf_pt va f ev k)))), (a5, .inl (cJ, 16, .inr (.inl ev))), (a6, .inl (cJ, 16, .inr (.inl ed))), (a7, .inl (cI, nD, .inl ad))] := hD
        refine lv_aload_n hx hb dX0_writeElements_29 rfl (lv_at hl 0 rfl) ?_
        refine va_get (D := (dC, dI)) (ci := 0) (v := .ref a4) (C := RX0) (T := TX0) (N := 12) hx hb hall inX0 hown hK hP 0 rfl rfl 5 (by decide) (hall _ kw_28) (fun _ h9 => h9) rfl dX0_writeElements_30 ?_
        refine lv_iload_n hx hb dX0_writeElements_33 rfl (lv_at hl 1 rfl) ?_
        refine lv_iload_n hx hb dX0_writeElements_34 rfl (lv_at hl 2 rfl) ?_
        refine lv_iadd hx hb dX0_writeElements_35 ?_
        refine tp_i (y := nI (f + k)) (nI_add f k) ?_
        refine lv_aload_n hx hb dX0_writeElements_36 rfl (lv_at hl 0 rfl) ?_
        refine va_get (D := (dC, dI)) (ci := 0) (v := .ref a5) (C := RX0) (T := TX0) (N := 12) hx hb hall inX0 hown hK hP 0 rfl rfl 6 (by decide) (hall _ kw_29) (fun _ h9 => h9) rfl dX0_writeElements_37 ?_
        refine lv_iload_n hx hb dX0_writeElements_40 rfl (lv_at hl 2 rfl) ?_
        refine xa_lald hx hb hK hP 5 1 rfl rfl (by omega) (by omega) dX0_writeElements_41 ?_
        refine xa_last hx hb hK hP hD hS 4 1 rfl rfl (by omega) (by omega) dX0_writeElements_42 (fun H locs hP hD hS => ?_)
        have hP : va_P (dC, dI) vwCl [(x, .inr (0, [.int (nI nD), .int (nI nR), .ref a1, .ref a2, .ref a3, .ref a4, .ref a5, .ref a6, .int (nI ec), .ref a7, .int (nI ac), .long now])), (a1, .inl (cJ, nD, .inr (.inl dv))), (a2, .inl (cI, nD + 1, .inl (fun j => nI (r j)))), (a3, .inl (cJ, cap, .inr (.inl (vp_updL (wf_pt ti f (fun i => now + ed i) k) (f + k) (now + (ed k)))))), (a4, .inl (cJ, cap, .inr (.inl (vp_updL (wf_pt va f ev k) (f + k) (ev k))))), (a5, .inl (cJ, 16, .inr (.inl ev))), (a6, .inl (cJ, 16, .inr (.inl ed))), (a7, .inl (cI, nD, .inl ad))] H := hP
        have hD : va_D A [(x, .inr (0, [.int (nI nD), .int (nI nR), .ref a1, .ref a2, .ref a3, .ref a4, .ref a5, .ref a6, .int (nI ec), .ref a7, .int (nI ac), .long now])), (a1, .inl (cJ, nD, .inr (.inl dv))), (a2, .inl (cI, nD + 1, .inl (fun j => nI (r j)))), (a3, .inl (cJ, cap, .inr (.inl (vp_updL (wf_pt ti f (fun i => now + ed i) k) (f + k) (now + (ed k)))))), (a4, .inl (cJ, cap, .inr (.inl (vp_updL (wf_pt va f ev k) (f + k) (ev k))))), (a5, .inl (cJ, 16, .inr (.inl ev))), (a6, .inl (cJ, 16, .inr (.inl ed))), (a7, .inl (cI, nD, .inl ad))] := hD
        refine lv_iinc (v := nI (k + 1)) (lv' := [(2, .int (nI (k + 1))), (0, .ref x), (1, .int (nI f))]) hx hb dX0_writeElements_43 hl (k := 2) rfl (nI_1 k) (by decide) rfl (fun ls hl => ?_)
        refine lv_goto (tgt := 2) hx hb dX0_writeElements_46 (by decide) ?_
        exact ih (k + 1) H locs ls (by omega) (by rw [← wf_pt_s, ← wf_pt_s]; exact hP) (by rw [← wf_pt_s, ← wf_pt_s]; exact hD) hS (lv_sub hl [1, 2, 0] rfl)
  exact hloop ec 0 s.heap [] ls (by omega) (by rw [wf_pt_0, wf_pt_0]; exact hP) (by rw [wf_pt_0, wf_pt_0]; exact hD) hS (lv_sub hl [1, 2, 0] rfl)
set_option maxHeartbeats 4000000 in
set_option maxRecDepth 100000 in
theorem c_makePlaces (l : Launch) (dC : Nat → ClassId) (dI : Nat → Nat → Nat) (x a1 a2 a3 a4 a5 a6 a7 : Nat) (cI cJ : ClassId) (nD nR : Nat) (dv : Nat → Int64) (r : Nat → Nat) (cap : Nat) (ti va ev ed : Nat → Int64) (ec : Nat) (ad : Nat → Int32) (ac : Nat) (now : Int64) (q : Nat) (hq : q ≤ cap) (hc : cap ≤ 8192) : Met l yX0_makePlaces wsX0_makePlaces ({ frames := 0, cells := 0, slots := 0, locals := 0 }) (va_Pc [.ref x, .int (nI q)] (fun U => va_P (dC, dI) vwCl (wr x a1 a2 a3 a4 a5 a6 a7 cI cJ nD nR dv r cap ti va ev ed ec ad ac now) U.heap ∧ va_K (dC, dI) vwCl [(cI, .int), (cJ, .long)] U)) (xv_S (True)) 0 0 (fun _ => False) := by
  refine Met.ofW (cc := cX0_makePlaces) (maxL := 3) (ret := none) (by decide) rfl ?_
  intro p e s m args below meth c s₁ B hml hv
  obtain ⟨rfl, hP, hK⟩ := hv
  have hx := B.exec
  have hb := B.bytes
  have hr := B.returns
  have hts := atoms_spec (ws := wsX0_makePlaces) B.pre
  have hown : s.vm.findClass RX0 = some m.cls := findClass_of_methodNamed B.named
  have hlocks := B.notSynchronized
  have hall := fun (w : Cond) (h : w ∈ allw) => hts w (List.mem_cons_of_mem _ h)
  have hl := lv_entry ([.ref x, .int (nI q)]) (n := 3) (Nat.le_of_ble_eq_true rfl)
  rw [lg_entry_eq]
  generalize (lg_sl ([.ref x, .int (nI q)]) ++ List.replicate (3 - (lg_sl ([.ref x, .int (nI q)])).length) Slot.unset).toArray = ls at hl ⊢
  have hl : lv_has ls 3 [(0, .ref x), (1, .int (nI q))] := hl
  refine lv_iload_n hx hb dX0_makePlaces_0 rfl (lv_at hl 1 rfl) ?_
  refine lv_aload_n hx hb dX0_makePlaces_1 rfl (lv_at hl 0 rfl) ?_
  refine va_get (D := (dC, dI)) (ci := 0) (v := .ref a3) (C := RX0) (T := TX0) (N := 12) hx hb hall inX0 hown hK hP 0 rfl rfl 4 (by decide) (hall _ kw_27) (fun _ h9 => h9) rfl dX0_makePlaces_2 ?_
  refine va_alen (v := nI cap) hx hb hK hP 3 1 rfl rfl rfl dX0_makePlaces_5 ?_
  refine xc_gt (tgt := 10) hx hb (by omega) (by omega) dX0_makePlaces_6 (by decide) (fun c_1 => ?_) (fun c_1 => ?_)
  · exact absurd c_1 (by omega)
  · exact W.vret hx hb hr (fun t9 ht hW => ⟨rfl, trivial, ht⟩) (fun q hq => nomatch hq) dX0_makePlaces_9
set_option maxHeartbeats 4000000 in
set_option maxRecDepth 100000 in
theorem c_endRowAt (l : Launch) (dC : Nat → ClassId) (dI : Nat → Nat → Nat) (x a1 a2 a3 a4 a5 a6 a7 : Nat) (cI cJ : ClassId) (nD nR : Nat) (dv : Nat → Int64) (r : Nat → Nat) (cap : Nat) (ti va ev ed : Nat → Int64) (ec : Nat) (ad : Nat → Int32) (ac : Nat) (now : Int64) (sz : Nat) (hI : wf_R nD nR cap ec ac r) (d en : Nat) (hd : d < nD) (hq : r nD + en - r (d + 1) ≤ cap) : Met l yX0_endRowAt wsX0_endRowAt ({ frames := 2, cells := 0, slots := 0, locals := 83 }) (va_Pc [.ref x, .int (nI d), .int (nI en)] (fun U => U.heap.size = sz ∧ va_P (dC, dI) vwCl (wr x a1 a2 a3 a4 a5 a6 a7 cI cJ nD nR dv r cap ti va ev ed ec ad ac now) U.heap ∧ va_K (dC, dI) vwCl [(cI, .int), (cJ, .long)] U ∧ va_D (fun _ => True) (wr x a1 a2 a3 a4 a5 a6 a7 cI cJ nD nR dv r cap ti va ev ed ec ad ac now))) (va_Qv (fun _ : Unit => True) (fun _ t9 => va_P (dC, dI) vwCl (wr x a1 a2 a3 a4 a5 a6 a7 cI cJ nD nR dv (wf_sh r d en (r (d + 1)) (nD + 1)) cap (va_cpy ti ti (r (d + 1)) en (r nD - r (d + 1))) (va_cpy va va (r (d + 1)) en (r nD - r (d + 1))) ev ed ec ad ac now) t9.heap ∧ va_K (dC, dI) vwCl [(cI, .int), (cJ, .long)] t9 ∧ va_D (va_A (wr x a1 a2 a3 a4 a5 a6 a7 cI cJ nD nR dv r cap ti va ev ed ec ad ac now) sz) (wr x a1 a2 a3 a4 a5 a6 a7 cI cJ nD nR dv (wf_sh r d en (r (d + 1)) (nD + 1)) cap (va_cpy ti ti (r (d + 1)) en (r nD - r (d + 1))) (va_cpy va va (r (d + 1)) en (r nD - r (d + 1))) ev ed ec ad ac now)) (va_A (wr x a1 a2 a3 a4 a5 a6 a7 cI cJ nD nR dv r cap ti va ev ed ec ad ac now) sz)) 0 0 (va_A (wr x a1 a2 a3 a4 a5 a6 a7 cI cJ nD nR dv r cap ti va ev ed ec ad ac now) sz) := by
  refine Met.ofW (cc := cX0_endRowAt) (maxL := 7) (ret := none) (by decide) rfl ?_
  intro p e s m args below meth c s₁ B hml hv
  obtain ⟨rfl, hsz, hP, hK, hD0⟩ := hv
  subst hsz
  have hD := hD0.self (sz := s.heap.size)
  generalize hAe : va_A (wr x a1 a2 a3 a4 a5 a6 a7 cI cJ nD nR dv r cap ti va ev ed ec ad ac now) s.heap.size = A at hD ⊢
  have hA : ∀ q : Nat, s.heap.size ≤ q → A q := fun q h => by rw [← hAe]; exact Or.inr h
  have hS : va_S A s.heap s.heap [] := va_S.rf
  have hx := B.exec
  have hb := B.bytes
  have hr := B.returns
  have hts := atoms_spec (ws := wsX0_endRowAt) B.pre
  have hown : s.vm.findClass RX0 = some m.cls := findClass_of_methodNamed B.named
  have hlocks := B.notSynchronized
  have hall := fun (w : Cond) (h : w ∈ allw) => hts w (List.mem_cons_of_mem _ h)
  have hl := lv_entry ([.ref x, .int (nI d), .int (nI en)]) (n := 7) (Nat.le_of_ble_eq_true rfl)
  rw [lg_entry_eq]
  generalize (lg_sl ([.ref x, .int (nI d), .int (nI en)]) ++ List.replicate (7 - (lg_sl ([.ref x, .int (nI d), .int (nI en)])).length) Slot.unset).toArray = ls at hl ⊢
  have hl : lv_has ls 7 [(0, .ref x), (1, .int (nI d)), (2, .int (nI en))] := hl
  have hI0 := hI
  obtain ⟨hnD1, hnD, hnR1, hnR, hcap, hrc, hrR, hr0, hmo, hec, hac⟩ := hI
  have hle := wf_le hmo (show d + 1 ≤ nD by omega) (Nat.le_refl nD)
  refine lv_aload_n hx hb dX0_endRowAt_0 rfl (lv_at hl 0 rfl) ?_
  refine va_get (D := (dC, dI)) (ci := 0) (v := .ref a2) (C := RX0) (T := TX0) (N := 12) hx hb hall inX0 hown hK hP 0 rfl rfl 3 (by decide) (hall _ kw_26) (fun _ h9 => h9) rfl dX0_endRowAt_1 ?_
  refine lv_iload_n hx hb dX0_endRowAt_4 rfl (lv_at hl 1 rfl) ?_
  refine lv_iconst (v := 1) hx hb dX0_endRowAt_5 (by decide) ?_
  refine lv_iadd hx hb dX0_endRowAt_6 ?_
  refine tp_i (y := nI (d + 1)) (nI_1 d) ?_
  refine xa_iald hx hb hK hP 2 0 rfl rfl (by omega) (by omega) dX0_endRowAt_7 ?_
  refine lv_istore_n (lv' := [(3, .int (nI (r (d + 1)))), (0, .ref x), (1, .int (nI d)), (2, .int (nI en))]) hx hb dX0_endRowAt_8 rfl hl (by decide) rfl (fun ls hl => ?_)
  refine lv_aload_n hx hb dX0_endRowAt_9 rfl (lv_at hl 1 rfl) ?_
  refine va_get (D := (dC, dI)) (ci := 0) (v := .ref a2) (C := RX0) (T := TX0) (N := 12) hx hb hall inX0 hown hK hP 0 rfl rfl 3 (by decide) (hall _ kw_26) (fun _ h9 => h9) rfl dX0_endRowAt_10 ?_
  refine lv_aload_n hx hb dX0_endRowAt_13 rfl (lv_at hl 1 rfl) ?_
  refine va_get (D := (dC, dI)) (ci := 0) (v := .int (nI nD)) (C := RX0) (T := TX0) (N := 12) hx hb hall inX0 hown hK hP 0 rfl rfl 0 (by decide) (hall _ kw_23) (fun _ h9 => h9) rfl dX0_endRowAt_14 ?_
  refine xa_iald hx hb hK hP 2 0 rfl rfl (by omega) (by omega) dX0_endRowAt_17 ?_
  refine lv_istore (lv' := [(4, .int (nI (r nD))), (3, .int (nI (r (d + 1)))), (0, .ref x), (1, .int (nI d)), (2, .int (nI en))]) hx hb dX0_endRowAt_18 hl (by decide) rfl (fun ls hl => ?_)
  refine lv_iload_n hx hb dX0_endRowAt_20 rfl (lv_at hl 4 rfl) ?_
  refine lv_iload_n hx hb dX0_endRowAt_21 rfl (lv_at hl 1 rfl) ?_
  refine lv_isub hx hb dX0_endRowAt_22 ?_
  refine lv_istore (lv' := [(5, .int ((nI en) - (nI (r (d + 1))))), (4, .int (nI (r nD))), (3, .int (nI (r (d + 1)))), (0, .ref x), (1, .int (nI d)), (2, .int (nI en))]) hx hb dX0_endRowAt_23 hl (by decide) rfl (fun ls hl => ?_)
  refine lv_aload_n hx hb dX0_endRowAt_25 rfl (lv_at hl 3 rfl) ?_
  refine lv_iload hx hb dX0_endRowAt_26 (lv_at hl 1 rfl) ?_
  refine lv_iload hx hb dX0_endRowAt_28 (lv_at hl 0 rfl) ?_
  refine lv_iadd hx hb dX0_endRowAt_30 ?_
  refine tp_i (y := nI (r nD + en - r (d + 1))) (xs_i (by omega)) ?_
  refine xv_call (W.runV (As := [.int (nI (r nD + en - r (d + 1)))]) (rest := []) ⟨hx, hb, hml, hown, hall⟩ (c_makePlaces l dC dI x a1 a2 a3 a4 a5 a6 a7 cI cJ nD nR dv r cap ti va ev ed ec ad ac now (r nD + en - r (d + 1)) hq hcap) (cwV 1 hall gX0_135 rfl rfl rfl (by decide +kernel) ⟨Nat.le_of_ble_eq_true rfl, Nat.le_of_ble_eq_true rfl⟩) ⟨xr_blind, va_recv hK hP (ci := 0) (q0 := 0) rfl rfl, fun U hU hW => ⟨rfl, by rw [hU]; exact hP, va_K.moved hW.alike hK⟩⟩ rfl rfl hl.1 rfl (lv_room (Nat.le_of_ble_eq_true rfl)) dX0_endRowAt_31 ⟨by first | exact Nat.zero_le _ | omega, by first | exact Nat.zero_le _ | omega⟩) (fun hv_2 => ?_)
  refine lv_aload_n hx hb dX0_endRowAt_34 rfl (lv_at hl 3 rfl) ?_
  refine lv_iload_n hx hb dX0_endRowAt_35 rfl (lv_at hl 2 rfl) ?_
  refine lv_iload_n hx hb dX0_endRowAt_36 rfl (lv_at hl 5 rfl) ?_
  refine lv_iload hx hb dX0_endRowAt_37 (lv_at hl 1 rfl) ?_
  refine lv_iload_n hx hb dX0_endRowAt_39 rfl (lv_at hl 2 rfl) ?_
  refine lv_isub hx hb dX0_endRowAt_40 ?_
  refine tp_i (y := nI (r nD - r (d + 1))) (pk_sub hle) ?_
  have hFc := va_free (wc := [(x, .inr (0, [.int (nI nD), .int (nI nR), .ref a1, .ref a2, .ref a3, .ref a4, .ref a5, .ref a6, .int (nI ec), .ref a7, .int (nI ac), .long now])), (a1, .inl (cJ, nD, .inr (.inl dv))), (a2, .inl (cI, nD + 1, .inl (fun j => nI (r j)))), (a3, .inl (cJ, cap, .inr (.inl ti))), (a4, .inl (cJ, cap, .inr (.inl va))), (a5, .inl (cJ, 16, .inr (.inl ev))), (a6, .inl (cJ, 16, .inr (.inl ed))), (a7, .inl (cI, nD, .inl ad))]) hD hS hA [0, 1, 2, 3, 4, 5, 6, 7] rfl
  refine va_callv (va_runV (As := [.int (nI (r (d + 1))), .int (nI en), .int (nI (r nD - r (d + 1)))]) (rest := []) ⟨hx, hb, hml, hown, hall⟩ (c_moveTransactions l dC dI x a1 a2 a3 a4 a5 a6 a7 cI cJ nD nR dv r cap ti va ev ed ec ad ac now s.heap.size (r (d + 1)) en (r nD - r (d + 1)) (by omega) (by omega) hcap) (cwV 3 hall gX0_95 rfl rfl rfl (by decide +kernel) ⟨Nat.le_of_ble_eq_true rfl, Nat.le_of_ble_eq_true rfl⟩) ⟨xu_blind, va_recv hK hP (ci := 0) (q0 := 0) rfl rfl, fun U hU hW => ⟨rfl, by rw [hU], by rw [hU]; exact hP, va_K.moved hW.alike hK, hD.weaken (fun _ _ _ _ => trivial)⟩⟩ rfl rfl hl.1 rfl (lv_room (Nat.le_of_ble_eq_true rfl)) dX0_endRowAt_41 ⟨Nat.le_of_ble_eq_true rfl, Nat.le_of_ble_eq_true rfl⟩) hS (fun q _ h => hFc q h) hFc (fun u9 t9 H1 locs ht hvm hw hB hz1 hk1 hS => ?_)
  obtain ⟨hP1, hK1, hD1⟩ := hB
  rw [ht] at hP1
  obtain ⟨hP, hD⟩ := va_join (wr := []) (w1 := [(x, .inr (0, [.int (nI nD), .int (nI nR), .ref a1, .ref a2, .ref a3, .ref a4, .ref a5, .ref a6, .int (nI ec), .ref a7, .int (nI ac), .long now])), (a1, .inl (cJ, nD, .inr (.inl dv))), (a2, .inl (cI, nD + 1, .inl (fun j => nI (r j)))), (a3, .inl (cJ, cap, .inr (.inl (va_cpy ti ti (r (d + 1)) en (r nD - r (d + 1)))))), (a4, .inl (cJ, cap, .inr (.inl (va_cpy va va (r (d + 1)) en (r nD - r (d + 1)))))), (a5, .inl (cJ, 16, .inr (.inl ev))), (a6, .inl (cJ, 16, .inr (.inl ed))), (a7, .inl (cI, nD, .inl ad))]) hP hD [0, 1, 2, 3, 4, 5, 6, 7] [] rfl rfl (by decide) (by decide) hk1 hFc hP1 hD1
  generalize H1 = H at hP hS ⊢
  have hP : va_P (dC, dI) vwCl [(x, .inr (0, [.int (nI nD), .int (nI nR), .ref a1, .ref a2, .ref a3, .ref a4, .ref a5, .ref a6, .int (nI ec), .ref a7, .int (nI ac), .long now])), (a1, .inl (cJ, nD, .inr (.inl dv))), (a2, .inl (cI, nD + 1, .inl (fun j => nI (r j)))), (a3, .inl (cJ, cap, .inr (.inl (va_cpy ti ti (r (d + 1)) en (r nD - r (d + 1)))))), (a4, .inl (cJ, cap, .inr (.inl (va_cpy va va (r (d + 1)) en (r nD - r (d + 1)))))), (a5, .inl (cJ, 16, .inr (.inl ev))), (a6, .inl (cJ, 16, .inr (.inl ed))), (a7, .inl (cI, nD, .inl ad))] H := hP
  have hD : va_D A [(x, .inr (0, [.int (nI nD), .int (nI nR), .ref a1, .ref a2, .ref a3, .ref a4, .ref a5, .ref a6, .int (nI ec), .ref a7, .int (nI ac), .long now])), (a1, .inl (cJ, nD, .inr (.inl dv))), (a2, .inl (cI, nD + 1, .inl (fun j => nI (r j)))), (a3, .inl (cJ, cap, .inr (.inl (va_cpy ti ti (r (d + 1)) en (r nD - r (d + 1)))))), (a4, .inl (cJ, cap, .inr (.inl (va_cpy va va (r (d + 1)) en (r nD - r (d + 1)))))), (a5, .inl (cJ, 16, .inr (.inl ev))), (a6, .inl (cJ, 16, .inr (.inl ed))), (a7, .inl (cI, nD, .inl ad))] := hD
  refine lv_iload_n hx hb dX0_endRowAt_44 rfl (lv_at hl 4 rfl) ?_
  refine lv_iconst (v := 1) hx hb dX0_endRowAt_45 (by decide) ?_
  refine lv_iadd hx hb dX0_endRowAt_46 ?_
  refine tp_i (y := nI (d + 1)) (nI_1 d) ?_
  refine lv_istore (lv' := [(6, .int (nI (d + 1))), (5, .int ((nI en) - (nI (r (d + 1))))), (4, .int (nI (r nD))), (3, .int (nI (r (d + 1)))), (0, .ref x), (1, .int (nI d)), (2, .int (nI en))]) hx hb dX0_endRowAt_47 hl (by decide) rfl (fun ls hl => ?_)
  have hloop : ∀ (n k : Nat) (H : Heap) (locs : List Loc) (ls : Array Slot), k + n = nD + 1 → d < k → va_P (dC, dI) vwCl [(x, .inr (0, [.int (nI nD), .int (nI nR), .ref a1, .ref a2, .ref a3, .ref a4, .ref a5, .ref a6, .int (nI ec), .ref a7, .int (nI ac), .long now])), (a1, .inl (cJ, nD, .inr (.inl dv))), (a2, .inl (cI, nD + 1, .inl (fun j => nI ((wf_sh r d en (r (d + 1)) k) j)))), (a3, .inl (cJ, cap, .inr (.inl (va_cpy ti ti (r (d + 1)) en (r nD - r (d + 1)))))), (a4, .inl (cJ, cap, .inr (.inl (va_cpy va va (r (d + 1)) en (r nD - r (d + 1)))))), (a5, .inl (cJ, 16, .inr (.inl ev))), (a6, .inl (cJ, 16, .inr (.inl ed))), (a7, .inl (cI, nD, .inl ad))] H → va_D A [(x, .inr (0, [.int (nI nD), .int (nI nR), .ref a1, .ref a2, .ref a3, .ref a4, .ref a5, .ref a6, .int (nI ec), .ref a7, .int (nI ac), .long now])), (a1, .inl (cJ, nD, .inr (.inl dv))), (a2, .inl (cI, nD + 1, .inl (fun j => nI ((wf_sh r d en (r (d + 1)) k) j)))), (a3, .inl (cJ, cap, .inr (.inl (va_cpy ti ti (r (d + 1)) en (r nD - r (d + 1)))))), (a4, .inl (cJ, cap, .inr (.inl (va_cpy va va (r (d + 1)) en (r nD - r (d + 1)))))), (a5, .inl (cJ, 16, .inr (.inl ev))), (a6, .inl (cJ, 16, .inr (.inl ed))), (a7, .inl (cI, nD, .inl ad))] → va_S A s.heap H locs → lv_has ls 7 [(0, .ref x), (5, .int (nI en - nI (r (d + 1)))), (6, .int (nI k))] → W p l e (headSpec wsX0_endRowAt ({ frames := 2, cells := 0, slots := 0, locals := 83 })).room s m (([.ref x, .int (nI d), .int (nI en)] : List Value).toArray) below meth c H locs 0 0 (MQ below (va_Qv (fun _ : Unit => True) (fun _ t9 => va_P (dC, dI) vwCl (wr x a1 a2 a3 a4 a5 a6 a7 cI cJ nD nR dv (wf_sh r d en (r (d + 1)) (nD + 1)) cap (va_cpy ti ti (r (d + 1)) en (r nD - r (d + 1))) (va_cpy va va (r (d + 1)) en (r nD - r (d + 1))) ev ed ec ad ac now) t9.heap ∧ va_K (dC, dI) vwCl [(cI, .int), (cJ, .long)] t9 ∧ va_D A (wr x a1 a2 a3 a4 a5 a6 a7 cI cJ nD nR dv (wf_sh r d en (r (d + 1)) (nD + 1)) cap (va_cpy ti ti (r (d + 1)) en (r nD - r (d + 1))) (va_cpy va va (r (d + 1)) en (r nD - r (d + 1))) ev ed ec ad ac now)) A) (([.ref x, .int (nI d), .int (nI en)] : List Value).toArray) s 0 0 A) (F0 m 49 ls []) := by
    intro n
    induction n with
    | zero =>
      intro k H locs ls hk hdk hP hD hS hl
      obtain rfl : k = nD + 1 := by omega
      refine lv_iload hx hb dX0_endRowAt_49 (lv_at hl 2 rfl) ?_
      refine lv_aload_n hx hb dX0_endRowAt_51 rfl (lv_at hl 0 rfl) ?_
      refine va_get (D := (dC, dI)) (ci := 0) (v := .int (nI nD)) (C := RX0) (T := TX0) (N := 12) hx hb hall inX0 hown hK hP 0 rfl rfl 0 (by decide) (hall _ kw_23) (fun _ h9 => h9) rfl dX0_endRowAt_52 ?_
      refine xc_gt (tgt := 76) hx hb (by omega) (by omega) dX0_endRowAt_55 (by decide) (fun c_4 => ?_) (fun c_4 => ?_)
      · exact W.vret hx hb hr (fun t9 ht hW => ⟨⟨(), rfl, trivial, by rw [ht]; exact hP, va_K.moved hW.alike hK, hD⟩, hS.F ht⟩) hS.2.2 dX0_endRowAt_76
      · exact absurd c_4 (by omega)
    | succ n ih =>
      intro k H locs ls hk hdk hP hD hS hl
      have hkr := wf_le hmo (show d + 1 ≤ k by omega) (show k ≤ nD by omega)
      have hkn := wf_le hmo (show k ≤ nD by omega) (Nat.le_refl nD)
      refine lv_iload hx hb dX0_endRowAt_49 (lv_at hl 2 rfl) ?_
      refine lv_aload_n hx hb dX0_endRowAt_51 rfl (lv_at hl 0 rfl) ?_
      refine va_get (D := (dC, dI)) (ci := 0) (v := .int (nI nD)) (C := RX0) (T := TX0) (N := 12) hx hb hall inX0 hown hK hP 0 rfl rfl 0 (by decide) (hall _ kw_23) (fun _ h9 => h9) rfl dX0_endRowAt_52 ?_
      refine xc_gt (tgt := 76) hx hb (by omega) (by omega) dX0_endRowAt_55 (by decide) (fun c_5 => ?_) (fun c_5 => ?_)
      · exact absurd c_5 (by omega)
      · refine lv_aload_n hx hb dX0_endRowAt_58 rfl (lv_at hl 0 rfl) ?_
        refine va_get (D := (dC, dI)) (ci := 0) (v := .ref a2) (C := RX0) (T := TX0) (N := 12) hx hb hall inX0 hown hK hP 0 rfl rfl 3 (by decide) (hall _ kw_26) (fun _ h9 => h9) rfl dX0_endRowAt_59 ?_
        refine lv_iload hx hb dX0_endRowAt_62 (lv_at hl 2 rfl) ?_
        refine lv_dup2_11 hx hb dX0_endRowAt_64 rfl rfl ?_
        refine xa_iald hx hb hK hP 2 0 rfl rfl (by omega) (by omega) dX0_endRowAt_65 ?_
        refine tp_i (y := nI (r k)) (by rw [wf_sh_at]) ?_
        refine lv_iload hx hb dX0_endRowAt_66 (lv_at hl 1 rfl) ?_
        refine lv_iadd hx hb dX0_endRowAt_68 ?_
        refine tp_i (y := nI (r k + en - r (d + 1))) (xs_i (by omega)) ?_
        refine xa_iast hx hb hK hP hD hS 2 0 rfl rfl (by omega) (by omega) dX0_endRowAt_69 (fun H locs hP hD hS => ?_)
        have hP : va_P (dC, dI) vwCl [(x, .inr (0, [.int (nI nD), .int (nI nR), .ref a1, .ref a2, .ref a3, .ref a4, .ref a5, .ref a6, .int (nI ec), .ref a7, .int (nI ac), .long now])), (a1, .inl (cJ, nD, .inr (.inl dv))), (a2, .inl (cI, nD + 1, .inl (upd (fun j => nI ((wf_sh r d en (r (d + 1)) k) j)) k (nI (r k + en - r (d + 1)))))), (a3, .inl (cJ, cap, .inr (.inl (va_cpy ti ti (r (d + 1)) en (r nD - r (d + 1)))))), (a4, .inl (cJ, cap, .inr (.inl (va_cpy va va (r (d + 1)) en (r nD - r (d + 1)))))), (a5, .inl (cJ, 16, .inr (.inl ev))), (a6, .inl (cJ, 16, .inr (.inl ed))), (a7, .inl (cI, nD, .inl ad))] H := hP
        have hD : va_D A [(x, .inr (0, [.int (nI nD), .int (nI nR), .ref a1, .ref a2, .ref a3, .ref a4, .ref a5, .ref a6, .int (nI ec), .ref a7, .int (nI ac), .long now])), (a1, .inl (cJ, nD, .inr (.inl dv))), (a2, .inl (cI, nD + 1, .inl (upd (fun j => nI ((wf_sh r d en (r (d + 1)) k) j)) k (nI (r k + en - r (d + 1)))))), (a3, .inl (cJ, cap, .inr (.inl (va_cpy ti ti (r (d + 1)) en (r nD - r (d + 1)))))), (a4, .inl (cJ, cap, .inr (.inl (va_cpy va va (r (d + 1)) en (r nD - r (d + 1)))))), (a5, .inl (cJ, 16, .inr (.inl ev))), (a6, .inl (cJ, 16, .inr (.inl ed))), (a7, .inl (cI, nD, .inl ad))] := hD
        rw [un_nI, wf_sh_s r d en (r (d + 1)) k hdk] at hP hD
        refine lv_iinc (v := nI (k + 1)) (lv' := [(6, .int (nI (k + 1))), (0, .ref x), (5, .int (nI en - nI (r (d + 1))))]) hx hb dX0_endRowAt_70 hl (k := 2) rfl (nI_1 k) (by decide) rfl (fun ls hl => ?_)
        refine lv_goto (tgt := 49) hx hb dX0_endRowAt_73 (by decide) ?_
        exact ih (k + 1) H locs ls (by omega) (by omega) hP hD hS (lv_sub hl [1, 2, 0] rfl)
  exact hloop (nD - d) (d + 1) H locs ls (by omega) (by omega) (by rw [wf_sh_0]; exact hP) (by rw [wf_sh_0]; exact hD) hS (lv_sub hl [4, 1, 0] rfl)
set_option maxHeartbeats 4000000 in
set_option maxRecDepth 100000 in
theorem c_start (l : Launch) (dC : Nat → ClassId) (dI : Nat → Nat → Nat) (x a1 a2 a3 a4 a5 a6 a7 : Nat) (cI cJ : ClassId) (nD nR : Nat) (dv : Nat → Int64) (r : Nat → Nat) (cap : Nat) (ti va ev ed : Nat → Int64) (ec : Nat) (ad : Nat → Int32) (ac : Nat) (now : Int64) (sz : Nat) (hI : wf_R nD nR cap ec ac r) (d : Nat) (t : Int64) (hd : d < nD) : Met l yX0_start wsX0_start ({ frames := 3, cells := 0, slots := 0, locals := 109 }) (va_Pc [.ref x, .int (nI d), .long t] (fun U => U.heap.size = sz ∧ va_P (dC, dI) vwCl (wr x a1 a2 a3 a4 a5 a6 a7 cI cJ nD nR dv r cap ti va ev ed ec ad ac now) U.heap ∧ va_K (dC, dI) vwCl [(cI, .int), (cJ, .long)] U ∧ va_D (fun _ => True) (wr x a1 a2 a3 a4 a5 a6 a7 cI cJ nD nR dv r cap ti va ev ed ec ad ac now))) (va_Qi (fun (v : Int32) (_ : Unit) => v = nI (r (d + 1) - r d)) (fun _ t9 => va_P (dC, dI) vwCl (wr x a1 a2 a3 a4 a5 a6 a7 cI cJ nD nR (vp_updL dv d t) (wf_sh r d (r d) (r (d + 1)) (nD + 1)) cap (va_cpy ti ti (r (d + 1)) (r d) (r nD - r (d + 1))) (va_cpy va va (r (d + 1)) (r d) (r nD - r (d + 1))) ev ed ec ad ac now) t9.heap ∧ va_K (dC, dI) vwCl [(cI, .int), (cJ, .long)] t9 ∧ va_D (va_A (wr x a1 a2 a3 a4 a5 a6 a7 cI cJ nD nR dv r cap ti va ev ed ec ad ac now) sz) (wr x a1 a2 a3 a4 a5 a6 a7 cI cJ nD nR (vp_updL dv d t) (wf_sh r d (r d) (r (d + 1)) (nD + 1)) cap (va_cpy ti ti (r (d + 1)) (r d) (r nD - r (d + 1))) (va_cpy va va (r (d + 1)) (r d) (r nD - r (d + 1))) ev ed ec ad ac now)) (va_A (wr x a1 a2 a3 a4 a5 a6 a7 cI cJ nD nR dv r cap ti va ev ed ec ad ac now) sz)) 0 0 (va_A (wr x a1 a2 a3 a4 a5 a6 a7 cI cJ nD nR dv r cap ti va ev ed ec ad ac now) sz) := by
  refine Met.ofW (cc := cX0_start) (maxL := 5) (ret := (some .int)) (by decide) rfl ?_
  intro p e s m args below meth c s₁ B hml hv
  obtain ⟨rfl, hsz, hP, hK, hD0⟩ := hv
  subst hsz
  have hD := hD0.self (sz := s.heap.size)
  generalize hAe : va_A (wr x a1 a2 a3 a4 a5 a6 a7 cI cJ nD nR dv r cap ti va ev ed ec ad ac now) s.heap.size = A at hD ⊢
  have hA : ∀ q : Nat, s.heap.size ≤ q → A q := fun q h => by rw [← hAe]; exact Or.inr h
  have hS : va_S A s.heap s.heap [] := va_S.rf
  have hx := B.exec
  have hb := B.bytes
  have hr := B.returns
  have hts := atoms_spec (ws := wsX0_start) B.pre
  have hown : s.vm.findClass RX0 = some m.cls := findClass_of_methodNamed B.named
  have hlocks := B.notSynchronized
  have hall := fun (w : Cond) (h : w ∈ allw) => hts w (List.mem_cons_of_mem _ h)
  have hl := lv_entry ([.ref x, .int (nI d), .long t]) (n := 5) (Nat.le_of_ble_eq_true rfl)
  rw [lg_entry_eq]
  generalize (lg_sl ([.ref x, .int (nI d), .long t]) ++ List.replicate (5 - (lg_sl ([.ref x, .int (nI d), .long t])).length) Slot.unset).toArray = ls at hl ⊢
  have hl : lv_has ls 5 [(0, .ref x), (1, .int (nI d)), (2, .long t)] := hl
  have hI0 := hI
  obtain ⟨hnD1, hnD, hnR1, hnR, hcap, hrc, hrR, hr0, hmo, hec, hac⟩ := hI
  have hle := wf_le hmo (show d + 1 ≤ nD by omega) (Nat.le_refl nD)
  have hmd := hmo d hd
  refine lv_aload_n hx hb dX0_start_0 rfl (lv_at hl 0 rfl) ?_
  refine lv_iload_n hx hb dX0_start_1 rfl (lv_at hl 1 rfl) ?_
  refine xv_call (W.runV (As := [.int (nI d)]) (rest := []) ⟨hx, hb, hml, hown, hall⟩ (c_requireDriver l dC dI x a1 a2 a3 a4 a5 a6 a7 cI cJ nD nR dv r cap ti va ev ed ec ad ac now hI0 d hd) (cwV 1 hall gX0_62 rfl rfl rfl (by decide +kernel) ⟨Nat.le_of_ble_eq_true rfl, Nat.le_of_ble_eq_true rfl⟩) ⟨xr_blind, va_recv hK hP (ci := 0) (q0 := 0) rfl rfl, fun U hU hW => ⟨rfl, by rw [hU]; exact hP, va_K.moved hW.alike hK⟩⟩ rfl rfl hl.1 rfl (lv_room (Nat.le_of_ble_eq_true rfl)) dX0_start_2 ⟨by first | exact Nat.zero_le _ | omega, by first | exact Nat.zero_le _ | omega⟩) (fun hv_2 => ?_)
  refine lv_aload_n hx hb dX0_start_5 rfl (lv_at hl 0 rfl) ?_
  refine lv_iload_n hx hb dX0_start_6 rfl (lv_at hl 1 rfl) ?_
  refine vp_callSi (W.runV (As := [.int (nI d)]) (rest := []) ⟨hx, hb, hml, hown, hall⟩ (c_rowLength l dC dI x a1 a2 a3 a4 a5 a6 a7 cI cJ nD nR dv r cap ti va ev ed ec ad ac now hI0 d hd) (cwV 1 hall gX0_106 rfl rfl rfl (by decide +kernel) ⟨Nat.le_of_ble_eq_true rfl, Nat.le_of_ble_eq_true rfl⟩) ⟨xr_blind, va_recv hK hP (ci := 0) (q0 := 0) rfl rfl, fun U hU hW => ⟨rfl, by rw [hU]; exact hP, va_K.moved hW.alike hK⟩⟩ rfl rfl hl.1 rfl (lv_room (Nat.le_of_ble_eq_true rfl)) dX0_start_7 ⟨by first | exact Nat.zero_le _ | omega, by first | exact Nat.zero_le _ | omega⟩) (fun v_3 hv_4 => ?_)
  subst hv_4
  refine lv_istore (lv' := [(4, .int (nI (r (d + 1) - r d))), (0, .ref x), (1, .int (nI d)), (2, .long t)]) hx hb dX0_start_10 hl (by decide) rfl (fun ls hl => ?_)
  refine lv_aload_n hx hb dX0_start_12 rfl (lv_at hl 1 rfl) ?_
  refine va_get (D := (dC, dI)) (ci := 0) (v := .ref a1) (C := RX0) (T := TX0) (N := 12) hx hb hall inX0 hown hK hP 0 rfl rfl 2 (by decide) (hall _ kw_25) (fun _ h9 => h9) rfl dX0_start_13 ?_
  refine lv_iload_n hx hb dX0_start_16 rfl (lv_at hl 2 rfl) ?_
  refine lv_lload_n hx hb dX0_start_17 rfl (lv_at hl 3 rfl) ?_
  refine xa_last hx hb hK hP hD hS 1 1 rfl rfl (by omega) (by omega) dX0_start_18 (fun H locs hP hD hS => ?_)
  have hP : va_P (dC, dI) vwCl [(x, .inr (0, [.int (nI nD), .int (nI nR), .ref a1, .ref a2, .ref a3, .ref a4, .ref a5, .ref a6, .int (nI ec), .ref a7, .int (nI ac), .long now])), (a1, .inl (cJ, nD, .inr (.inl (vp_updL dv d t)))), (a2, .inl (cI, nD + 1, .inl (fun j => nI (r j)))), (a3, .inl (cJ, cap, .inr (.inl ti))), (a4, .inl (cJ, cap, .inr (.inl va))), (a5, .inl (cJ, 16, .inr (.inl ev))), (a6, .inl (cJ, 16, .inr (.inl ed))), (a7, .inl (cI, nD, .inl ad))] H := hP
  have hD : va_D A [(x, .inr (0, [.int (nI nD), .int (nI nR), .ref a1, .ref a2, .ref a3, .ref a4, .ref a5, .ref a6, .int (nI ec), .ref a7, .int (nI ac), .long now])), (a1, .inl (cJ, nD, .inr (.inl (vp_updL dv d t)))), (a2, .inl (cI, nD + 1, .inl (fun j => nI (r j)))), (a3, .inl (cJ, cap, .inr (.inl ti))), (a4, .inl (cJ, cap, .inr (.inl va))), (a5, .inl (cJ, 16, .inr (.inl ev))), (a6, .inl (cJ, 16, .inr (.inl ed))), (a7, .inl (cI, nD, .inl ad))] := hD
  refine lv_aload_n hx hb dX0_start_19 rfl (lv_at hl 1 rfl) ?_
  refine lv_iload_n hx hb dX0_start_20 rfl (lv_at hl 2 rfl) ?_
  refine lv_aload_n hx hb dX0_start_21 rfl (lv_at hl 1 rfl) ?_
  refine va_get (D := (dC, dI)) (ci := 0) (v := .ref a2) (C := RX0) (T := TX0) (N := 12) hx hb hall inX0 hown hK hP 0 rfl rfl 3 (by decide) (hall _ kw_26) (fun _ h9 => h9) rfl dX0_start_22 ?_
  refine lv_iload_n hx hb dX0_start_25 rfl (lv_at hl 2 rfl) ?_
  refine xa_iald hx hb hK hP 2 0 rfl rfl (by omega) (by omega) dX0_start_26 ?_
  have hFc := va_free (wc := [(x, .inr (0, [.int (nI nD), .int (nI nR), .ref a1, .ref a2, .ref a3, .ref a4, .ref a5, .ref a6, .int (nI ec), .ref a7, .int (nI ac), .long now])), (a1, .inl (cJ, nD, .inr (.inl (vp_updL dv d t)))), (a2, .inl (cI, nD + 1, .inl (fun j => nI (r j)))), (a3, .inl (cJ, cap, .inr (.inl ti))), (a4, .inl (cJ, cap, .inr (.inl va))), (a5, .inl (cJ, 16, .inr (.inl ev))), (a6, .inl (cJ, 16, .inr (.inl ed))), (a7, .inl (cI, nD, .inl ad))]) hD hS hA [0, 1, 2, 3, 4, 5, 6, 7] rfl
  refine va_callv (va_runV (As := [.int (nI d), .int (nI (r d))]) (rest := []) ⟨hx, hb, hml, hown, hall⟩ (c_endRowAt l dC dI x a1 a2 a3 a4 a5 a6 a7 cI cJ nD nR (vp_updL dv d t) r cap ti va ev ed ec ad ac now H.size hI0 d (r d) hd (by omega)) (cwV 2 hall gX0_99 rfl rfl rfl (by decide +kernel) ⟨Nat.le_of_ble_eq_true rfl, Nat.le_of_ble_eq_true rfl⟩) ⟨xu_blind, va_recv hK hP (ci := 0) (q0 := 0) rfl rfl, fun U hU hW => ⟨rfl, by rw [hU], by rw [hU]; exact hP, va_K.moved hW.alike hK, hD.weaken (fun _ _ _ _ => trivial)⟩⟩ rfl rfl hl.1 rfl (lv_room (Nat.le_of_ble_eq_true rfl)) dX0_start_27 ⟨Nat.le_of_ble_eq_true rfl, Nat.le_of_ble_eq_true rfl⟩) hS (fun q _ h => hFc q h) hFc (fun u9 t9 H1 locs ht hvm hw hB hz1 hk1 hS => ?_)
  obtain ⟨hP1, hK1, hD1⟩ := hB
  rw [ht] at hP1
  obtain ⟨hP, hD⟩ := va_join (wr := []) (w1 := [(x, .inr (0, [.int (nI nD), .int (nI nR), .ref a1, .ref a2, .ref a3, .ref a4, .ref a5, .ref a6, .int (nI ec), .ref a7, .int (nI ac), .long now])), (a1, .inl (cJ, nD, .inr (.inl (vp_updL dv d t)))), (a2, .inl (cI, nD + 1, .inl (fun j => nI ((wf_sh r d (r d) (r (d + 1)) (nD + 1)) j)))), (a3, .inl (cJ, cap, .inr (.inl (va_cpy ti ti (r (d + 1)) (r d) (r nD - r (d + 1)))))), (a4, .inl (cJ, cap, .inr (.inl (va_cpy va va (r (d + 1)) (r d) (r nD - r (d + 1)))))), (a5, .inl (cJ, 16, .inr (.inl ev))), (a6, .inl (cJ, 16, .inr (.inl ed))), (a7, .inl (cI, nD, .inl ad))]) hP hD [0, 1, 2, 3, 4, 5, 6, 7] [] rfl rfl (by decide) (by decide) hk1 hFc hP1 hD1
  generalize H1 = H at hP hS ⊢
  have hP : va_P (dC, dI) vwCl [(x, .inr (0, [.int (nI nD), .int (nI nR), .ref a1, .ref a2, .ref a3, .ref a4, .ref a5, .ref a6, .int (nI ec), .ref a7, .int (nI ac), .long now])), (a1, .inl (cJ, nD, .inr (.inl (vp_updL dv d t)))), (a2, .inl (cI, nD + 1, .inl (fun j => nI ((wf_sh r d (r d) (r (d + 1)) (nD + 1)) j)))), (a3, .inl (cJ, cap, .inr (.inl (va_cpy ti ti (r (d + 1)) (r d) (r nD - r (d + 1)))))), (a4, .inl (cJ, cap, .inr (.inl (va_cpy va va (r (d + 1)) (r d) (r nD - r (d + 1)))))), (a5, .inl (cJ, 16, .inr (.inl ev))), (a6, .inl (cJ, 16, .inr (.inl ed))), (a7, .inl (cI, nD, .inl ad))] H := hP
  have hD : va_D A [(x, .inr (0, [.int (nI nD), .int (nI nR), .ref a1, .ref a2, .ref a3, .ref a4, .ref a5, .ref a6, .int (nI ec), .ref a7, .int (nI ac), .long now])), (a1, .inl (cJ, nD, .inr (.inl (vp_updL dv d t)))), (a2, .inl (cI, nD + 1, .inl (fun j => nI ((wf_sh r d (r d) (r (d + 1)) (nD + 1)) j)))), (a3, .inl (cJ, cap, .inr (.inl (va_cpy ti ti (r (d + 1)) (r d) (r nD - r (d + 1)))))), (a4, .inl (cJ, cap, .inr (.inl (va_cpy va va (r (d + 1)) (r d) (r nD - r (d + 1)))))), (a5, .inl (cJ, 16, .inr (.inl ev))), (a6, .inl (cJ, 16, .inr (.inl ed))), (a7, .inl (cI, nD, .inl ad))] := hD
  refine lv_iload hx hb dX0_start_30 (lv_at hl 0 rfl) ?_
  exact W.iret (v := nI (r (d + 1) - r d)) hx hb hr (fun t9 ht hW => ⟨⟨nI (r (d + 1) - r d), (), rfl, rfl, by rw [ht]; exact hP, va_K.moved hW.alike hK, hD⟩, hS.F ht⟩) hS.2.2 dX0_start_32
set_option maxHeartbeats 4000000 in
set_option maxRecDepth 100000 in
theorem c_advance (l : Launch) (dC : Nat → ClassId) (dI : Nat → Nat → Nat) (x a1 a2 a3 a4 a5 a6 a7 : Nat) (cI cJ : ClassId) (nD nR : Nat) (dv : Nat → Int64) (r : Nat → Nat) (cap : Nat) (ti va ev ed : Nat → Int64) (ec : Nat) (ad : Nat → Int32) (ac : Nat) (now : Int64) (sz : Nat) (hI : wf_R nD nR cap ec ac r) (t : Int64) (h1 : ¬ t < now) (h2 : ¬ 1152921504606846976 < t) : Met l yX0_advance wsX0_advance ({ frames := 2, cells := 0, slots := 0, locals := 83 }) (va_Pc [.ref x, .long t] (fun U => U.heap.size = sz ∧ va_P (dC, dI) vwCl (wr x a1 a2 a3 a4 a5 a6 a7 cI cJ nD nR dv r cap ti va ev ed ec ad ac now) U.heap ∧ va_K (dC, dI) vwCl [(cI, .int), (cJ, .long)] U ∧ va_D (fun _ => True) (wr x a1 a2 a3 a4 a5 a6 a7 cI cJ nD nR dv r cap ti va ev ed ec ad ac now))) (va_Qi (fun (v : Int32) (u : wf_T) => v = nI (wf_N t r ti nD) ∧ wf_V t r ti va dv nD u.1 u.2.1 u.2.2.1 u.2.2.2.1 u.2.2.2.2) (fun u t9 => va_P (dC, dI) vwCl (wr x a1 a2 a3 a4 a5 a6 a7 cI cJ nD nR u.2.2.2.1 (un u.1 nD (wf_K t r ti nD)) cap u.2.1 u.2.2.1 ev ed ec u.2.2.2.2 (wf_N t r ti nD) t) t9.heap ∧ va_K (dC, dI) vwCl [(cI, .int), (cJ, .long)] t9 ∧ va_D (va_A (wr x a1 a2 a3 a4 a5 a6 a7 cI cJ nD nR dv r cap ti va ev ed ec ad ac now) sz) (wr x a1 a2 a3 a4 a5 a6 a7 cI cJ nD nR u.2.2.2.1 (un u.1 nD (wf_K t r ti nD)) cap u.2.1 u.2.2.1 ev ed ec u.2.2.2.2 (wf_N t r ti nD) t)) (va_A (wr x a1 a2 a3 a4 a5 a6 a7 cI cJ nD nR dv r cap ti va ev ed ec ad ac now) sz)) 0 0 (va_A (wr x a1 a2 a3 a4 a5 a6 a7 cI cJ nD nR dv r cap ti va ev ed ec ad ac now) sz) := by
  refine Met.ofW (cc := cX0_advance) (maxL := 8) (ret := (some .int)) (by decide) rfl ?_
  intro p e s m args below meth c s₁ B hml hv
  obtain ⟨rfl, hsz, hP, hK, hD0⟩ := hv
  subst hsz
  have hD := hD0.self (sz := s.heap.size)
  generalize hAe : va_A (wr x a1 a2 a3 a4 a5 a6 a7 cI cJ nD nR dv r cap ti va ev ed ec ad ac now) s.heap.size = A at hD ⊢
  have hA : ∀ q : Nat, s.heap.size ≤ q → A q := fun q h => by rw [← hAe]; exact Or.inr h
  have hS : va_S A s.heap s.heap [] := va_S.rf
  have hx := B.exec
  have hb := B.bytes
  have hr := B.returns
  have hts := atoms_spec (ws := wsX0_advance) B.pre
  have hown : s.vm.findClass RX0 = some m.cls := findClass_of_methodNamed B.named
  have hlocks := B.notSynchronized
  have hall := fun (w : Cond) (h : w ∈ allw) => hts w (List.mem_cons_of_mem _ h)
  have hl := lv_entry ([.ref x, .long t]) (n := 8) (Nat.le_of_ble_eq_true rfl)
  rw [lg_entry_eq]
  generalize (lg_sl ([.ref x, .long t]) ++ List.replicate (8 - (lg_sl ([.ref x, .long t])).length) Slot.unset).toArray = ls at hl ⊢
  have hl : lv_has ls 8 [(0, .ref x), (1, .long t)] := hl
  obtain ⟨hnD1, hnD, hnR1, hnR, hcap, hrc, hrR, hr0, hmo, hec, hac⟩ := hI
  refine lv_lload_n hx hb dX0_advance_0 rfl (lv_at hl 1 rfl) ?_
  refine lv_aload_n hx hb dX0_advance_1 rfl (lv_at hl 0 rfl) ?_
  refine va_get (D := (dC, dI)) (ci := 0) (v := .long now) (C := RX0) (T := TX0) (N := 12) hx hb hall inX0 hown hK hP 0 rfl rfl 11 (by decide) (hall _ kw_34) (fun _ h9 => h9) rfl dX0_advance_2 ?_
  refine xl_lt (tgt := 17) hx hb dX0_advance_5 dX0_advance_6 (by decide) (fun c_1 => ?_) (fun c_1 => ?_)
  · exact absurd c_1 h1
  · refine lv_lload_n hx hb dX0_advance_9 rfl (lv_at hl 1 rfl) ?_
    refine lv_ldc2 (v := 1152921504606846976) hx hb hown (hall _ kw_102) dX0_advance_10 ?_
    refine xl_le (tgt := 27) hx hb dX0_advance_13 dX0_advance_14 (by decide) (fun c_2 => ?_) (fun c_2 => ?_)
    · refine lv_aload_n hx hb dX0_advance_27 rfl (lv_at hl 0 rfl) ?_
      refine lv_lload_n hx hb dX0_advance_28 rfl (lv_at hl 1 rfl) ?_
      refine va_put (D := (dC, dI)) (ci := 0) (v := .long t) (ty := .long) (C := RX0) (T := TX0) (N := 12) hx hb hall inX0 tyX0 tyX0_ok nmX0 hown hK hP hD hS 0 rfl rfl 11 (by decide) (hall _ kw_34) (fun _ h9 => h9) rfl (by decide +kernel) rfl rfl (Nat.le_of_ble_eq_true rfl) dX0_advance_29 (fun H locs hP hD hS => ?_)
      have hP : va_P (dC, dI) vwCl [(x, .inr (0, [.int (nI nD), .int (nI nR), .ref a1, .ref a2, .ref a3, .ref a4, .ref a5, .ref a6, .int (nI ec), .ref a7, .int (nI ac), .long t])), (a1, .inl (cJ, nD, .inr (.inl dv))), (a2, .inl (cI, nD + 1, .inl (fun j => nI (r j)))), (a3, .inl (cJ, cap, .inr (.inl ti))), (a4, .inl (cJ, cap, .inr (.inl va))), (a5, .inl (cJ, 16, .inr (.inl ev))), (a6, .inl (cJ, 16, .inr (.inl ed))), (a7, .inl (cI, nD, .inl ad))] H := hP
      have hD : va_D A [(x, .inr (0, [.int (nI nD), .int (nI nR), .ref a1, .ref a2, .ref a3, .ref a4, .ref a5, .ref a6, .int (nI ec), .ref a7, .int (nI ac), .long t])), (a1, .inl (cJ, nD, .inr (.inl dv))), (a2, .inl (cI, nD + 1, .inl (fun j => nI (r j)))), (a3, .inl (cJ, cap, .inr (.inl ti))), (a4, .inl (cJ, cap, .inr (.inl va))), (a5, .inl (cJ, 16, .inr (.inl ev))), (a6, .inl (cJ, 16, .inr (.inl ed))), (a7, .inl (cI, nD, .inl ad))] := hD
      refine lv_aload_n hx hb dX0_advance_32 rfl (lv_at hl 0 rfl) ?_
      refine lv_iconst (v := 0) hx hb dX0_advance_33 (by decide) ?_
      refine tp_i (y := nI 0) nI_0.symm ?_
      refine va_put (D := (dC, dI)) (ci := 0) (v := .int (nI 0)) (ty := .int) (C := RX0) (T := TX0) (N := 12) hx hb hall inX0 tyX0 tyX0_ok nmX0 hown hK hP hD hS 0 rfl rfl 10 (by decide) (hall _ kw_33) (fun _ h9 => h9) rfl (by decide +kernel) rfl rfl (Nat.le_of_ble_eq_true rfl) dX0_advance_34 (fun H locs hP hD hS => ?_)
      have hP : va_P (dC, dI) vwCl [(x, .inr (0, [.int (nI nD), .int (nI nR), .ref a1, .ref a2, .ref a3, .ref a4, .ref a5, .ref a6, .int (nI ec), .ref a7, .int (nI 0), .long t])), (a1, .inl (cJ, nD, .inr (.inl dv))), (a2, .inl (cI, nD + 1, .inl (fun j => nI (r j)))), (a3, .inl (cJ, cap, .inr (.inl ti))), (a4, .inl (cJ, cap, .inr (.inl va))), (a5, .inl (cJ, 16, .inr (.inl ev))), (a6, .inl (cJ, 16, .inr (.inl ed))), (a7, .inl (cI, nD, .inl ad))] H := hP
      have hD : va_D A [(x, .inr (0, [.int (nI nD), .int (nI nR), .ref a1, .ref a2, .ref a3, .ref a4, .ref a5, .ref a6, .int (nI ec), .ref a7, .int (nI 0), .long t])), (a1, .inl (cJ, nD, .inr (.inl dv))), (a2, .inl (cI, nD + 1, .inl (fun j => nI (r j)))), (a3, .inl (cJ, cap, .inr (.inl ti))), (a4, .inl (cJ, cap, .inr (.inl va))), (a5, .inl (cJ, 16, .inr (.inl ev))), (a6, .inl (cJ, 16, .inr (.inl ed))), (a7, .inl (cI, nD, .inl ad))] := hD
      refine lv_iconst (v := 0) hx hb dX0_advance_37 (by decide) ?_
      refine tp_i (y := nI 0) nI_0.symm ?_
      refine lv_istore_n (lv' := [(3, .int (nI 0)), (0, .ref x), (1, .long t)]) hx hb dX0_advance_38 rfl hl (by decide) rfl (fun ls hl => ?_)
      refine lv_iconst (v := 0) hx hb dX0_advance_39 (by decide) ?_
      refine tp_i (y := nI 0) nI_0.symm ?_
      refine lv_istore (lv' := [(4, .int (nI 0)), (3, .int (nI 0)), (0, .ref x), (1, .long t)]) hx hb dX0_advance_40 hl (by decide) rfl (fun ls hl => ?_)
      refine lv_iconst (v := 0) hx hb dX0_advance_42 (by decide) ?_
      refine tp_i (y := nI 0) nI_0.symm ?_
      refine lv_istore (lv' := [(5, .int (nI 0)), (4, .int (nI 0)), (3, .int (nI 0)), (0, .ref x), (1, .long t)]) hx hb dX0_advance_43 hl (by decide) rfl (fun ls hl => ?_)
      have hloop : ∀ (n k : Nat) (rc : Nat → Nat) (tc vc dc : Nat → Int64) (adc : Nat → Int32) (H : Heap) (locs : List Loc) (ls : Array Slot), k + n = nD → wf_V t r ti va dv k rc tc vc dc adc → va_P (dC, dI) vwCl [(x, .inr (0, [.int (nI nD), .int (nI nR), .ref a1, .ref a2, .ref a3, .ref a4, .ref a5, .ref a6, .int (nI ec), .ref a7, .int (nI (wf_N t r ti k)), .long t])), (a1, .inl (cJ, nD, .inr (.inl dc))), (a2, .inl (cI, nD + 1, .inl (fun j => nI (rc j)))), (a3, .inl (cJ, cap, .inr (.inl tc))), (a4, .inl (cJ, cap, .inr (.inl vc))), (a5, .inl (cJ, 16, .inr (.inl ev))), (a6, .inl (cJ, 16, .inr (.inl ed))), (a7, .inl (cI, nD, .inl adc))] H → va_D A [(x, .inr (0, [.int (nI nD), .int (nI nR), .ref a1, .ref a2, .ref a3, .ref a4, .ref a5, .ref a6, .int (nI ec), .ref a7, .int (nI (wf_N t r ti k)), .long t])), (a1, .inl (cJ, nD, .inr (.inl dc))), (a2, .inl (cI, nD + 1, .inl (fun j => nI (rc j)))), (a3, .inl (cJ, cap, .inr (.inl tc))), (a4, .inl (cJ, cap, .inr (.inl vc))), (a5, .inl (cJ, 16, .inr (.inl ev))), (a6, .inl (cJ, 16, .inr (.inl ed))), (a7, .inl (cI, nD, .inl adc))] → va_S A s.heap H locs → lv_has ls 8 [(0, .ref x), (1, .long t), (3, .int (nI (r k))), (4, .int (nI (wf_K t r ti k))), (5, .int (nI k))] → W p l e (headSpec wsX0_advance ({ frames := 2, cells := 0, slots := 0, locals := 83 })).room s m (([.ref x, .long t] : List Value).toArray) below meth c H locs 0 0 (MQ below (va_Qi (fun (v : Int32) (u : wf_T) => v = nI (wf_N t r ti nD) ∧ wf_V t r ti va dv nD u.1 u.2.1 u.2.2.1 u.2.2.2.1 u.2.2.2.2) (fun u t9 => va_P (dC, dI) vwCl (wr x a1 a2 a3 a4 a5 a6 a7 cI cJ nD nR u.2.2.2.1 (un u.1 nD (wf_K t r ti nD)) cap u.2.1 u.2.2.1 ev ed ec u.2.2.2.2 (wf_N t r ti nD) t) t9.heap ∧ va_K (dC, dI) vwCl [(cI, .int), (cJ, .long)] t9 ∧ va_D A (wr x a1 a2 a3 a4 a5 a6 a7 cI cJ nD nR u.2.2.2.1 (un u.1 nD (wf_K t r ti nD)) cap u.2.1 u.2.2.1 ev ed ec u.2.2.2.2 (wf_N t r ti nD) t)) A) (([.ref x, .long t] : List Value).toArray) s 0 0 A) (F0 m 45 ls []) := by
        intro n
        induction n with
        | zero =>
          intro k rc tc vc dc adc H locs ls hk hV hP hD hS hl
          obtain rfl : nD = k := by omega
          have hKn := wf_K_le (t := t) (ti := ti) hr0 hmo nD (Nat.le_refl nD)
          refine lv_iload hx hb dX0_advance_45 (lv_at hl 4 rfl) ?_
          refine lv_aload_n hx hb dX0_advance_47 rfl (lv_at hl 0 rfl) ?_
          refine va_get (D := (dC, dI)) (ci := 0) (v := .int (nI nD)) (C := RX0) (T := TX0) (N := 12) hx hb hall inX0 hown hK hP 0 rfl rfl 0 (by decide) (hall _ kw_23) (fun _ h9 => h9) rfl dX0_advance_48 ?_
          refine xc_ge (tgt := 159) hx hb (by omega) (by omega) dX0_advance_51 (by decide) (fun c_3 => ?_) (fun c_3 => ?_)
          · refine lv_aload_n hx hb dX0_advance_159 rfl (lv_at hl 0 rfl) ?_
            refine va_get (D := (dC, dI)) (ci := 0) (v := .ref a2) (C := RX0) (T := TX0) (N := 12) hx hb hall inX0 hown hK hP 0 rfl rfl 3 (by decide) (hall _ kw_26) (fun _ h9 => h9) rfl dX0_advance_160 ?_
            refine lv_aload_n hx hb dX0_advance_163 rfl (lv_at hl 0 rfl) ?_
            refine va_get (D := (dC, dI)) (ci := 0) (v := .int (nI nD)) (C := RX0) (T := TX0) (N := 12) hx hb hall inX0 hown hK hP 0 rfl rfl 0 (by decide) (hall _ kw_23) (fun _ h9 => h9) rfl dX0_advance_164 ?_
            refine lv_iload hx hb dX0_advance_167 (lv_at hl 3 rfl) ?_
            refine xa_iast hx hb hK hP hD hS 2 0 rfl rfl (by omega) (by omega) dX0_advance_169 (fun H locs hP hD hS => ?_)
            have hP : va_P (dC, dI) vwCl [(x, .inr (0, [.int (nI nD), .int (nI nR), .ref a1, .ref a2, .ref a3, .ref a4, .ref a5, .ref a6, .int (nI ec), .ref a7, .int (nI (wf_N t r ti nD)), .long t])), (a1, .inl (cJ, nD, .inr (.inl dc))), (a2, .inl (cI, nD + 1, .inl (upd (fun j => nI (rc j)) nD (nI (wf_K t r ti nD))))), (a3, .inl (cJ, cap, .inr (.inl tc))), (a4, .inl (cJ, cap, .inr (.inl vc))), (a5, .inl (cJ, 16, .inr (.inl ev))), (a6, .inl (cJ, 16, .inr (.inl ed))), (a7, .inl (cI, nD, .inl adc))] H := hP
            have hD : va_D A [(x, .inr (0, [.int (nI nD), .int (nI nR), .ref a1, .ref a2, .ref a3, .ref a4, .ref a5, .ref a6, .int (nI ec), .ref a7, .int (nI (wf_N t r ti nD)), .long t])), (a1, .inl (cJ, nD, .inr (.inl dc))), (a2, .inl (cI, nD + 1, .inl (upd (fun j => nI (rc j)) nD (nI (wf_K t r ti nD))))), (a3, .inl (cJ, cap, .inr (.inl tc))), (a4, .inl (cJ, cap, .inr (.inl vc))), (a5, .inl (cJ, 16, .inr (.inl ev))), (a6, .inl (cJ, 16, .inr (.inl ed))), (a7, .inl (cI, nD, .inl adc))] := hD
            rw [un_nI] at hP hD
            refine lv_aload_n hx hb dX0_advance_170 rfl (lv_at hl 0 rfl) ?_
            refine va_get (D := (dC, dI)) (ci := 0) (v := .int (nI (wf_N t r ti nD))) (C := RX0) (T := TX0) (N := 12) hx hb hall inX0 hown hK hP 0 rfl rfl 10 (by decide) (hall _ kw_33) (fun _ h9 => h9) rfl dX0_advance_171 ?_
            exact W.iret (v := nI (wf_N t r ti nD)) hx hb hr (fun t9 ht hW => ⟨⟨nI (wf_N t r ti nD), (rc, tc, vc, dc, adc), rfl, ⟨rfl, hV⟩, by rw [ht]; exact hP, va_K.moved hW.alike hK, hD⟩, hS.F ht⟩) hS.2.2 dX0_advance_174
          · exact absurd c_3 (by omega)
        | succ n ih =>
          intro k rc tc vc dc adc H locs ls hk hV hP hD hS hl
          have hkd : k < nD := by omega
          have hmd := hmo k hkd
          have hle := wf_le hmo (show k + 1 ≤ nD by omega) (Nat.le_refl nD)
          have hlt := wf_lt_in t r ti k hmd
          have hKk := wf_K_le (t := t) (ti := ti) hr0 hmo k (by omega)
          have hNk := wf_N_le (t := t) (r := r) (ti := ti) k
          refine lv_iload hx hb dX0_advance_45 (lv_at hl 4 rfl) ?_
          refine lv_aload_n hx hb dX0_advance_47 rfl (lv_at hl 0 rfl) ?_
          refine va_get (D := (dC, dI)) (ci := 0) (v := .int (nI nD)) (C := RX0) (T := TX0) (N := 12) hx hb hall inX0 hown hK hP 0 rfl rfl 0 (by decide) (hall _ kw_23) (fun _ h9 => h9) rfl dX0_advance_48 ?_
          refine xc_ge (tgt := 159) hx hb (by omega) (by omega) dX0_advance_51 (by decide) (fun c_4 => ?_) (fun c_4 => ?_)
          · exact absurd c_4 (by omega)
          · refine lv_aload_n hx hb dX0_advance_54 rfl (lv_at hl 0 rfl) ?_
            refine va_get (D := (dC, dI)) (ci := 0) (v := .ref a2) (C := RX0) (T := TX0) (N := 12) hx hb hall inX0 hown hK hP 0 rfl rfl 3 (by decide) (hall _ kw_26) (fun _ h9 => h9) rfl dX0_advance_55 ?_
            refine lv_iload hx hb dX0_advance_58 (lv_at hl 4 rfl) ?_
            refine lv_iconst (v := 1) hx hb dX0_advance_60 (by decide) ?_
            refine lv_iadd hx hb dX0_advance_61 ?_
            refine tp_i (y := nI (k + 1)) (nI_1 k) ?_
            refine xa_iald hx hb hK hP 2 0 rfl rfl (by omega) (by omega) dX0_advance_62 ?_
            refine tp_i (y := nI (r (k + 1))) (by rw [hV.2.1 (k + 1) (by omega)]) ?_
            refine lv_istore (lv' := [(6, .int (nI (r (k + 1)))), (0, .ref x), (1, .long t), (3, .int (nI (r k))), (4, .int (nI (wf_K t r ti k))), (5, .int (nI k))]) hx hb dX0_advance_63 hl (by decide) rfl (fun ls hl => ?_)
            refine lv_aload_n hx hb dX0_advance_65 rfl (lv_at hl 1 rfl) ?_
            refine lv_iload_n hx hb dX0_advance_66 rfl (lv_at hl 3 rfl) ?_
            refine lv_iload hx hb dX0_advance_67 (lv_at hl 0 rfl) ?_
            refine lv_lload_n hx hb dX0_advance_69 rfl (lv_at hl 2 rfl) ?_
            refine vp_callSi (W.runV (As := [.int (nI (r k)), .int (nI (r (k + 1))), .long t]) (rest := []) ⟨hx, hb, hml, hown, hall⟩ (c_firstBehind l dC dI x a1 a2 a3 a4 a5 a6 a7 cI cJ nD nR dc rc cap tc vc ev ed ec adc (wf_N t r ti k) t (r k) (r (k + 1)) t hmd (by omega) hcap) (cwV 3 hall gX0_82 rfl rfl rfl (by decide +kernel) ⟨Nat.le_of_ble_eq_true rfl, Nat.le_of_ble_eq_true rfl⟩) ⟨xr_blind, va_recv hK hP (ci := 0) (q0 := 0) rfl rfl, fun U hU hW => ⟨rfl, by rw [hU]; exact hP, va_K.moved hW.alike hK⟩⟩ rfl rfl hl.1 rfl (lv_room (Nat.le_of_ble_eq_true rfl)) dX0_advance_70 ⟨by first | exact Nat.zero_le _ | omega, by first | exact Nat.zero_le _ | omega⟩) (fun v_5 hv_6 => ?_)
            obtain rfl : v_5 = nI (wf_lt t r ti k) := hv_6.trans (by rw [wf_V_lt hV])
            refine lv_istore (lv' := [(7, .int (nI (wf_lt t r ti k))), (6, .int (nI (r (k + 1)))), (0, .ref x), (1, .long t), (3, .int (nI (r k))), (4, .int (nI (wf_K t r ti k))), (5, .int (nI k))]) hx hb dX0_advance_73 hl (by decide) rfl (fun ls hl => ?_)
            refine lv_iload hx hb dX0_advance_75 (lv_at hl 0 rfl) ?_
            refine lv_iload_n hx hb dX0_advance_77 rfl (lv_at hl 4 rfl) ?_
            refine xc_le (tgt := 118) hx hb (by omega) (by omega) dX0_advance_78 (by decide) (fun c_7 => ?_) (fun c_7 => ?_)
            · have c_A := c_7
              refine lv_aload_n hx hb dX0_advance_118 rfl (lv_at hl 2 rfl) ?_
              refine lv_iload hx hb dX0_advance_119 (lv_at hl 0 rfl) ?_
              refine lv_iload hx hb dX0_advance_121 (lv_at hl 5 rfl) ?_
              refine lv_iload hx hb dX0_advance_123 (lv_at hl 1 rfl) ?_
              refine lv_iload hx hb dX0_advance_125 (lv_at hl 0 rfl) ?_
              refine lv_isub hx hb dX0_advance_127 ?_
              refine tp_i (y := nI (r (k + 1) - wf_lt t r ti k)) (pk_sub hlt.2) ?_
              have hFc := va_free (wc := [(x, .inr (0, [.int (nI nD), .int (nI nR), .ref a1, .ref a2, .ref a3, .ref a4, .ref a5, .ref a6, .int (nI ec), .ref a7, .int (nI (wf_N t r ti k)), .long t])), (a1, .inl (cJ, nD, .inr (.inl dc))), (a2, .inl (cI, nD + 1, .inl (fun j => nI (rc j)))), (a3, .inl (cJ, cap, .inr (.inl tc))), (a4, .inl (cJ, cap, .inr (.inl vc))), (a5, .inl (cJ, 16, .inr (.inl ev))), (a6, .inl (cJ, 16, .inr (.inl ed))), (a7, .inl (cI, nD, .inl adc))]) hD hS hA [0, 1, 2, 3, 4, 5, 6, 7] rfl
              refine va_callv (va_runV (As := [.int (nI (wf_lt t r ti k)), .int (nI (wf_K t r ti k)), .int (nI (r (k + 1) - wf_lt t r ti k))]) (rest := []) ⟨hx, hb, hml, hown, hall⟩ (c_moveTransactions l dC dI x a1 a2 a3 a4 a5 a6 a7 cI cJ nD nR dc rc cap tc vc ev ed ec adc (wf_N t r ti k) t H.size (wf_lt t r ti k) (wf_K t r ti k) (r (k + 1) - wf_lt t r ti k) (by omega) (by omega) hcap) (cwV 3 hall gX0_95 rfl rfl rfl (by decide +kernel) ⟨Nat.le_of_ble_eq_true rfl, Nat.le_of_ble_eq_true rfl⟩) ⟨xu_blind, va_recv hK hP (ci := 0) (q0 := 0) rfl rfl, fun U hU hW => ⟨rfl, by rw [hU], by rw [hU]; exact hP, va_K.moved hW.alike hK, hD.weaken (fun _ _ _ _ => trivial)⟩⟩ rfl rfl hl.1 rfl (lv_room (Nat.le_of_ble_eq_true rfl)) dX0_advance_128 ⟨Nat.le_of_ble_eq_true rfl, Nat.le_of_ble_eq_true rfl⟩) hS (fun q _ h => hFc q h) hFc (fun u9 t9 H1 locs ht hvm hw hB hz1 hk1 hS => ?_)
              obtain ⟨hP1, hK1, hD1⟩ := hB
              rw [ht] at hP1
              obtain ⟨hP, hD⟩ := va_join (wr := []) (w1 := [(x, .inr (0, [.int (nI nD), .int (nI nR), .ref a1, .ref a2, .ref a3, .ref a4, .ref a5, .ref a6, .int (nI ec), .ref a7, .int (nI (wf_N t r ti k)), .long t])), (a1, .inl (cJ, nD, .inr (.inl dc))), (a2, .inl (cI, nD + 1, .inl (fun j => nI (rc j)))), (a3, .inl (cJ, cap, .inr (.inl (va_cpy tc tc (wf_lt t r ti k) (wf_K t r ti k) (r (k + 1) - wf_lt t r ti k))))), (a4, .inl (cJ, cap, .inr (.inl (va_cpy vc vc (wf_lt t r ti k) (wf_K t r ti k) (r (k + 1) - wf_lt t r ti k))))), (a5, .inl (cJ, 16, .inr (.inl ev))), (a6, .inl (cJ, 16, .inr (.inl ed))), (a7, .inl (cI, nD, .inl adc))]) hP hD [0, 1, 2, 3, 4, 5, 6, 7] [] rfl rfl (by decide) (by decide) hk1 hFc hP1 hD1
              generalize H1 = H at hP hS ⊢
              have hP : va_P (dC, dI) vwCl [(x, .inr (0, [.int (nI nD), .int (nI nR), .ref a1, .ref a2, .ref a3, .ref a4, .ref a5, .ref a6, .int (nI ec), .ref a7, .int (nI (wf_N t r ti k)), .long t])), (a1, .inl (cJ, nD, .inr (.inl dc))), (a2, .inl (cI, nD + 1, .inl (fun j => nI (rc j)))), (a3, .inl (cJ, cap, .inr (.inl (va_cpy tc tc (wf_lt t r ti k) (wf_K t r ti k) (r (k + 1) - wf_lt t r ti k))))), (a4, .inl (cJ, cap, .inr (.inl (va_cpy vc vc (wf_lt t r ti k) (wf_K t r ti k) (r (k + 1) - wf_lt t r ti k))))), (a5, .inl (cJ, 16, .inr (.inl ev))), (a6, .inl (cJ, 16, .inr (.inl ed))), (a7, .inl (cI, nD, .inl adc))] H := hP
              have hD : va_D A [(x, .inr (0, [.int (nI nD), .int (nI nR), .ref a1, .ref a2, .ref a3, .ref a4, .ref a5, .ref a6, .int (nI ec), .ref a7, .int (nI (wf_N t r ti k)), .long t])), (a1, .inl (cJ, nD, .inr (.inl dc))), (a2, .inl (cI, nD + 1, .inl (fun j => nI (rc j)))), (a3, .inl (cJ, cap, .inr (.inl (va_cpy tc tc (wf_lt t r ti k) (wf_K t r ti k) (r (k + 1) - wf_lt t r ti k))))), (a4, .inl (cJ, cap, .inr (.inl (va_cpy vc vc (wf_lt t r ti k) (wf_K t r ti k) (r (k + 1) - wf_lt t r ti k))))), (a5, .inl (cJ, 16, .inr (.inl ev))), (a6, .inl (cJ, 16, .inr (.inl ed))), (a7, .inl (cI, nD, .inl adc))] := hD
              refine lv_aload_n hx hb dX0_advance_131 rfl (lv_at hl 2 rfl) ?_
              refine va_get (D := (dC, dI)) (ci := 0) (v := .ref a2) (C := RX0) (T := TX0) (N := 12) hx hb hall inX0 hown hK hP 0 rfl rfl 3 (by decide) (hall _ kw_26) (fun _ h9 => h9) rfl dX0_advance_132 ?_
              refine lv_iload hx hb dX0_advance_135 (lv_at hl 6 rfl) ?_
              refine lv_iload hx hb dX0_advance_137 (lv_at hl 5 rfl) ?_
              refine xa_iast hx hb hK hP hD hS 2 0 rfl rfl (by omega) (by omega) dX0_advance_139 (fun H locs hP hD hS => ?_)
              have hP : va_P (dC, dI) vwCl [(x, .inr (0, [.int (nI nD), .int (nI nR), .ref a1, .ref a2, .ref a3, .ref a4, .ref a5, .ref a6, .int (nI ec), .ref a7, .int (nI (wf_N t r ti k)), .long t])), (a1, .inl (cJ, nD, .inr (.inl dc))), (a2, .inl (cI, nD + 1, .inl (upd (fun j => nI (rc j)) k (nI (wf_K t r ti k))))), (a3, .inl (cJ, cap, .inr (.inl (va_cpy tc tc (wf_lt t r ti k) (wf_K t r ti k) (r (k + 1) - wf_lt t r ti k))))), (a4, .inl (cJ, cap, .inr (.inl (va_cpy vc vc (wf_lt t r ti k) (wf_K t r ti k) (r (k + 1) - wf_lt t r ti k))))), (a5, .inl (cJ, 16, .inr (.inl ev))), (a6, .inl (cJ, 16, .inr (.inl ed))), (a7, .inl (cI, nD, .inl adc))] H := hP
              have hD : va_D A [(x, .inr (0, [.int (nI nD), .int (nI nR), .ref a1, .ref a2, .ref a3, .ref a4, .ref a5, .ref a6, .int (nI ec), .ref a7, .int (nI (wf_N t r ti k)), .long t])), (a1, .inl (cJ, nD, .inr (.inl dc))), (a2, .inl (cI, nD + 1, .inl (upd (fun j => nI (rc j)) k (nI (wf_K t r ti k))))), (a3, .inl (cJ, cap, .inr (.inl (va_cpy tc tc (wf_lt t r ti k) (wf_K t r ti k) (r (k + 1) - wf_lt t r ti k))))), (a4, .inl (cJ, cap, .inr (.inl (va_cpy vc vc (wf_lt t r ti k) (wf_K t r ti k) (r (k + 1) - wf_lt t r ti k))))), (a5, .inl (cJ, 16, .inr (.inl ev))), (a6, .inl (cJ, 16, .inr (.inl ed))), (a7, .inl (cI, nD, .inl adc))] := hD
              rw [un_nI] at hP hD
              refine lv_iload hx hb dX0_advance_140 (lv_at hl 5 rfl) ?_
              refine lv_iload hx hb dX0_advance_142 (lv_at hl 1 rfl) ?_
              refine lv_iload hx hb dX0_advance_144 (lv_at hl 0 rfl) ?_
              refine lv_isub hx hb dX0_advance_146 ?_
              refine tp_i (y := nI (r (k + 1) - wf_lt t r ti k)) (pk_sub hlt.2) ?_
              refine lv_iadd hx hb dX0_advance_147 ?_
              refine tp_i (y := nI (wf_K t r ti k + (r (k + 1) - wf_lt t r ti k))) (nI_add _ _) ?_
              refine lv_istore (lv' := [(4, .int (nI (wf_K t r ti k + (r (k + 1) - wf_lt t r ti k)))), (7, .int (nI (wf_lt t r ti k))), (6, .int (nI (r (k + 1)))), (0, .ref x), (1, .long t), (3, .int (nI (r k))), (5, .int (nI k))]) hx hb dX0_advance_148 hl (by decide) rfl (fun ls hl => ?_)
              refine lv_iload hx hb dX0_advance_150 (lv_at hl 2 rfl) ?_
              refine lv_istore_n (lv' := [(3, .int (nI (r (k + 1)))), (4, .int (nI (wf_K t r ti k + (r (k + 1) - wf_lt t r ti k)))), (7, .int (nI (wf_lt t r ti k))), (6, .int (nI (r (k + 1)))), (0, .ref x), (1, .long t), (5, .int (nI k))]) hx hb dX0_advance_152 rfl hl (by decide) rfl (fun ls hl => ?_)
              refine lv_iinc (v := nI (k + 1)) (lv' := [(5, .int (nI (k + 1))), (3, .int (nI (r (k + 1)))), (4, .int (nI (wf_K t r ti k + (r (k + 1) - wf_lt t r ti k)))), (7, .int (nI (wf_lt t r ti k))), (6, .int (nI (r (k + 1)))), (0, .ref x), (1, .long t)]) hx hb dX0_advance_153 hl (k := 6) rfl (nI_1 k) (by decide) rfl (fun ls hl => ?_)
              refine lv_goto (tgt := 45) hx hb dX0_advance_156 (by decide) ?_
              have hN : wf_N t r ti (k + 1) = wf_N t r ti k := by show wf_N t r ti k + _ = _; rw [if_neg (Nat.not_lt.mpr c_A), Nat.add_zero]
              exact ih (k + 1) _ _ _ _ _ H locs ls (by omega) (wf_V_step hr0 hmo hkd hV (dc' := dc) (ac' := adc) (fun _ _ => rfl) ((hV.2.2.2.2.2.1 k (Nat.le_refl k)).trans (if_neg (Nat.not_lt.mpr c_A)).symm) (fun _ _ => rfl) (fun q => absurd q (Nat.not_lt.mpr c_A))) (by rw [hN]; exact hP) (by rw [hN]; exact hD) hS (lv_sub hl [5, 6, 1, 2, 0] rfl)
            · have c_A := c_7
              refine lv_aload_n hx hb dX0_advance_81 rfl (lv_at hl 2 rfl) ?_
              refine va_get (D := (dC, dI)) (ci := 0) (v := .ref a1) (C := RX0) (T := TX0) (N := 12) hx hb hall inX0 hown hK hP 0 rfl rfl 2 (by decide) (hall _ kw_25) (fun _ h9 => h9) rfl dX0_advance_82 ?_
              refine lv_iload hx hb dX0_advance_85 (lv_at hl 6 rfl) ?_
              refine lv_aload_n hx hb dX0_advance_87 rfl (lv_at hl 2 rfl) ?_
              refine va_get (D := (dC, dI)) (ci := 0) (v := .ref a4) (C := RX0) (T := TX0) (N := 12) hx hb hall inX0 hown hK hP 0 rfl rfl 5 (by decide) (hall _ kw_28) (fun _ h9 => h9) rfl dX0_advance_88 ?_
              refine lv_iload hx hb dX0_advance_91 (lv_at hl 0 rfl) ?_
              refine lv_iconst (v := 1) hx hb dX0_advance_93 (by decide) ?_
              refine lv_isub hx hb dX0_advance_94 ?_
              refine tp_i (y := nI (wf_lt t r ti k - 1)) (by rw [show wf_lt t r ti k = (wf_lt t r ti k - 1) + 1 by omega]; exact nI_pred _) ?_
              refine xa_lald hx hb hK hP 4 1 rfl rfl (by omega) (by omega) dX0_advance_95 ?_
              refine xa_last hx hb hK hP hD hS 1 1 rfl rfl (by omega) (by omega) dX0_advance_96 (fun H locs hP hD hS => ?_)
              have hP : va_P (dC, dI) vwCl [(x, .inr (0, [.int (nI nD), .int (nI nR), .ref a1, .ref a2, .ref a3, .ref a4, .ref a5, .ref a6, .int (nI ec), .ref a7, .int (nI (wf_N t r ti k)), .long t])), (a1, .inl (cJ, nD, .inr (.inl (vp_updL dc k (vc (wf_lt t r ti k - 1)))))), (a2, .inl (cI, nD + 1, .inl (fun j => nI (rc j)))), (a3, .inl (cJ, cap, .inr (.inl tc))), (a4, .inl (cJ, cap, .inr (.inl vc))), (a5, .inl (cJ, 16, .inr (.inl ev))), (a6, .inl (cJ, 16, .inr (.inl ed))), (a7, .inl (cI, nD, .inl adc))] H := hP
              have hD : va_D A [(x, .inr (0, [.int (nI nD), .int (nI nR), .ref a1, .ref a2, .ref a3, .ref a4, .ref a5, .ref a6, .int (nI ec), .ref a7, .int (nI (wf_N t r ti k)), .long t])), (a1, .inl (cJ, nD, .inr (.inl (vp_updL dc k (vc (wf_lt t r ti k - 1)))))), (a2, .inl (cI, nD + 1, .inl (fun j => nI (rc j)))), (a3, .inl (cJ, cap, .inr (.inl tc))), (a4, .inl (cJ, cap, .inr (.inl vc))), (a5, .inl (cJ, 16, .inr (.inl ev))), (a6, .inl (cJ, 16, .inr (.inl ed))), (a7, .inl (cI, nD, .inl adc))] := hD
              refine lv_aload_n hx hb dX0_advance_97 rfl (lv_at hl 2 rfl) ?_
              refine va_get (D := (dC, dI)) (ci := 0) (v := .ref a7) (C := RX0) (T := TX0) (N := 12) hx hb hall inX0 hown hK hP 0 rfl rfl 9 (by decide) (hall _ kw_32) (fun _ h9 => h9) rfl dX0_advance_98 ?_
              refine lv_aload_n hx hb dX0_advance_101 rfl (lv_at hl 2 rfl) ?_
              refine va_get (D := (dC, dI)) (ci := 0) (v := .int (nI (wf_N t r ti k))) (C := RX0) (T := TX0) (N := 12) hx hb hall inX0 hown hK hP 0 rfl rfl 10 (by decide) (hall _ kw_33) (fun _ h9 => h9) rfl dX0_advance_102 ?_
              refine lv_iload hx hb dX0_advance_105 (lv_at hl 6 rfl) ?_
              refine xa_iast hx hb hK hP hD hS 7 0 rfl rfl (by omega) (by omega) dX0_advance_107 (fun H locs hP hD hS => ?_)
              have hP : va_P (dC, dI) vwCl [(x, .inr (0, [.int (nI nD), .int (nI nR), .ref a1, .ref a2, .ref a3, .ref a4, .ref a5, .ref a6, .int (nI ec), .ref a7, .int (nI (wf_N t r ti k)), .long t])), (a1, .inl (cJ, nD, .inr (.inl (vp_updL dc k (vc (wf_lt t r ti k - 1)))))), (a2, .inl (cI, nD + 1, .inl (fun j => nI (rc j)))), (a3, .inl (cJ, cap, .inr (.inl tc))), (a4, .inl (cJ, cap, .inr (.inl vc))), (a5, .inl (cJ, 16, .inr (.inl ev))), (a6, .inl (cJ, 16, .inr (.inl ed))), (a7, .inl (cI, nD, .inl (upd adc (wf_N t r ti k) (nI k))))] H := hP
              have hD : va_D A [(x, .inr (0, [.int (nI nD), .int (nI nR), .ref a1, .ref a2, .ref a3, .ref a4, .ref a5, .ref a6, .int (nI ec), .ref a7, .int (nI (wf_N t r ti k)), .long t])), (a1, .inl (cJ, nD, .inr (.inl (vp_updL dc k (vc (wf_lt t r ti k - 1)))))), (a2, .inl (cI, nD + 1, .inl (fun j => nI (rc j)))), (a3, .inl (cJ, cap, .inr (.inl tc))), (a4, .inl (cJ, cap, .inr (.inl vc))), (a5, .inl (cJ, 16, .inr (.inl ev))), (a6, .inl (cJ, 16, .inr (.inl ed))), (a7, .inl (cI, nD, .inl (upd adc (wf_N t r ti k) (nI k))))] := hD
              refine lv_aload_n hx hb dX0_advance_108 rfl (lv_at hl 2 rfl) ?_
              refine lv_dup hx hb dX0_advance_109 rfl ?_
              refine va_get (D := (dC, dI)) (ci := 0) (v := .int (nI (wf_N t r ti k))) (C := RX0) (T := TX0) (N := 12) hx hb hall inX0 hown hK hP 0 rfl rfl 10 (by decide) (hall _ kw_33) (fun _ h9 => h9) rfl dX0_advance_110 ?_
              refine lv_iconst (v := 1) hx hb dX0_advance_113 (by decide) ?_
              refine lv_iadd hx hb dX0_advance_114 ?_
              refine tp_i (y := nI (wf_N t r ti k + 1)) (nI_1 _) ?_
              refine va_put (D := (dC, dI)) (ci := 0) (v := .int (nI (wf_N t r ti k + 1))) (ty := .int) (C := RX0) (T := TX0) (N := 12) hx hb hall inX0 tyX0 tyX0_ok nmX0 hown hK hP hD hS 0 rfl rfl 10 (by decide) (hall _ kw_33) (fun _ h9 => h9) rfl (by decide +kernel) rfl rfl (Nat.le_of_ble_eq_true rfl) dX0_advance_115 (fun H locs hP hD hS => ?_)
              have hP : va_P (dC, dI) vwCl [(x, .inr (0, [.int (nI nD), .int (nI nR), .ref a1, .ref a2, .ref a3, .ref a4, .ref a5, .ref a6, .int (nI ec), .ref a7, .int (nI (wf_N t r ti k + 1)), .long t])), (a1, .inl (cJ, nD, .inr (.inl (vp_updL dc k (vc (wf_lt t r ti k - 1)))))), (a2, .inl (cI, nD + 1, .inl (fun j => nI (rc j)))), (a3, .inl (cJ, cap, .inr (.inl tc))), (a4, .inl (cJ, cap, .inr (.inl vc))), (a5, .inl (cJ, 16, .inr (.inl ev))), (a6, .inl (cJ, 16, .inr (.inl ed))), (a7, .inl (cI, nD, .inl (upd adc (wf_N t r ti k) (nI k))))] H := hP
              have hD : va_D A [(x, .inr (0, [.int (nI nD), .int (nI nR), .ref a1, .ref a2, .ref a3, .ref a4, .ref a5, .ref a6, .int (nI ec), .ref a7, .int (nI (wf_N t r ti k + 1)), .long t])), (a1, .inl (cJ, nD, .inr (.inl (vp_updL dc k (vc (wf_lt t r ti k - 1)))))), (a2, .inl (cI, nD + 1, .inl (fun j => nI (rc j)))), (a3, .inl (cJ, cap, .inr (.inl tc))), (a4, .inl (cJ, cap, .inr (.inl vc))), (a5, .inl (cJ, 16, .inr (.inl ev))), (a6, .inl (cJ, 16, .inr (.inl ed))), (a7, .inl (cI, nD, .inl (upd adc (wf_N t r ti k) (nI k))))] := hD
              refine lv_aload_n hx hb dX0_advance_118 rfl (lv_at hl 2 rfl) ?_
              refine lv_iload hx hb dX0_advance_119 (lv_at hl 0 rfl) ?_
              refine lv_iload hx hb dX0_advance_121 (lv_at hl 5 rfl) ?_
              refine lv_iload hx hb dX0_advance_123 (lv_at hl 1 rfl) ?_
              refine lv_iload hx hb dX0_advance_125 (lv_at hl 0 rfl) ?_
              refine lv_isub hx hb dX0_advance_127 ?_
              refine tp_i (y := nI (r (k + 1) - wf_lt t r ti k)) (pk_sub hlt.2) ?_
              have hFc := va_free (wc := [(x, .inr (0, [.int (nI nD), .int (nI nR), .ref a1, .ref a2, .ref a3, .ref a4, .ref a5, .ref a6, .int (nI ec), .ref a7, .int (nI (wf_N t r ti k + 1)), .long t])), (a1, .inl (cJ, nD, .inr (.inl (vp_updL dc k (vc (wf_lt t r ti k - 1)))))), (a2, .inl (cI, nD + 1, .inl (fun j => nI (rc j)))), (a3, .inl (cJ, cap, .inr (.inl tc))), (a4, .inl (cJ, cap, .inr (.inl vc))), (a5, .inl (cJ, 16, .inr (.inl ev))), (a6, .inl (cJ, 16, .inr (.inl ed))), (a7, .inl (cI, nD, .inl (upd adc (wf_N t r ti k) (nI k))))]) hD hS hA [0, 1, 2, 3, 4, 5, 6, 7] rfl
              refine va_callv (va_runV (As := [.int (nI (wf_lt t r ti k)), .int (nI (wf_K t r ti k)), .int (nI (r (k + 1) - wf_lt t r ti k))]) (rest := []) ⟨hx, hb, hml, hown, hall⟩ (c_moveTransactions l dC dI x a1 a2 a3 a4 a5 a6 a7 cI cJ nD nR (vp_updL dc k (vc (wf_lt t r ti k - 1))) rc cap tc vc ev ed ec (upd adc (wf_N t r ti k) (nI k)) (wf_N t r ti k + 1) t H.size (wf_lt t r ti k) (wf_K t r ti k) (r (k + 1) - wf_lt t r ti k) (by omega) (by omega) hcap) (cwV 3 hall gX0_95 rfl rfl rfl (by decide +kernel) ⟨Nat.le_of_ble_eq_true rfl, Nat.le_of_ble_eq_true rfl⟩) ⟨xu_blind, va_recv hK hP (ci := 0) (q0 := 0) rfl rfl, fun U hU hW => ⟨rfl, by rw [hU], by rw [hU]; exact hP, va_K.moved hW.alike hK, hD.weaken (fun _ _ _ _ => trivial)⟩⟩ rfl rfl hl.1 rfl (lv_room (Nat.le_of_ble_eq_true rfl)) dX0_advance_128 ⟨Nat.le_of_ble_eq_true rfl, Nat.le_of_ble_eq_true rfl⟩) hS (fun q _ h => hFc q h) hFc (fun u9 t9 H1 locs ht hvm hw hB hz1 hk1 hS => ?_)
              obtain ⟨hP1, hK1, hD1⟩ := hB
              rw [ht] at hP1
              obtain ⟨hP, hD⟩ := va_join (wr := []) (w1 := [(x, .inr (0, [.int (nI nD), .int (nI nR), .ref a1, .ref a2, .ref a3, .ref a4, .ref a5, .ref a6, .int (nI ec), .ref a7, .int (nI (wf_N t r ti k + 1)), .long t])), (a1, .inl (cJ, nD, .inr (.inl (vp_updL dc k (vc (wf_lt t r ti k - 1)))))), (a2, .inl (cI, nD + 1, .inl (fun j => nI (rc j)))), (a3, .inl (cJ, cap, .inr (.inl (va_cpy tc tc (wf_lt t r ti k) (wf_K t r ti k) (r (k + 1) - wf_lt t r ti k))))), (a4, .inl (cJ, cap, .inr (.inl (va_cpy vc vc (wf_lt t r ti k) (wf_K t r ti k) (r (k + 1) - wf_lt t r ti k))))), (a5, .inl (cJ, 16, .inr (.inl ev))), (a6, .inl (cJ, 16, .inr (.inl ed))), (a7, .inl (cI, nD, .inl (upd adc (wf_N t r ti k) (nI k))))]) hP hD [0, 1, 2, 3, 4, 5, 6, 7] [] rfl rfl (by decide) (by decide) hk1 hFc hP1 hD1
              generalize H1 = H at hP hS ⊢
              have hP : va_P (dC, dI) vwCl [(x, .inr (0, [.int (nI nD), .int (nI nR), .ref a1, .ref a2, .ref a3, .ref a4, .ref a5, .ref a6, .int (nI ec), .ref a7, .int (nI (wf_N t r ti k + 1)), .long t])), (a1, .inl (cJ, nD, .inr (.inl (vp_updL dc k (vc (wf_lt t r ti k - 1)))))), (a2, .inl (cI, nD + 1, .inl (fun j => nI (rc j)))), (a3, .inl (cJ, cap, .inr (.inl (va_cpy tc tc (wf_lt t r ti k) (wf_K t r ti k) (r (k + 1) - wf_lt t r ti k))))), (a4, .inl (cJ, cap, .inr (.inl (va_cpy vc vc (wf_lt t r ti k) (wf_K t r ti k) (r (k + 1) - wf_lt t r ti k))))), (a5, .inl (cJ, 16, .inr (.inl ev))), (a6, .inl (cJ, 16, .inr (.inl ed))), (a7, .inl (cI, nD, .inl (upd adc (wf_N t r ti k) (nI k))))] H := hP
              have hD : va_D A [(x, .inr (0, [.int (nI nD), .int (nI nR), .ref a1, .ref a2, .ref a3, .ref a4, .ref a5, .ref a6, .int (nI ec), .ref a7, .int (nI (wf_N t r ti k + 1)), .long t])), (a1, .inl (cJ, nD, .inr (.inl (vp_updL dc k (vc (wf_lt t r ti k - 1)))))), (a2, .inl (cI, nD + 1, .inl (fun j => nI (rc j)))), (a3, .inl (cJ, cap, .inr (.inl (va_cpy tc tc (wf_lt t r ti k) (wf_K t r ti k) (r (k + 1) - wf_lt t r ti k))))), (a4, .inl (cJ, cap, .inr (.inl (va_cpy vc vc (wf_lt t r ti k) (wf_K t r ti k) (r (k + 1) - wf_lt t r ti k))))), (a5, .inl (cJ, 16, .inr (.inl ev))), (a6, .inl (cJ, 16, .inr (.inl ed))), (a7, .inl (cI, nD, .inl (upd adc (wf_N t r ti k) (nI k))))] := hD
              refine lv_aload_n hx hb dX0_advance_131 rfl (lv_at hl 2 rfl) ?_
              refine va_get (D := (dC, dI)) (ci := 0) (v := .ref a2) (C := RX0) (T := TX0) (N := 12) hx hb hall inX0 hown hK hP 0 rfl rfl 3 (by decide) (hall _ kw_26) (fun _ h9 => h9) rfl dX0_advance_132 ?_
              refine lv_iload hx hb dX0_advance_135 (lv_at hl 6 rfl) ?_
              refine lv_iload hx hb dX0_advance_137 (lv_at hl 5 rfl) ?_
              refine xa_iast hx hb hK hP hD hS 2 0 rfl rfl (by omega) (by omega) dX0_advance_139 (fun H locs hP hD hS => ?_)
              have hP : va_P (dC, dI) vwCl [(x, .inr (0, [.int (nI nD), .int (nI nR), .ref a1, .ref a2, .ref a3, .ref a4, .ref a5, .ref a6, .int (nI ec), .ref a7, .int (nI (wf_N t r ti k + 1)), .long t])), (a1, .inl (cJ, nD, .inr (.inl (vp_updL dc k (vc (wf_lt t r ti k - 1)))))), (a2, .inl (cI, nD + 1, .inl (upd (fun j => nI (rc j)) k (nI (wf_K t r ti k))))), (a3, .inl (cJ, cap, .inr (.inl (va_cpy tc tc (wf_lt t r ti k) (wf_K t r ti k) (r (k + 1) - wf_lt t r ti k))))), (a4, .inl (cJ, cap, .inr (.inl (va_cpy vc vc (wf_lt t r ti k) (wf_K t r ti k) (r (k + 1) - wf_lt t r ti k))))), (a5, .inl (cJ, 16, .inr (.inl ev))), (a6, .inl (cJ, 16, .inr (.inl ed))), (a7, .inl (cI, nD, .inl (upd adc (wf_N t r ti k) (nI k))))] H := hP
              have hD : va_D A [(x, .inr (0, [.int (nI nD), .int (nI nR), .ref a1, .ref a2, .ref a3, .ref a4, .ref a5, .ref a6, .int (nI ec), .ref a7, .int (nI (wf_N t r ti k + 1)), .long t])), (a1, .inl (cJ, nD, .inr (.inl (vp_updL dc k (vc (wf_lt t r ti k - 1)))))), (a2, .inl (cI, nD + 1, .inl (upd (fun j => nI (rc j)) k (nI (wf_K t r ti k))))), (a3, .inl (cJ, cap, .inr (.inl (va_cpy tc tc (wf_lt t r ti k) (wf_K t r ti k) (r (k + 1) - wf_lt t r ti k))))), (a4, .inl (cJ, cap, .inr (.inl (va_cpy vc vc (wf_lt t r ti k) (wf_K t r ti k) (r (k + 1) - wf_lt t r ti k))))), (a5, .inl (cJ, 16, .inr (.inl ev))), (a6, .inl (cJ, 16, .inr (.inl ed))), (a7, .inl (cI, nD, .inl (upd adc (wf_N t r ti k) (nI k))))] := hD
              rw [un_nI] at hP hD
              refine lv_iload hx hb dX0_advance_140 (lv_at hl 5 rfl) ?_
              refine lv_iload hx hb dX0_advance_142 (lv_at hl 1 rfl) ?_
              refine lv_iload hx hb dX0_advance_144 (lv_at hl 0 rfl) ?_
              refine lv_isub hx hb dX0_advance_146 ?_
              refine tp_i (y := nI (r (k + 1) - wf_lt t r ti k)) (pk_sub hlt.2) ?_
              refine lv_iadd hx hb dX0_advance_147 ?_
              refine tp_i (y := nI (wf_K t r ti k + (r (k + 1) - wf_lt t r ti k))) (nI_add _ _) ?_
              refine lv_istore (lv' := [(4, .int (nI (wf_K t r ti k + (r (k + 1) - wf_lt t r ti k)))), (7, .int (nI (wf_lt t r ti k))), (6, .int (nI (r (k + 1)))), (0, .ref x), (1, .long t), (3, .int (nI (r k))), (5, .int (nI k))]) hx hb dX0_advance_148 hl (by decide) rfl (fun ls hl => ?_)
              refine lv_iload hx hb dX0_advance_150 (lv_at hl 2 rfl) ?_
              refine lv_istore_n (lv' := [(3, .int (nI (r (k + 1)))), (4, .int (nI (wf_K t r ti k + (r (k + 1) - wf_lt t r ti k)))), (7, .int (nI (wf_lt t r ti k))), (6, .int (nI (r (k + 1)))), (0, .ref x), (1, .long t), (5, .int (nI k))]) hx hb dX0_advance_152 rfl hl (by decide) rfl (fun ls hl => ?_)
              refine lv_iinc (v := nI (k + 1)) (lv' := [(5, .int (nI (k + 1))), (3, .int (nI (r (k + 1)))), (4, .int (nI (wf_K t r ti k + (r (k + 1) - wf_lt t r ti k)))), (7, .int (nI (wf_lt t r ti k))), (6, .int (nI (r (k + 1)))), (0, .ref x), (1, .long t)]) hx hb dX0_advance_153 hl (k := 6) rfl (nI_1 k) (by decide) rfl (fun ls hl => ?_)
              refine lv_goto (tgt := 45) hx hb dX0_advance_156 (by decide) ?_
              have hN : wf_N t r ti (k + 1) = wf_N t r ti k + 1 := by show wf_N t r ti k + _ = _; rw [if_pos c_A]
              exact ih (k + 1) _ _ _ _ _ H locs ls (by omega) (wf_V_step hr0 hmo hkd hV (dc' := vp_updL dc k (vc (wf_lt t r ti k - 1))) (ac' := upd adc (wf_N t r ti k) (nI k)) (fun j hj => pk_uLn hj) (pk_uLs.trans (((hV.2.2.2.1 _ (by omega)).2).trans (if_pos c_A).symm)) (fun j hj => pk_un (by omega)) (fun _ => pk_us)) (by rw [hN]; exact hP) (by rw [hN]; exact hD) hS (lv_sub hl [5, 6, 1, 2, 0] rfl)
      exact hloop nD 0 r ti va dv ad H locs ls (by omega) (wf_V_0 t r ti va dv ad) hP hD hS (by rw [hr0]; exact lv_sub hl [3, 4, 2, 1, 0] rfl)
    · exact absurd (Int64.not_le.mp c_2) h2
set_option maxHeartbeats 4000000 in
set_option maxRecDepth 100000 in
theorem x_assign4 (l : Launch) (dC : Nat → ClassId) (dI : Nat → Nat → Nat) (x a1 a2 a3 a4 a5 a6 a7 : Nat) (cI cJ : ClassId) (nD nR : Nat) (dv : Nat → Int64) (r : Nat → Nat) (cap : Nat) (ti va ev ed : Nat → Int64) (ec : Nat) (ad : Nat → Int32) (ac : Nat) (now : Int64) (hst : l.stackTraces = false) (hI : wf_R nD nR cap ec ac r) (d : Nat) (mo : Int32) (t : Int64) (hd : d < nD) (hz : 0 < ec) (hg : wf_lg mo (ed 0) t ∧ wf_dg ed now ec 0 (-1)) (cut pl sm : Nat) (hcut : cut = wf_fb ti (now + ed 0 - 1) (r (d + 1) - r d) (r d)) (hpl : pl = wf_fb ti (now + ed 0 - wf_lim mo (ed 0) t - 1) (cut - r d) (r d)) (hsm : sm = wf_ss va (ev 0) pl (cut - pl)) (hbad : nR < r nD - (sm - pl + (r (d + 1) - cut)) + ec) : xt_Met l yX0_assign wsX0_assign ({ frames := 6, cells := 1, slots := 6, locals := 82 }) (va_Pc [.ref x, .int (nI d), .int mo, .long t] (fun U => va_P (dC, dI) vwCl (wr x a1 a2 a3 a4 a5 a6 a7 cI cJ nD nR dv r cap ti va ev ed ec ad ac now) U.heap ∧ va_K (dC, dI) vwCl [(cI, .int), (cJ, .long)] U ∧ xt_ok U)) "java/lang/IllegalStateException" := by
  refine xt_ofW (cc := cX0_assign) (maxL := 14) (ret := (some .int)) (by decide) rfl ?_
  intro p e s m args below meth c s₁ B hml hout hv
  obtain ⟨rfl, hP, hK, hok⟩ := hv
  have hx := B.exec
  have hb := B.bytes
  have hr := B.returns
  have hts := atoms_spec (ws := wsX0_assign) B.pre
  have hown : s.vm.findClass RX0 = some m.cls := findClass_of_methodNamed B.named
  have hlocks := B.notSynchronized
  have hall := fun (w : Cond) (h : w ∈ allw) => hts w (List.mem_cons_of_mem _ h)
  have hl := lv_entry ([.ref x, .int (nI d), .int mo, .long t]) (n := 14) (Nat.le_of_ble_eq_true rfl)
  rw [lg_entry_eq]
  generalize (lg_sl ([.ref x, .int (nI d), .int mo, .long t]) ++ List.replicate (14 - (lg_sl ([.ref x, .int (nI d), .int mo, .long t])).length) Slot.unset).toArray = ls at hl ⊢
  have hl : lv_has ls 14 [(0, .ref x), (1, .int (nI d)), (2, .int mo), (3, .long t)] := hl
  have hI0 := hI
  obtain ⟨hnD1, hnD, hnR1, hnR, hcap, hrc, hrR, hr0, hmo, hec, hac⟩ := hI
  have hle := wf_le hmo (show d + 1 ≤ nD by omega) (Nat.le_refl nD)
  have hmd := hmo d hd
  have hc := wf_fb_le ti (now + ed 0 - 1) (r (d + 1) - r d) (r d)
  rw [← hcut] at hc
  have hp := wf_fb_le ti (now + ed 0 - wf_lim mo (ed 0) t - 1) (cut - r d) (r d)
  rw [← hpl] at hp
  have hs := wf_ss_le va (ev 0) pl (cut - pl)
  rw [← hsm] at hs
  have hm3 : mo = 0 ∨ mo = 1 ∨ mo = 2 := hg.1.elim (fun q => Or.inr (Or.inr q.1)) (fun q => q.elim Or.inl (fun q => Or.inr (Or.inl q)))
  refine lv_aload_n hx hb dX0_assign_0 rfl (lv_at hl 0 rfl) ?_
  refine lv_iload_n hx hb dX0_assign_1 rfl (lv_at hl 1 rfl) ?_
  refine xv_call (W.runV (As := [.int (nI d)]) (rest := []) ⟨hx, hb, hml, hown, hall⟩ (c_requireDriver l dC dI x a1 a2 a3 a4 a5 a6 a7 cI cJ nD nR dv r cap ti va ev ed ec ad ac now hI0 d hd) (cwV 1 hall gX0_62 rfl rfl rfl (by decide +kernel) ⟨Nat.le_of_ble_eq_true rfl, Nat.le_of_ble_eq_true rfl⟩) ⟨xr_blind, va_recv hK hP (ci := 0) (q0 := 0) rfl rfl, fun U hU hW => ⟨rfl, by rw [hU]; exact hP, va_K.moved hW.alike hK⟩⟩ rfl rfl hl.1 rfl (lv_room (Nat.le_of_ble_eq_true rfl)) dX0_assign_2 ⟨by first | exact Nat.zero_le _ | omega, by first | exact Nat.zero_le _ | omega⟩) (fun hv_2 => ?_)
  refine lv_aload_n hx hb dX0_assign_5 rfl (lv_at hl 0 rfl) ?_
  refine va_get (D := (dC, dI)) (ci := 0) (v := .int (nI ec)) (C := RX0) (T := TX0) (N := 12) hx hb hall inX0 hown hK hP 0 rfl rfl 8 (by decide) (hall _ kw_31) (fun _ h9 => h9) rfl dX0_assign_6 ?_
  refine xz_ne (tgt := 22) hx hb (by omega) dX0_assign_9 (by decide) (fun c_3 => ?_) (fun c_3 => ?_)
  · refine lv_aload_n hx hb dX0_assign_22 rfl (lv_at hl 0 rfl) ?_
    refine lv_iload_n hx hb dX0_assign_23 rfl (lv_at hl 2 rfl) ?_
    refine lv_lload_n hx hb dX0_assign_24 rfl (lv_at hl 3 rfl) ?_
    refine vp_callSi (W.runV (As := [.int mo, .long t]) (rest := []) ⟨hx, hb, hml, hown, hall⟩ (c_isLimitGood l dC dI x a1 a2 a3 a4 a5 a6 a7 cI cJ nD nR dv r cap ti va ev ed ec ad ac now mo t) (cwV 2 hall gX0_68 rfl rfl rfl (by decide +kernel) ⟨Nat.le_of_ble_eq_true rfl, Nat.le_of_ble_eq_true rfl⟩) ⟨xr_blind, va_recv hK hP (ci := 0) (q0 := 0) rfl rfl, fun U hU hW => ⟨rfl, by rw [hU]; exact hP, va_K.moved hW.alike hK⟩⟩ rfl rfl hl.1 rfl (lv_room (Nat.le_of_ble_eq_true rfl)) dX0_assign_25 ⟨by first | exact Nat.zero_le _ | omega, by first | exact Nat.zero_le _ | omega⟩) (fun v_4 hv_5 => ?_)
    obtain rfl : v_4 = 1 := hv_5.elim (fun q => q.1) (fun q => absurd hg.1 q.2)
    refine lv_if_eq (tgt := 38) hx hb dX0_assign_28 (by decide) (fun c_6 => ?_) (fun c_6 => ?_)
    · exact absurd c_6 (by decide)
    · refine lv_aload_n hx hb dX0_assign_31 rfl (lv_at hl 0 rfl) ?_
      refine vp_callSi (W.runV (As := []) (rest := []) ⟨hx, hb, hml, hown, hall⟩ (c_areDelaysGood l dC dI x a1 a2 a3 a4 a5 a6 a7 cI cJ nD nR dv r cap ti va ev ed ec ad ac now hI0) (cwV 0 hall gX0_72 rfl rfl rfl (by decide +kernel) ⟨Nat.le_of_ble_eq_true rfl, Nat.le_of_ble_eq_true rfl⟩) ⟨xr_blind, va_recv hK hP (ci := 0) (q0 := 0) rfl rfl, fun U hU hW => ⟨rfl, by rw [hU]; exact hP, va_K.moved hW.alike hK⟩⟩ rfl rfl hl.1 rfl (lv_room (Nat.le_of_ble_eq_true rfl)) dX0_assign_32 ⟨by first | exact Nat.zero_le _ | omega, by first | exact Nat.zero_le _ | omega⟩) (fun v_7 hv_8 => ?_)
      obtain rfl : v_7 = 1 := hv_8.elim (fun q => q.1) (fun q => absurd hg.2 q.2)
      refine lv_if_ne (tgt := 48) hx hb dX0_assign_35 (by decide) (fun c_9 => ?_) (fun c_9 => ?_)
      · refine lv_aload_n hx hb dX0_assign_48 rfl (lv_at hl 0 rfl) ?_
        refine va_get (D := (dC, dI)) (ci := 0) (v := .long now) (C := RX0) (T := TX0) (N := 12) hx hb hall inX0 hown hK hP 0 rfl rfl 11 (by decide) (hall _ kw_34) (fun _ h9 => h9) rfl dX0_assign_49 ?_
        refine lv_aload_n hx hb dX0_assign_52 rfl (lv_at hl 0 rfl) ?_
        refine va_get (D := (dC, dI)) (ci := 0) (v := .ref a6) (C := RX0) (T := TX0) (N := 12) hx hb hall inX0 hown hK hP 0 rfl rfl 7 (by decide) (hall _ kw_30) (fun _ h9 => h9) rfl dX0_assign_53 ?_
        refine lv_iconst (v := 0) hx hb dX0_assign_56 (by decide) ?_
        refine tp_i (y := nI 0) nI_0.symm ?_
        refine xa_lald hx hb hK hP 6 1 rfl rfl (by omega) (by omega) dX0_assign_57 ?_
        refine lv_ladd hx hb dX0_assign_58 ?_
        refine lv_lstore (lv' := [(5, .long (now + (ed 0))), (0, .ref x), (1, .int (nI d)), (2, .int mo), (3, .long t)]) hx hb dX0_assign_59 hl (by decide) rfl (fun ls hl => ?_)
        refine lv_aload_n hx hb dX0_assign_61 rfl (lv_at hl 1 rfl) ?_
        refine va_get (D := (dC, dI)) (ci := 0) (v := .ref a2) (C := RX0) (T := TX0) (N := 12) hx hb hall inX0 hown hK hP 0 rfl rfl 3 (by decide) (hall _ kw_26) (fun _ h9 => h9) rfl dX0_assign_62 ?_
        refine lv_iload_n hx hb dX0_assign_65 rfl (lv_at hl 2 rfl) ?_
        refine xa_iald hx hb hK hP 2 0 rfl rfl (by omega) (by omega) dX0_assign_66 ?_
        refine lv_istore (lv' := [(7, .int (nI (r d))), (5, .long (now + (ed 0))), (0, .ref x), (1, .int (nI d)), (2, .int mo), (3, .long t)]) hx hb dX0_assign_67 hl (by decide) rfl (fun ls hl => ?_)
        refine lv_aload_n hx hb dX0_assign_69 rfl (lv_at hl 2 rfl) ?_
        refine va_get (D := (dC, dI)) (ci := 0) (v := .ref a2) (C := RX0) (T := TX0) (N := 12) hx hb hall inX0 hown hK hP 0 rfl rfl 3 (by decide) (hall _ kw_26) (fun _ h9 => h9) rfl dX0_assign_70 ?_
        refine lv_iload_n hx hb dX0_assign_73 rfl (lv_at hl 3 rfl) ?_
        refine lv_iconst (v := 1) hx hb dX0_assign_74 (by decide) ?_
        refine lv_iadd hx hb dX0_assign_75 ?_
        refine tp_i (y := nI (d + 1)) (nI_1 d) ?_
        refine xa_iald hx hb hK hP 2 0 rfl rfl (by omega) (by omega) dX0_assign_76 ?_
        refine lv_istore (lv' := [(8, .int (nI (r (d + 1)))), (7, .int (nI (r d))), (5, .long (now + (ed 0))), (0, .ref x), (1, .int (nI d)), (2, .int mo), (3, .long t)]) hx hb dX0_assign_77 hl (by decide) rfl (fun ls hl => ?_)
        refine lv_aload_n hx hb dX0_assign_79 rfl (lv_at hl 3 rfl) ?_
        refine lv_iload hx hb dX0_assign_80 (lv_at hl 1 rfl) ?_
        refine lv_iload hx hb dX0_assign_82 (lv_at hl 0 rfl) ?_
        refine lv_lload hx hb dX0_assign_84 (lv_at hl 2 rfl) ?_
        refine lv_lconst (v := 1) hx hb dX0_assign_86 (by decide) ?_
        refine lv_lsub hx hb dX0_assign_87 ?_
        refine vp_callSi (W.runV (As := [.int (nI (r d)), .int (nI (r (d + 1))), .long ((now + (ed 0)) - 1)]) (rest := []) ⟨hx, hb, hml, hown, hall⟩ (c_firstBehind l dC dI x a1 a2 a3 a4 a5 a6 a7 cI cJ nD nR dv r cap ti va ev ed ec ad ac now (r d) (r (d + 1)) (now + ed 0 - 1) hmd (by omega) hcap) (cwV 3 hall gX0_82 rfl rfl rfl (by decide +kernel) ⟨Nat.le_of_ble_eq_true rfl, Nat.le_of_ble_eq_true rfl⟩) ⟨xr_blind, va_recv hK hP (ci := 0) (q0 := 0) rfl rfl, fun U hU hW => ⟨rfl, by rw [hU]; exact hP, va_K.moved hW.alike hK⟩⟩ rfl rfl hl.1 rfl (lv_room (Nat.le_of_ble_eq_true rfl)) dX0_assign_88 ⟨by first | exact Nat.zero_le _ | omega, by first | exact Nat.zero_le _ | omega⟩) (fun v_10 hv_11 => ?_)
        obtain rfl : v_10 = nI cut := hv_11.trans (by rw [← hcut])
        refine lv_istore (lv' := [(9, .int (nI cut)), (8, .int (nI (r (d + 1)))), (7, .int (nI (r d))), (5, .long (now + (ed 0))), (0, .ref x), (1, .int (nI d)), (2, .int mo), (3, .long t)]) hx hb dX0_assign_91 hl (by decide) rfl (fun ls hl => ?_)
        refine lv_aload_n hx hb dX0_assign_93 rfl (lv_at hl 4 rfl) ?_
        refine lv_iload hx hb dX0_assign_94 (lv_at hl 2 rfl) ?_
        refine lv_iload hx hb dX0_assign_96 (lv_at hl 0 rfl) ?_
        refine lv_lload hx hb dX0_assign_98 (lv_at hl 3 rfl) ?_
        refine lv_aload_n hx hb dX0_assign_100 rfl (lv_at hl 4 rfl) ?_
        refine lv_iload_n hx hb dX0_assign_101 rfl (lv_at hl 6 rfl) ?_
        refine lv_lload_n hx hb dX0_assign_102 rfl (lv_at hl 7 rfl) ?_
        refine vp_callSl (W.runV (As := [.int mo, .long t]) (rest := [.long (now + (ed 0)), .int (nI cut), .int (nI (r d)), .ref x]) ⟨hx, hb, hml, hown, hall⟩ (c_limitOf l dC dI x a1 a2 a3 a4 a5 a6 a7 cI cJ nD nR dv r cap ti va ev ed ec ad ac now mo t hm3) (cwV 2 hall gX0_86 rfl rfl rfl (by decide +kernel) ⟨Nat.le_of_ble_eq_true rfl, Nat.le_of_ble_eq_true rfl⟩) ⟨xr_blind, va_recv hK hP (ci := 0) (q0 := 0) rfl rfl, fun U hU hW => ⟨rfl, by rw [hU]; exact hP, va_K.moved hW.alike hK⟩⟩ rfl rfl hl.1 rfl (lv_room (Nat.le_of_ble_eq_true rfl)) dX0_assign_103 ⟨by first | exact Nat.zero_le _ | omega, by first | exact Nat.zero_le _ | omega⟩) (fun v_12 hv_13 => ?_)
        subst hv_13
        refine lv_lsub hx hb dX0_assign_106 ?_
        refine lv_lconst (v := 1) hx hb dX0_assign_107 (by decide) ?_
        refine lv_lsub hx hb dX0_assign_108 ?_
        refine vp_callSi (W.runV (As := [.int (nI (r d)), .int (nI cut), .long (((now + (ed 0)) - (wf_lim mo (ed 0) t)) - 1)]) (rest := []) ⟨hx, hb, hml, hown, hall⟩ (c_firstBehind l dC dI x a1 a2 a3 a4 a5 a6 a7 cI cJ nD nR dv r cap ti va ev ed ec ad ac now (r d) cut (now + ed 0 - wf_lim mo (ed 0) t - 1) hc.1 (by omega) hcap) (cwV 3 hall gX0_82 rfl rfl rfl (by decide +kernel) ⟨Nat.le_of_ble_eq_true rfl, Nat.le_of_ble_eq_true rfl⟩) ⟨xr_blind, va_recv hK hP (ci := 0) (q0 := 0) rfl rfl, fun U hU hW => ⟨rfl, by rw [hU]; exact hP, va_K.moved hW.alike hK⟩⟩ rfl rfl hl.1 rfl (lv_room (Nat.le_of_ble_eq_true rfl)) dX0_assign_109 ⟨by first | exact Nat.zero_le _ | omega, by first | exact Nat.zero_le _ | omega⟩) (fun v_14 hv_15 => ?_)
        obtain rfl : v_14 = nI pl := hv_15.trans (by rw [← hpl])
        refine lv_istore (lv' := [(10, .int (nI pl)), (9, .int (nI cut)), (8, .int (nI (r (d + 1)))), (7, .int (nI (r d))), (5, .long (now + (ed 0))), (0, .ref x), (1, .int (nI d)), (2, .int mo), (3, .long t)]) hx hb dX0_assign_112 hl (by decide) rfl (fun ls hl => ?_)
        refine lv_aload_n hx hb dX0_assign_114 rfl (lv_at hl 5 rfl) ?_
        refine lv_iload hx hb dX0_assign_115 (lv_at hl 0 rfl) ?_
        refine lv_iload hx hb dX0_assign_117 (lv_at hl 1 rfl) ?_
        refine lv_aload_n hx hb dX0_assign_119 rfl (lv_at hl 5 rfl) ?_
        refine va_get (D := (dC, dI)) (ci := 0) (v := .ref a5) (C := RX0) (T := TX0) (N := 12) hx hb hall inX0 hown hK hP 0 rfl rfl 6 (by decide) (hall _ kw_29) (fun _ h9 => h9) rfl dX0_assign_120 ?_
        refine lv_iconst (v := 0) hx hb dX0_assign_123 (by decide) ?_
        refine tp_i (y := nI 0) nI_0.symm ?_
        refine xa_lald hx hb hK hP 5 1 rfl rfl (by omega) (by omega) dX0_assign_124 ?_
        refine vp_callSi (W.runV (As := [.int (nI pl), .int (nI cut), .long (ev 0)]) (rest := []) ⟨hx, hb, hml, hown, hall⟩ (c_startOfSameValues l dC dI x a1 a2 a3 a4 a5 a6 a7 cI cJ nD nR dv r cap ti va ev ed ec ad ac now pl cut (ev 0) (by omega) (by omega) hcap) (cwV 3 hall gX0_90 rfl rfl rfl (by decide +kernel) ⟨Nat.le_of_ble_eq_true rfl, Nat.le_of_ble_eq_true rfl⟩) ⟨xr_blind, va_recv hK hP (ci := 0) (q0 := 0) rfl rfl, fun U hU hW => ⟨rfl, by rw [hU]; exact hP, va_K.moved hW.alike hK⟩⟩ rfl rfl hl.1 rfl (lv_room (Nat.le_of_ble_eq_true rfl)) dX0_assign_125 ⟨by first | exact Nat.zero_le _ | omega, by first | exact Nat.zero_le _ | omega⟩) (fun v_16 hv_17 => ?_)
        obtain rfl : v_16 = nI sm := hv_17.trans (by rw [← hsm])
        refine lv_istore (lv' := [(11, .int (nI sm)), (10, .int (nI pl)), (9, .int (nI cut)), (8, .int (nI (r (d + 1)))), (7, .int (nI (r d))), (5, .long (now + (ed 0))), (0, .ref x), (1, .int (nI d)), (2, .int mo), (3, .long t)]) hx hb dX0_assign_128 hl (by decide) rfl (fun ls hl => ?_)
        refine lv_iload hx hb dX0_assign_130 (lv_at hl 0 rfl) ?_
        refine lv_iload hx hb dX0_assign_132 (lv_at hl 1 rfl) ?_
        refine lv_isub hx hb dX0_assign_134 ?_
        refine tp_i (y := nI (sm - pl)) (pk_sub (by omega)) ?_
        refine lv_iload hx hb dX0_assign_135 (lv_at hl 3 rfl) ?_
        refine lv_iload hx hb dX0_assign_137 (lv_at hl 2 rfl) ?_
        refine lv_isub hx hb dX0_assign_139 ?_
        refine tp_i (y := nI (r (d + 1) - cut)) (pk_sub (by omega)) ?_
        refine lv_iadd hx hb dX0_assign_140 ?_
        refine tp_i (y := nI (sm - pl + (r (d + 1) - cut))) (nI_add _ _) ?_
        refine lv_istore (lv' := [(12, .int (nI (sm - pl + (r (d + 1) - cut)))), (11, .int (nI sm)), (10, .int (nI pl)), (9, .int (nI cut)), (8, .int (nI (r (d + 1)))), (7, .int (nI (r d))), (5, .long (now + (ed 0))), (0, .ref x), (1, .int (nI d)), (2, .int mo), (3, .long t)]) hx hb dX0_assign_141 hl (by decide) rfl (fun ls hl => ?_)
        refine lv_aload_n hx hb dX0_assign_143 rfl (lv_at hl 7 rfl) ?_
        refine va_get (D := (dC, dI)) (ci := 0) (v := .ref a2) (C := RX0) (T := TX0) (N := 12) hx hb hall inX0 hown hK hP 0 rfl rfl 3 (by decide) (hall _ kw_26) (fun _ h9 => h9) rfl dX0_assign_144 ?_
        refine lv_aload_n hx hb dX0_assign_147 rfl (lv_at hl 7 rfl) ?_
        refine va_get (D := (dC, dI)) (ci := 0) (v := .int (nI nD)) (C := RX0) (T := TX0) (N := 12) hx hb hall inX0 hown hK hP 0 rfl rfl 0 (by decide) (hall _ kw_23) (fun _ h9 => h9) rfl dX0_assign_148 ?_
        refine xa_iald hx hb hK hP 2 0 rfl rfl (by omega) (by omega) dX0_assign_151 ?_
        refine lv_iload hx hb dX0_assign_152 (lv_at hl 0 rfl) ?_
        refine lv_isub hx hb dX0_assign_154 ?_
        refine tp_i (y := nI (r nD - (sm - pl + (r (d + 1) - cut)))) (pk_sub (by omega)) ?_
        refine lv_aload_n hx hb dX0_assign_155 rfl (lv_at hl 7 rfl) ?_
        refine va_get (D := (dC, dI)) (ci := 0) (v := .int (nI ec)) (C := RX0) (T := TX0) (N := 12) hx hb hall inX0 hown hK hP 0 rfl rfl 8 (by decide) (hall _ kw_31) (fun _ h9 => h9) rfl dX0_assign_156 ?_
        refine lv_iadd hx hb dX0_assign_159 ?_
        refine tp_i (y := nI (r nD - (sm - pl + (r (d + 1) - cut)) + ec)) (nI_add _ _) ?_
        refine lv_aload_n hx hb dX0_assign_160 rfl (lv_at hl 7 rfl) ?_
        refine va_get (D := (dC, dI)) (ci := 0) (v := .int (nI nR)) (C := RX0) (T := TX0) (N := 12) hx hb hall inX0 hown hK hP 0 rfl rfl 1 (by decide) (hall _ kw_24) (fun _ h9 => h9) rfl dX0_assign_161 ?_
        refine xc_le (tgt := 177) hx hb (by omega) (by omega) dX0_assign_164 (by decide) (fun c_18 => ?_) (fun c_18 => ?_)
        · exact absurd c_18 (by omega)
        · obtain ⟨sa, hsa⟩ := hok.2 (93, "there is no room for so many transactions") (by decide)
          exact xt_throw (own := RX0) (cls := "java/lang/IllegalStateException") (text := "there is no room for so many transactions") (names := xt_rt) (ik := 57) (is := 93) (ic := 61) hx hb hst hown (by decide) (by decide) (xt_at hok _ (by decide +kernel)) (xt_at hok _ (by decide +kernel)) hsa (fun w hw => xt_at hok w (xt_in2 w hw)) (hl.1.trans hml.symm) dX0_assign_167 dX0_assign_170 dX0_assign_171 dX0_assign_173 dX0_assign_176 hout (by decide) (by decide) (by decide) (by decide) hlocks
      · exact absurd c_9 (by decide)
  · exact absurd c_3 (by omega)
set_option maxHeartbeats 4000000 in
set_option maxRecDepth 100000 in
theorem c_assign (l : Launch) (dC : Nat → ClassId) (dI : Nat → Nat → Nat) (x a1 a2 a3 a4 a5 a6 a7 : Nat) (cI cJ : ClassId) (nD nR : Nat) (dv : Nat → Int64) (r : Nat → Nat) (cap : Nat) (ti va ev ed : Nat → Int64) (ec : Nat) (ad : Nat → Int32) (ac : Nat) (now : Int64) (sz : Nat) (hI : wf_R nD nR cap ec ac r) (d : Nat) (mo : Int32) (t : Int64) (hd : d < nD) (hz : 0 < ec) (hg : wf_lg mo (ed 0) t ∧ wf_dg ed now ec 0 (-1)) (cut pl sm : Nat) (hcut : cut = wf_fb ti (now + ed 0 - 1) (r (d + 1) - r d) (r d)) (hpl : pl = wf_fb ti (now + ed 0 - wf_lim mo (ed 0) t - 1) (cut - r d) (r d)) (hsm : sm = wf_ss va (ev 0) pl (cut - pl)) (hroom : r nD - (sm - pl + (r (d + 1) - cut)) + ec ≤ nR) (hq : r nD + (pl + cut - sm + ec) - r (d + 1) ≤ cap) : Met l yX0_assign wsX0_assign ({ frames := 3, cells := 0, slots := 0, locals := 109 }) (va_Pc [.ref x, .int (nI d), .int mo, .long t] (fun U => U.heap.size = sz ∧ va_P (dC, dI) vwCl (wr x a1 a2 a3 a4 a5 a6 a7 cI cJ nD nR dv r cap ti va ev ed ec ad ac now) U.heap ∧ va_K (dC, dI) vwCl [(cI, .int), (cJ, .long)] U ∧ va_D (fun _ => True) (wr x a1 a2 a3 a4 a5 a6 a7 cI cJ nD nR dv r cap ti va ev ed ec ad ac now))) (va_Qi (fun (v : Int32) (_ : Unit) => v = nI (sm - pl + (r (d + 1) - cut))) (fun _ t9 => va_P (dC, dI) vwCl (wr x a1 a2 a3 a4 a5 a6 a7 cI cJ nD nR dv (wf_sh r d (pl + cut - sm + ec) (r (d + 1)) (nD + 1)) cap (wf_pt (va_cpy (va_cpy ti ti sm pl (cut - sm)) (va_cpy ti ti sm pl (cut - sm)) (r (d + 1)) (pl + cut - sm + ec) (r nD - r (d + 1))) (pl + cut - sm) (fun i => now + ed i) ec) (wf_pt (va_cpy (va_cpy va va sm pl (cut - sm)) (va_cpy va va sm pl (cut - sm)) (r (d + 1)) (pl + cut - sm + ec) (r nD - r (d + 1))) (pl + cut - sm) ev ec) ev ed 0 ad ac now) t9.heap ∧ va_K (dC, dI) vwCl [(cI, .int), (cJ, .long)] t9 ∧ va_D (va_A (wr x a1 a2 a3 a4 a5 a6 a7 cI cJ nD nR dv r cap ti va ev ed ec ad ac now) sz) (wr x a1 a2 a3 a4 a5 a6 a7 cI cJ nD nR dv (wf_sh r d (pl + cut - sm + ec) (r (d + 1)) (nD + 1)) cap (wf_pt (va_cpy (va_cpy ti ti sm pl (cut - sm)) (va_cpy ti ti sm pl (cut - sm)) (r (d + 1)) (pl + cut - sm + ec) (r nD - r (d + 1))) (pl + cut - sm) (fun i => now + ed i) ec) (wf_pt (va_cpy (va_cpy va va sm pl (cut - sm)) (va_cpy va va sm pl (cut - sm)) (r (d + 1)) (pl + cut - sm + ec) (r nD - r (d + 1))) (pl + cut - sm) ev ec) ev ed 0 ad ac now)) (va_A (wr x a1 a2 a3 a4 a5 a6 a7 cI cJ nD nR dv r cap ti va ev ed ec ad ac now) sz)) 0 0 (va_A (wr x a1 a2 a3 a4 a5 a6 a7 cI cJ nD nR dv r cap ti va ev ed ec ad ac now) sz) := by
  refine Met.ofW (cc := cX0_assign) (maxL := 14) (ret := (some .int)) (by decide) rfl ?_
  intro p e s m args below meth c s₁ B hml hv
  obtain ⟨rfl, hsz, hP, hK, hD0⟩ := hv
  subst hsz
  have hD := hD0.self (sz := s.heap.size)
  generalize hAe : va_A (wr x a1 a2 a3 a4 a5 a6 a7 cI cJ nD nR dv r cap ti va ev ed ec ad ac now) s.heap.size = A at hD ⊢
  have hA : ∀ q : Nat, s.heap.size ≤ q → A q := fun q h => by rw [← hAe]; exact Or.inr h
  have hS : va_S A s.heap s.heap [] := va_S.rf
  have hx := B.exec
  have hb := B.bytes
  have hr := B.returns
  have hts := atoms_spec (ws := wsX0_assign) B.pre
  have hown : s.vm.findClass RX0 = some m.cls := findClass_of_methodNamed B.named
  have hlocks := B.notSynchronized
  have hall := fun (w : Cond) (h : w ∈ allw) => hts w (List.mem_cons_of_mem _ h)
  have hl := lv_entry ([.ref x, .int (nI d), .int mo, .long t]) (n := 14) (Nat.le_of_ble_eq_true rfl)
  rw [lg_entry_eq]
  generalize (lg_sl ([.ref x, .int (nI d), .int mo, .long t]) ++ List.replicate (14 - (lg_sl ([.ref x, .int (nI d), .int mo, .long t])).length) Slot.unset).toArray = ls at hl ⊢
  have hl : lv_has ls 14 [(0, .ref x), (1, .int (nI d)), (2, .int mo), (3, .long t)] := hl
  have hI0 := hI
  obtain ⟨hnD1, hnD, hnR1, hnR, hcap, hrc, hrR, hr0, hmo, hec, hac⟩ := hI
  have hle := wf_le hmo (show d + 1 ≤ nD by omega) (Nat.le_refl nD)
  have hmd := hmo d hd
  have hc := wf_fb_le ti (now + ed 0 - 1) (r (d + 1) - r d) (r d)
  rw [← hcut] at hc
  have hp := wf_fb_le ti (now + ed 0 - wf_lim mo (ed 0) t - 1) (cut - r d) (r d)
  rw [← hpl] at hp
  have hs := wf_ss_le va (ev 0) pl (cut - pl)
  rw [← hsm] at hs
  have hm3 : mo = 0 ∨ mo = 1 ∨ mo = 2 := hg.1.elim (fun q => Or.inr (Or.inr q.1)) (fun q => q.elim Or.inl (fun q => Or.inr (Or.inl q)))
  refine lv_aload_n hx hb dX0_assign_0 rfl (lv_at hl 0 rfl) ?_
  refine lv_iload_n hx hb dX0_assign_1 rfl (lv_at hl 1 rfl) ?_
  refine xv_call (W.runV (As := [.int (nI d)]) (rest := []) ⟨hx, hb, hml, hown, hall⟩ (c_requireDriver l dC dI x a1 a2 a3 a4 a5 a6 a7 cI cJ nD nR dv r cap ti va ev ed ec ad ac now hI0 d hd) (cwV 1 hall gX0_62 rfl rfl rfl (by decide +kernel) ⟨Nat.le_of_ble_eq_true rfl, Nat.le_of_ble_eq_true rfl⟩) ⟨xr_blind, va_recv hK hP (ci := 0) (q0 := 0) rfl rfl, fun U hU hW => ⟨rfl, by rw [hU]; exact hP, va_K.moved hW.alike hK⟩⟩ rfl rfl hl.1 rfl (lv_room (Nat.le_of_ble_eq_true rfl)) dX0_assign_2 ⟨by first | exact Nat.zero_le _ | omega, by first | exact Nat.zero_le _ | omega⟩) (fun hv_2 => ?_)
  refine lv_aload_n hx hb dX0_assign_5 rfl (lv_at hl 0 rfl) ?_
  refine va_get (D := (dC, dI)) (ci := 0) (v := .int (nI ec)) (C := RX0) (T := TX0) (N := 12) hx hb hall inX0 hown hK hP 0 rfl rfl 8 (by decide) (hall _ kw_31) (fun _ h9 => h9) rfl dX0_assign_6 ?_
  refine xz_ne (tgt := 22) hx hb (by omega) dX0_assign_9 (by decide) (fun c_3 => ?_) (fun c_3 => ?_)
  · refine lv_aload_n hx hb dX0_assign_22 rfl (lv_at hl 0 rfl) ?_
    refine lv_iload_n hx hb dX0_assign_23 rfl (lv_at hl 2 rfl) ?_
    refine lv_lload_n hx hb dX0_assign_24 rfl (lv_at hl 3 rfl) ?_
    refine vp_callSi (W.runV (As := [.int mo, .long t]) (rest := []) ⟨hx, hb, hml, hown, hall⟩ (c_isLimitGood l dC dI x a1 a2 a3 a4 a5 a6 a7 cI cJ nD nR dv r cap ti va ev ed ec ad ac now mo t) (cwV 2 hall gX0_68 rfl rfl rfl (by decide +kernel) ⟨Nat.le_of_ble_eq_true rfl, Nat.le_of_ble_eq_true rfl⟩) ⟨xr_blind, va_recv hK hP (ci := 0) (q0 := 0) rfl rfl, fun U hU hW => ⟨rfl, by rw [hU]; exact hP, va_K.moved hW.alike hK⟩⟩ rfl rfl hl.1 rfl (lv_room (Nat.le_of_ble_eq_true rfl)) dX0_assign_25 ⟨by first | exact Nat.zero_le _ | omega, by first | exact Nat.zero_le _ | omega⟩) (fun v_4 hv_5 => ?_)
    obtain rfl : v_4 = 1 := hv_5.elim (fun q => q.1) (fun q => absurd hg.1 q.2)
    refine lv_if_eq (tgt := 38) hx hb dX0_assign_28 (by decide) (fun c_6 => ?_) (fun c_6 => ?_)
    · exact absurd c_6 (by decide)
    · refine lv_aload_n hx hb dX0_assign_31 rfl (lv_at hl 0 rfl) ?_
      refine vp_callSi (W.runV (As := []) (rest := []) ⟨hx, hb, hml, hown, hall⟩ (c_areDelaysGood l dC dI x a1 a2 a3 a4 a5 a6 a7 cI cJ nD nR dv r cap ti va ev ed ec ad ac now hI0) (cwV 0 hall gX0_72 rfl rfl rfl (by decide +kernel) ⟨Nat.le_of_ble_eq_true rfl, Nat.le_of_ble_eq_true rfl⟩) ⟨xr_blind, va_recv hK hP (ci := 0) (q0 := 0) rfl rfl, fun U hU hW => ⟨rfl, by rw [hU]; exact hP, va_K.moved hW.alike hK⟩⟩ rfl rfl hl.1 rfl (lv_room (Nat.le_of_ble_eq_true rfl)) dX0_assign_32 ⟨by first | exact Nat.zero_le _ | omega, by first | exact Nat.zero_le _ | omega⟩) (fun v_7 hv_8 => ?_)
      obtain rfl : v_7 = 1 := hv_8.elim (fun q => q.1) (fun q => absurd hg.2 q.2)
      refine lv_if_ne (tgt := 48) hx hb dX0_assign_35 (by decide) (fun c_9 => ?_) (fun c_9 => ?_)
      · refine lv_aload_n hx hb dX0_assign_48 rfl (lv_at hl 0 rfl) ?_
        refine va_get (D := (dC, dI)) (ci := 0) (v := .long now) (C := RX0) (T := TX0) (N := 12) hx hb hall inX0 hown hK hP 0 rfl rfl 11 (by decide) (hall _ kw_34) (fun _ h9 => h9) rfl dX0_assign_49 ?_
        refine lv_aload_n hx hb dX0_assign_52 rfl (lv_at hl 0 rfl) ?_
        refine va_get (D := (dC, dI)) (ci := 0) (v := .ref a6) (C := RX0) (T := TX0) (N := 12) hx hb hall inX0 hown hK hP 0 rfl rfl 7 (by decide) (hall _ kw_30) (fun _ h9 => h9) rfl dX0_assign_53 ?_
        refine lv_iconst (v := 0) hx hb dX0_assign_56 (by decide) ?_
        refine tp_i (y := nI 0) nI_0.symm ?_
        refine xa_lald hx hb hK hP 6 1 rfl rfl (by omega) (by omega) dX0_assign_57 ?_
        refine lv_ladd hx hb dX0_assign_58 ?_
        refine lv_lstore (lv' := [(5, .long (now + (ed 0))), (0, .ref x), (1, .int (nI d)), (2, .int mo), (3, .long t)]) hx hb dX0_assign_59 hl (by decide) rfl (fun ls hl => ?_)
        refine lv_aload_n hx hb dX0_assign_61 rfl (lv_at hl 1 rfl) ?_
        refine va_get (D := (dC, dI)) (ci := 0) (v := .ref a2) (C := RX0) (T := TX0) (N := 12) hx hb hall inX0 hown hK hP 0 rfl rfl 3 (by decide) (hall _ kw_26) (fun _ h9 => h9) rfl dX0_assign_62 ?_
        refine lv_iload_n hx hb dX0_assign_65 rfl (lv_at hl 2 rfl) ?_
        refine xa_iald hx hb hK hP 2 0 rfl rfl (by omega) (by omega) dX0_assign_66 ?_
        refine lv_istore (lv' := [(7, .int (nI (r d))), (5, .long (now + (ed 0))), (0, .ref x), (1, .int (nI d)), (2, .int mo), (3, .long t)]) hx hb dX0_assign_67 hl (by decide) rfl (fun ls hl => ?_)
        refine lv_aload_n hx hb dX0_assign_69 rfl (lv_at hl 2 rfl) ?_
        refine va_get (D := (dC, dI)) (ci := 0) (v := .ref a2) (C := RX0) (T := TX0) (N := 12) hx hb hall inX0 hown hK hP 0 rfl rfl 3 (by decide) (hall _ kw_26) (fun _ h9 => h9) rfl dX0_assign_70 ?_
        refine lv_iload_n hx hb dX0_assign_73 rfl (lv_at hl 3 rfl) ?_
        refine lv_iconst (v := 1) hx hb dX0_assign_74 (by decide) ?_
        refine lv_iadd hx hb dX0_assign_75 ?_
        refine tp_i (y := nI (d + 1)) (nI_1 d) ?_
        refine xa_iald hx hb hK hP 2 0 rfl rfl (by omega) (by omega) dX0_assign_76 ?_
        refine lv_istore (lv' := [(8, .int (nI (r (d + 1)))), (7, .int (nI (r d))), (5, .long (now + (ed 0))), (0, .ref x), (1, .int (nI d)), (2, .int mo), (3, .long t)]) hx hb dX0_assign_77 hl (by decide) rfl (fun ls hl => ?_)
        refine lv_aload_n hx hb dX0_assign_79 rfl (lv_at hl 3 rfl) ?_
        refine lv_iload hx hb dX0_assign_80 (lv_at hl 1 rfl) ?_
        refine lv_iload hx hb dX0_assign_82 (lv_at hl 0 rfl) ?_
        refine lv_lload hx hb dX0_assign_84 (lv_at hl 2 rfl) ?_
        refine lv_lconst (v := 1) hx hb dX0_assign_86 (by decide) ?_
        refine lv_lsub hx hb dX0_assign_87 ?_
        refine vp_callSi (W.runV (As := [.int (nI (r d)), .int (nI (r (d + 1))), .long ((now + (ed 0)) - 1)]) (rest := []) ⟨hx, hb, hml, hown, hall⟩ (c_firstBehind l dC dI x a1 a2 a3 a4 a5 a6 a7 cI cJ nD nR dv r cap ti va ev ed ec ad ac now (r d) (r (d + 1)) (now + ed 0 - 1) hmd (by omega) hcap) (cwV 3 hall gX0_82 rfl rfl rfl (by decide +kernel) ⟨Nat.le_of_ble_eq_true rfl, Nat.le_of_ble_eq_true rfl⟩) ⟨xr_blind, va_recv hK hP (ci := 0) (q0 := 0) rfl rfl, fun U hU hW => ⟨rfl, by rw [hU]; exact hP, va_K.moved hW.alike hK⟩⟩ rfl rfl hl.1 rfl (lv_room (Nat.le_of_ble_eq_true rfl)) dX0_assign_88 ⟨by first | exact Nat.zero_le _ | omega, by first | exact Nat.zero_le _ | omega⟩) (fun v_10 hv_11 => ?_)
        obtain rfl : v_10 = nI cut := hv_11.trans (by rw [← hcut])
        refine lv_istore (lv' := [(9, .int (nI cut)), (8, .int (nI (r (d + 1)))), (7, .int (nI (r d))), (5, .long (now + (ed 0))), (0, .ref x), (1, .int (nI d)), (2, .int mo), (3, .long t)]) hx hb dX0_assign_91 hl (by decide) rfl (fun ls hl => ?_)
        refine lv_aload_n hx hb dX0_assign_93 rfl (lv_at hl 4 rfl) ?_
        refine lv_iload hx hb dX0_assign_94 (lv_at hl 2 rfl) ?_
        refine lv_iload hx hb dX0_assign_96 (lv_at hl 0 rfl) ?_
        refine lv_lload hx hb dX0_assign_98 (lv_at hl 3 rfl) ?_
        refine lv_aload_n hx hb dX0_assign_100 rfl (lv_at hl 4 rfl) ?_
        refine lv_iload_n hx hb dX0_assign_101 rfl (lv_at hl 6 rfl) ?_
        refine lv_lload_n hx hb dX0_assign_102 rfl (lv_at hl 7 rfl) ?_
        refine vp_callSl (W.runV (As := [.int mo, .long t]) (rest := [.long (now + (ed 0)), .int (nI cut), .int (nI (r d)), .ref x]) ⟨hx, hb, hml, hown, hall⟩ (c_limitOf l dC dI x a1 a2 a3 a4 a5 a6 a7 cI cJ nD nR dv r cap ti va ev ed ec ad ac now mo t hm3) (cwV 2 hall gX0_86 rfl rfl rfl (by decide +kernel) ⟨Nat.le_of_ble_eq_true rfl, Nat.le_of_ble_eq_true rfl⟩) ⟨xr_blind, va_recv hK hP (ci := 0) (q0 := 0) rfl rfl, fun U hU hW => ⟨rfl, by rw [hU]; exact hP, va_K.moved hW.alike hK⟩⟩ rfl rfl hl.1 rfl (lv_room (Nat.le_of_ble_eq_true rfl)) dX0_assign_103 ⟨by first | exact Nat.zero_le _ | omega, by first | exact Nat.zero_le _ | omega⟩) (fun v_12 hv_13 => ?_)
        subst hv_13
        refine lv_lsub hx hb dX0_assign_106 ?_
        refine lv_lconst (v := 1) hx hb dX0_assign_107 (by decide) ?_
        refine lv_lsub hx hb dX0_assign_108 ?_
        refine vp_callSi (W.runV (As := [.int (nI (r d)), .int (nI cut), .long (((now + (ed 0)) - (wf_lim mo (ed 0) t)) - 1)]) (rest := []) ⟨hx, hb, hml, hown, hall⟩ (c_firstBehind l dC dI x a1 a2 a3 a4 a5 a6 a7 cI cJ nD nR dv r cap ti va ev ed ec ad ac now (r d) cut (now + ed 0 - wf_lim mo (ed 0) t - 1) hc.1 (by omega) hcap) (cwV 3 hall gX0_82 rfl rfl rfl (by decide +kernel) ⟨Nat.le_of_ble_eq_true rfl, Nat.le_of_ble_eq_true rfl⟩) ⟨xr_blind, va_recv hK hP (ci := 0) (q0 := 0) rfl rfl, fun U hU hW => ⟨rfl, by rw [hU]; exact hP, va_K.moved hW.alike hK⟩⟩ rfl rfl hl.1 rfl (lv_room (Nat.le_of_ble_eq_true rfl)) dX0_assign_109 ⟨by first | exact Nat.zero_le _ | omega, by first | exact Nat.zero_le _ | omega⟩) (fun v_14 hv_15 => ?_)
        obtain rfl : v_14 = nI pl := hv_15.trans (by rw [← hpl])
        refine lv_istore (lv' := [(10, .int (nI pl)), (9, .int (nI cut)), (8, .int (nI (r (d + 1)))), (7, .int (nI (r d))), (5, .long (now + (ed 0))), (0, .ref x), (1, .int (nI d)), (2, .int mo), (3, .long t)]) hx hb dX0_assign_112 hl (by decide) rfl (fun ls hl => ?_)
        refine lv_aload_n hx hb dX0_assign_114 rfl (lv_at hl 5 rfl) ?_
        refine lv_iload hx hb dX0_assign_115 (lv_at hl 0 rfl) ?_
        refine lv_iload hx hb dX0_assign_117 (lv_at hl 1 rfl) ?_
        refine lv_aload_n hx hb dX0_assign_119 rfl (lv_at hl 5 rfl) ?_
        refine va_get (D := (dC, dI)) (ci := 0) (v := .ref a5) (C := RX0) (T := TX0) (N := 12) hx hb hall inX0 hown hK hP 0 rfl rfl 6 (by decide) (hall _ kw_29) (fun _ h9 => h9) rfl dX0_assign_120 ?_
        refine lv_iconst (v := 0) hx hb dX0_assign_123 (by decide) ?_
        refine tp_i (y := nI 0) nI_0.symm ?_
        refine xa_lald hx hb hK hP 5 1 rfl rfl (by omega) (by omega) dX0_assign_124 ?_
        refine vp_callSi (W.runV (As := [.int (nI pl), .int (nI cut), .long (ev 0)]) (rest := []) ⟨hx, hb, hml, hown, hall⟩ (c_startOfSameValues l dC dI x a1 a2 a3 a4 a5 a6 a7 cI cJ nD nR dv r cap ti va ev ed ec ad ac now pl cut (ev 0) (by omega) (by omega) hcap) (cwV 3 hall gX0_90 rfl rfl rfl (by decide +kernel) ⟨Nat.le_of_ble_eq_true rfl, Nat.le_of_ble_eq_true rfl⟩) ⟨xr_blind, va_recv hK hP (ci := 0) (q0 := 0) rfl rfl, fun U hU hW => ⟨rfl, by rw [hU]; exact hP, va_K.moved hW.alike hK⟩⟩ rfl rfl hl.1 rfl (lv_room (Nat.le_of_ble_eq_true rfl)) dX0_assign_125 ⟨by first | exact Nat.zero_le _ | omega, by first | exact Nat.zero_le _ | omega⟩) (fun v_16 hv_17 => ?_)
        obtain rfl : v_16 = nI sm := hv_17.trans (by rw [← hsm])
        refine lv_istore (lv' := [(11, .int (nI sm)), (10, .int (nI pl)), (9, .int (nI cut)), (8, .int (nI (r (d + 1)))), (7, .int (nI (r d))), (5, .long (now + (ed 0))), (0, .ref x), (1, .int (nI d)), (2, .int mo), (3, .long t)]) hx hb dX0_assign_128 hl (by decide) rfl (fun ls hl => ?_)
        refine lv_iload hx hb dX0_assign_130 (lv_at hl 0 rfl) ?_
        refine lv_iload hx hb dX0_assign_132 (lv_at hl 1 rfl) ?_
        refine lv_isub hx hb dX0_assign_134 ?_
        refine tp_i (y := nI (sm - pl)) (pk_sub (by omega)) ?_
        refine lv_iload hx hb dX0_assign_135 (lv_at hl 3 rfl) ?_
        refine lv_iload hx hb dX0_assign_137 (lv_at hl 2 rfl) ?_
        refine lv_isub hx hb dX0_assign_139 ?_
        refine tp_i (y := nI (r (d + 1) - cut)) (pk_sub (by omega)) ?_
        refine lv_iadd hx hb dX0_assign_140 ?_
        refine tp_i (y := nI (sm - pl + (r (d + 1) - cut))) (nI_add _ _) ?_
        refine lv_istore (lv' := [(12, .int (nI (sm - pl + (r (d + 1) - cut)))), (11, .int (nI sm)), (10, .int (nI pl)), (9, .int (nI cut)), (8, .int (nI (r (d + 1)))), (7, .int (nI (r d))), (5, .long (now + (ed 0))), (0, .ref x), (1, .int (nI d)), (2, .int mo), (3, .long t)]) hx hb dX0_assign_141 hl (by decide) rfl (fun ls hl => ?_)
        refine lv_aload_n hx hb dX0_assign_143 rfl (lv_at hl 7 rfl) ?_
        refine va_get (D := (dC, dI)) (ci := 0) (v := .ref a2) (C := RX0) (T := TX0) (N := 12) hx hb hall inX0 hown hK hP 0 rfl rfl 3 (by decide) (hall _ kw_26) (fun _ h9 => h9) rfl dX0_assign_144 ?_
        refine lv_aload_n hx hb dX0_assign_147 rfl (lv_at hl 7 rfl) ?_
        refine va_get (D := (dC, dI)) (ci := 0) (v := .int (nI nD)) (C := RX0) (T := TX0) (N := 12) hx hb hall inX0 hown hK hP 0 rfl rfl 0 (by decide) (hall _ kw_23) (fun _ h9 => h9) rfl dX0_assign_148 ?_
        refine xa_iald hx hb hK hP 2 0 rfl rfl (by omega) (by omega) dX0_assign_151 ?_
        refine lv_iload hx hb dX0_assign_152 (lv_at hl 0 rfl) ?_
        refine lv_isub hx hb dX0_assign_154 ?_
        refine tp_i (y := nI (r nD - (sm - pl + (r (d + 1) - cut)))) (pk_sub (by omega)) ?_
        refine lv_aload_n hx hb dX0_assign_155 rfl (lv_at hl 7 rfl) ?_
        refine va_get (D := (dC, dI)) (ci := 0) (v := .int (nI ec)) (C := RX0) (T := TX0) (N := 12) hx hb hall inX0 hown hK hP 0 rfl rfl 8 (by decide) (hall _ kw_31) (fun _ h9 => h9) rfl dX0_assign_156 ?_
        refine lv_iadd hx hb dX0_assign_159 ?_
        refine tp_i (y := nI (r nD - (sm - pl + (r (d + 1) - cut)) + ec)) (nI_add _ _) ?_
        refine lv_aload_n hx hb dX0_assign_160 rfl (lv_at hl 7 rfl) ?_
        refine va_get (D := (dC, dI)) (ci := 0) (v := .int (nI nR)) (C := RX0) (T := TX0) (N := 12) hx hb hall inX0 hown hK hP 0 rfl rfl 1 (by decide) (hall _ kw_24) (fun _ h9 => h9) rfl dX0_assign_161 ?_
        refine xc_le (tgt := 177) hx hb (by omega) (by omega) dX0_assign_164 (by decide) (fun c_18 => ?_) (fun c_18 => ?_)
        · refine lv_iload hx hb dX0_assign_177 (lv_at hl 2 rfl) ?_
          refine lv_iload hx hb dX0_assign_179 (lv_at hl 3 rfl) ?_
          refine lv_iadd hx hb dX0_assign_181 ?_
          refine tp_i (y := nI (pl + cut)) (nI_add _ _) ?_
          refine lv_iload hx hb dX0_assign_182 (lv_at hl 1 rfl) ?_
          refine lv_isub hx hb dX0_assign_184 ?_
          refine tp_i (y := nI (pl + cut - sm)) (pk_sub (by omega)) ?_
          refine lv_istore (lv' := [(13, .int (nI (pl + cut - sm))), (12, .int (nI (sm - pl + (r (d + 1) - cut)))), (11, .int (nI sm)), (10, .int (nI pl)), (9, .int (nI cut)), (8, .int (nI (r (d + 1)))), (7, .int (nI (r d))), (5, .long (now + (ed 0))), (0, .ref x), (1, .int (nI d)), (2, .int mo), (3, .long t)]) hx hb dX0_assign_185 hl (by decide) rfl (fun ls hl => ?_)
          refine lv_aload_n hx hb dX0_assign_187 rfl (lv_at hl 8 rfl) ?_
          refine lv_iload hx hb dX0_assign_188 (lv_at hl 2 rfl) ?_
          refine lv_iload hx hb dX0_assign_190 (lv_at hl 3 rfl) ?_
          refine lv_iload hx hb dX0_assign_192 (lv_at hl 4 rfl) ?_
          refine lv_iload hx hb dX0_assign_194 (lv_at hl 2 rfl) ?_
          refine lv_isub hx hb dX0_assign_196 ?_
          refine tp_i (y := nI (cut - sm)) (pk_sub (by omega)) ?_
          have hFc := va_free (wc := [(x, .inr (0, [.int (nI nD), .int (nI nR), .ref a1, .ref a2, .ref a3, .ref a4, .ref a5, .ref a6, .int (nI ec), .ref a7, .int (nI ac), .long now])), (a1, .inl (cJ, nD, .inr (.inl dv))), (a2, .inl (cI, nD + 1, .inl (fun j => nI (r j)))), (a3, .inl (cJ, cap, .inr (.inl ti))), (a4, .inl (cJ, cap, .inr (.inl va))), (a5, .inl (cJ, 16, .inr (.inl ev))), (a6, .inl (cJ, 16, .inr (.inl ed))), (a7, .inl (cI, nD, .inl ad))]) hD hS hA [0, 1, 2, 3, 4, 5, 6, 7] rfl
          refine va_callv (va_runV (As := [.int (nI sm), .int (nI pl), .int (nI (cut - sm))]) (rest := []) ⟨hx, hb, hml, hown, hall⟩ (c_moveTransactions l dC dI x a1 a2 a3 a4 a5 a6 a7 cI cJ nD nR dv r cap ti va ev ed ec ad ac now s.heap.size sm pl (cut - sm) (by omega) (by omega) hcap) (cwV 3 hall gX0_95 rfl rfl rfl (by decide +kernel) ⟨Nat.le_of_ble_eq_true rfl, Nat.le_of_ble_eq_true rfl⟩) ⟨xu_blind, va_recv hK hP (ci := 0) (q0 := 0) rfl rfl, fun U hU hW => ⟨rfl, by rw [hU], by rw [hU]; exact hP, va_K.moved hW.alike hK, hD.weaken (fun _ _ _ _ => trivial)⟩⟩ rfl rfl hl.1 rfl (lv_room (Nat.le_of_ble_eq_true rfl)) dX0_assign_197 ⟨Nat.le_of_ble_eq_true rfl, Nat.le_of_ble_eq_true rfl⟩) hS (fun q _ h => hFc q h) hFc (fun u9 t9 H1 locs ht hvm hw hB hz1 hk1 hS => ?_)
          obtain ⟨hP1, hK1, hD1⟩ := hB
          rw [ht] at hP1
          obtain ⟨hP, hD⟩ := va_join (wr := []) (w1 := [(x, .inr (0, [.int (nI nD), .int (nI nR), .ref a1, .ref a2, .ref a3, .ref a4, .ref a5, .ref a6, .int (nI ec), .ref a7, .int (nI ac), .long now])), (a1, .inl (cJ, nD, .inr (.inl dv))), (a2, .inl (cI, nD + 1, .inl (fun j => nI (r j)))), (a3, .inl (cJ, cap, .inr (.inl (va_cpy ti ti sm pl (cut - sm))))), (a4, .inl (cJ, cap, .inr (.inl (va_cpy va va sm pl (cut - sm))))), (a5, .inl (cJ, 16, .inr (.inl ev))), (a6, .inl (cJ, 16, .inr (.inl ed))), (a7, .inl (cI, nD, .inl ad))]) hP hD [0, 1, 2, 3, 4, 5, 6, 7] [] rfl rfl (by decide) (by decide) hk1 hFc hP1 hD1
          generalize H1 = H at hP hS ⊢
          have hP : va_P (dC, dI) vwCl [(x, .inr (0, [.int (nI nD), .int (nI nR), .ref a1, .ref a2, .ref a3, .ref a4, .ref a5, .ref a6, .int (nI ec), .ref a7, .int (nI ac), .long now])), (a1, .inl (cJ, nD, .inr (.inl dv))), (a2, .inl (cI, nD + 1, .inl (fun j => nI (r j)))), (a3, .inl (cJ, cap, .inr (.inl (va_cpy ti ti sm pl (cut - sm))))), (a4, .inl (cJ, cap, .inr (.inl (va_cpy va va sm pl (cut - sm))))), (a5, .inl (cJ, 16, .inr (.inl ev))), (a6, .inl (cJ, 16, .inr (.inl ed))), (a7, .inl (cI, nD, .inl ad))] H := hP
          have hD : va_D A [(x, .inr (0, [.int (nI nD), .int (nI nR), .ref a1, .ref a2, .ref a3, .ref a4, .ref a5, .ref a6, .int (nI ec), .ref a7, .int (nI ac), .long now])), (a1, .inl (cJ, nD, .inr (.inl dv))), (a2, .inl (cI, nD + 1, .inl (fun j => nI (r j)))), (a3, .inl (cJ, cap, .inr (.inl (va_cpy ti ti sm pl (cut - sm))))), (a4, .inl (cJ, cap, .inr (.inl (va_cpy va va sm pl (cut - sm))))), (a5, .inl (cJ, 16, .inr (.inl ev))), (a6, .inl (cJ, 16, .inr (.inl ed))), (a7, .inl (cI, nD, .inl ad))] := hD
          refine lv_aload_n hx hb dX0_assign_200 rfl (lv_at hl 8 rfl) ?_
          refine lv_iload_n hx hb dX0_assign_201 rfl (lv_at hl 9 rfl) ?_
          refine lv_iload hx hb dX0_assign_202 (lv_at hl 0 rfl) ?_
          refine lv_aload_n hx hb dX0_assign_204 rfl (lv_at hl 8 rfl) ?_
          refine va_get (D := (dC, dI)) (ci := 0) (v := .int (nI ec)) (C := RX0) (T := TX0) (N := 12) hx hb hall inX0 hown hK hP 0 rfl rfl 8 (by decide) (hall _ kw_31) (fun _ h9 => h9) rfl dX0_assign_205 ?_
          refine lv_iadd hx hb dX0_assign_208 ?_
          refine tp_i (y := nI (pl + cut - sm + ec)) (nI_add _ _) ?_
          have hFc := va_free (wc := [(x, .inr (0, [.int (nI nD), .int (nI nR), .ref a1, .ref a2, .ref a3, .ref a4, .ref a5, .ref a6, .int (nI ec), .ref a7, .int (nI ac), .long now])), (a1, .inl (cJ, nD, .inr (.inl dv))), (a2, .inl (cI, nD + 1, .inl (fun j => nI (r j)))), (a3, .inl (cJ, cap, .inr (.inl (va_cpy ti ti sm pl (cut - sm))))), (a4, .inl (cJ, cap, .inr (.inl (va_cpy va va sm pl (cut - sm))))), (a5, .inl (cJ, 16, .inr (.inl ev))), (a6, .inl (cJ, 16, .inr (.inl ed))), (a7, .inl (cI, nD, .inl ad))]) hD hS hA [0, 1, 2, 3, 4, 5, 6, 7] rfl
          refine va_callv (va_runV (As := [.int (nI d), .int (nI (pl + cut - sm + ec))]) (rest := []) ⟨hx, hb, hml, hown, hall⟩ (c_endRowAt l dC dI x a1 a2 a3 a4 a5 a6 a7 cI cJ nD nR dv r cap (va_cpy ti ti sm pl (cut - sm)) (va_cpy va va sm pl (cut - sm)) ev ed ec ad ac now H.size hI0 d (pl + cut - sm + ec) hd hq) (cwV 2 hall gX0_99 rfl rfl rfl (by decide +kernel) ⟨Nat.le_of_ble_eq_true rfl, Nat.le_of_ble_eq_true rfl⟩) ⟨xu_blind, va_recv hK hP (ci := 0) (q0 := 0) rfl rfl, fun U hU hW => ⟨rfl, by rw [hU], by rw [hU]; exact hP, va_K.moved hW.alike hK, hD.weaken (fun _ _ _ _ => trivial)⟩⟩ rfl rfl hl.1 rfl (lv_room (Nat.le_of_ble_eq_true rfl)) dX0_assign_209 ⟨Nat.le_of_ble_eq_true rfl, Nat.le_of_ble_eq_true rfl⟩) hS (fun q _ h => hFc q h) hFc (fun u9 t9 H1 locs ht hvm hw hB hz1 hk1 hS => ?_)
          obtain ⟨hP1, hK1, hD1⟩ := hB
          rw [ht] at hP1
          obtain ⟨hP, hD⟩ := va_join (wr := []) (w1 := [(x, .inr (0, [.int (nI nD), .int (nI nR), .ref a1, .ref a2, .ref a3, .ref a4, .ref a5, .ref a6, .int (nI ec), .ref a7, .int (nI ac), .long now])), (a1, .inl (cJ, nD, .inr (.inl dv))), (a2, .inl (cI, nD + 1, .inl (fun j => nI ((wf_sh r d (pl + cut - sm + ec) (r (d + 1)) (nD + 1)) j)))), (a3, .inl (cJ, cap, .inr (.inl (va_cpy (va_cpy ti ti sm pl (cut - sm)) (va_cpy ti ti sm pl (cut - sm)) (r (d + 1)) (pl + cut - sm + ec) (r nD - r (d + 1)))))), (a4, .inl (cJ, cap, .inr (.inl (va_cpy (va_cpy va va sm pl (cut - sm)) (va_cpy va va sm pl (cut - sm)) (r (d + 1)) (pl + cut - sm + ec) (r nD - r (d + 1)))))), (a5, .inl (cJ, 16, .inr (.inl ev))), (a6, .inl (cJ, 16, .inr (.inl ed))), (a7, .inl (cI, nD, .inl ad))]) hP hD [0, 1, 2, 3, 4, 5, 6, 7] [] rfl rfl (by decide) (by decide) hk1 hFc hP1 hD1
          generalize H1 = H at hP hS ⊢
          have hP : va_P (dC, dI) vwCl [(x, .inr (0, [.int (nI nD), .int (nI nR), .ref a1, .ref a2, .ref a3, .ref a4, .ref a5, .ref a6, .int (nI ec), .ref a7, .int (nI ac), .long now])), (a1, .inl (cJ, nD, .inr (.inl dv))), (a2, .inl (cI, nD + 1, .inl (fun j => nI ((wf_sh r d (pl + cut - sm + ec) (r (d + 1)) (nD + 1)) j)))), (a3, .inl (cJ, cap, .inr (.inl (va_cpy (va_cpy ti ti sm pl (cut - sm)) (va_cpy ti ti sm pl (cut - sm)) (r (d + 1)) (pl + cut - sm + ec) (r nD - r (d + 1)))))), (a4, .inl (cJ, cap, .inr (.inl (va_cpy (va_cpy va va sm pl (cut - sm)) (va_cpy va va sm pl (cut - sm)) (r (d + 1)) (pl + cut - sm + ec) (r nD - r (d + 1)))))), (a5, .inl (cJ, 16, .inr (.inl ev))), (a6, .inl (cJ, 16, .inr (.inl ed))), (a7, .inl (cI, nD, .inl ad))] H := hP
          have hD : va_D A [(x, .inr (0, [.int (nI nD), .int (nI nR), .ref a1, .ref a2, .ref a3, .ref a4, .ref a5, .ref a6, .int (nI ec), .ref a7, .int (nI ac), .long now])), (a1, .inl (cJ, nD, .inr (.inl dv))), (a2, .inl (cI, nD + 1, .inl (fun j => nI ((wf_sh r d (pl + cut - sm + ec) (r (d + 1)) (nD + 1)) j)))), (a3, .inl (cJ, cap, .inr (.inl (va_cpy (va_cpy ti ti sm pl (cut - sm)) (va_cpy ti ti sm pl (cut - sm)) (r (d + 1)) (pl + cut - sm + ec) (r nD - r (d + 1)))))), (a4, .inl (cJ, cap, .inr (.inl (va_cpy (va_cpy va va sm pl (cut - sm)) (va_cpy va va sm pl (cut - sm)) (r (d + 1)) (pl + cut - sm + ec) (r nD - r (d + 1)))))), (a5, .inl (cJ, 16, .inr (.inl ev))), (a6, .inl (cJ, 16, .inr (.inl ed))), (a7, .inl (cI, nD, .inl ad))] := hD
          refine lv_aload_n hx hb dX0_assign_212 rfl (lv_at hl 8 rfl) ?_
          refine lv_iload hx hb dX0_assign_213 (lv_at hl 0 rfl) ?_
          have hFc := va_free (wc := [(x, .inr (0, [.int (nI nD), .int (nI nR), .ref a1, .ref a2, .ref a3, .ref a4, .ref a5, .ref a6, .int (nI ec), .ref a7, .int (nI ac), .long now])), (a1, .inl (cJ, nD, .inr (.inl dv))), (a2, .inl (cI, nD + 1, .inl (fun j => nI ((wf_sh r d (pl + cut - sm + ec) (r (d + 1)) (nD + 1)) j)))), (a3, .inl (cJ, cap, .inr (.inl (va_cpy (va_cpy ti ti sm pl (cut - sm)) (va_cpy ti ti sm pl (cut - sm)) (r (d + 1)) (pl + cut - sm + ec) (r nD - r (d + 1)))))), (a4, .inl (cJ, cap, .inr (.inl (va_cpy (va_cpy va va sm pl (cut - sm)) (va_cpy va va sm pl (cut - sm)) (r (d + 1)) (pl + cut - sm + ec) (r nD - r (d + 1)))))), (a5, .inl (cJ, 16, .inr (.inl ev))), (a6, .inl (cJ, 16, .inr (.inl ed))), (a7, .inl (cI, nD, .inl ad))]) hD hS hA [0, 1, 2, 3, 4, 5, 6, 7] rfl
          refine va_callv (va_runV (As := [.int (nI (pl + cut - sm))]) (rest := []) ⟨hx, hb, hml, hown, hall⟩ (c_writeElements l dC dI x a1 a2 a3 a4 a5 a6 a7 cI cJ nD nR dv (wf_sh r d (pl + cut - sm + ec) (r (d + 1)) (nD + 1)) cap (va_cpy (va_cpy ti ti sm pl (cut - sm)) (va_cpy ti ti sm pl (cut - sm)) (r (d + 1)) (pl + cut - sm + ec) (r nD - r (d + 1))) (va_cpy (va_cpy va va sm pl (cut - sm)) (va_cpy va va sm pl (cut - sm)) (r (d + 1)) (pl + cut - sm + ec) (r nD - r (d + 1))) ev ed ec ad ac now H.size (pl + cut - sm) (by omega) hcap hec) (cwV 1 hall gX0_103 rfl rfl rfl (by decide +kernel) ⟨Nat.le_of_ble_eq_true rfl, Nat.le_of_ble_eq_true rfl⟩) ⟨xu_blind, va_recv hK hP (ci := 0) (q0 := 0) rfl rfl, fun U hU hW => ⟨rfl, by rw [hU], by rw [hU]; exact hP, va_K.moved hW.alike hK, hD.weaken (fun _ _ _ _ => trivial)⟩⟩ rfl rfl hl.1 rfl (lv_room (Nat.le_of_ble_eq_true rfl)) dX0_assign_215 ⟨Nat.le_of_ble_eq_true rfl, Nat.le_of_ble_eq_true rfl⟩) hS (fun q _ h => hFc q h) hFc (fun u9 t9 H1 locs ht hvm hw hB hz1 hk1 hS => ?_)
          obtain ⟨hP1, hK1, hD1⟩ := hB
          rw [ht] at hP1
          obtain ⟨hP, hD⟩ := va_join (wr := []) (w1 := [(x, .inr (0, [.int (nI nD), .int (nI nR), .ref a1, .ref a2, .ref a3, .ref a4, .ref a5, .ref a6, .int (nI ec), .ref a7, .int (nI ac), .long now])), (a1, .inl (cJ, nD, .inr (.inl dv))), (a2, .inl (cI, nD + 1, .inl (fun j => nI ((wf_sh r d (pl + cut - sm + ec) (r (d + 1)) (nD + 1)) j)))), (a3, .inl (cJ, cap, .inr (.inl (wf_pt (va_cpy (va_cpy ti ti sm pl (cut - sm)) (va_cpy ti ti sm pl (cut - sm)) (r (d + 1)) (pl + cut - sm + ec) (r nD - r (d + 1))) (pl + cut - sm) (fun i => now + ed i) ec)))), (a4, .inl (cJ, cap, .inr (.inl (wf_pt (va_cpy (va_cpy va va sm pl (cut - sm)) (va_cpy va va sm pl (cut - sm)) (r (d + 1)) (pl + cut - sm + ec) (r nD - r (d + 1))) (pl + cut - sm) ev ec)))), (a5, .inl (cJ, 16, .inr (.inl ev))), (a6, .inl (cJ, 16, .inr (.inl ed))), (a7, .inl (cI, nD, .inl ad))]) hP hD [0, 1, 2, 3, 4, 5, 6, 7] [] rfl rfl (by decide) (by decide) hk1 hFc hP1 hD1
          generalize H1 = H at hP hS ⊢
          have hP : va_P (dC, dI) vwCl [(x, .inr (0, [.int (nI nD), .int (nI nR), .ref a1, .ref a2, .ref a3, .ref a4, .ref a5, .ref a6, .int (nI ec), .ref a7, .int (nI ac), .long now])), (a1, .inl (cJ, nD, .inr (.inl dv))), (a2, .inl (cI, nD + 1, .inl (fun j => nI ((wf_sh r d (pl + cut - sm + ec) (r (d + 1)) (nD + 1)) j)))), (a3, .inl (cJ, cap, .inr (.inl (wf_pt (va_cpy (va_cpy ti ti sm pl (cut - sm)) (va_cpy ti ti sm pl (cut - sm)) (r (d + 1)) (pl + cut - sm + ec) (r nD - r (d + 1))) (pl + cut - sm) (fun i => now + ed i) ec)))), (a4, .inl (cJ, cap, .inr (.inl (wf_pt (va_cpy (va_cpy va va sm pl (cut - sm)) (va_cpy va va sm pl (cut - sm)) (r (d + 1)) (pl + cut - sm + ec) (r nD - r (d + 1))) (pl + cut - sm) ev ec)))), (a5, .inl (cJ, 16, .inr (.inl ev))), (a6, .inl (cJ, 16, .inr (.inl ed))), (a7, .inl (cI, nD, .inl ad))] H := hP
          have hD : va_D A [(x, .inr (0, [.int (nI nD), .int (nI nR), .ref a1, .ref a2, .ref a3, .ref a4, .ref a5, .ref a6, .int (nI ec), .ref a7, .int (nI ac), .long now])), (a1, .inl (cJ, nD, .inr (.inl dv))), (a2, .inl (cI, nD + 1, .inl (fun j => nI ((wf_sh r d (pl + cut - sm + ec) (r (d + 1)) (nD + 1)) j)))), (a3, .inl (cJ, cap, .inr (.inl (wf_pt (va_cpy (va_cpy ti ti sm pl (cut - sm)) (va_cpy ti ti sm pl (cut - sm)) (r (d + 1)) (pl + cut - sm + ec) (r nD - r (d + 1))) (pl + cut - sm) (fun i => now + ed i) ec)))), (a4, .inl (cJ, cap, .inr (.inl (wf_pt (va_cpy (va_cpy va va sm pl (cut - sm)) (va_cpy va va sm pl (cut - sm)) (r (d + 1)) (pl + cut - sm + ec) (r nD - r (d + 1))) (pl + cut - sm) ev ec)))), (a5, .inl (cJ, 16, .inr (.inl ev))), (a6, .inl (cJ, 16, .inr (.inl ed))), (a7, .inl (cI, nD, .inl ad))] := hD
          refine lv_aload_n hx hb dX0_assign_218 rfl (lv_at hl 8 rfl) ?_
          refine lv_iconst (v := 0) hx hb dX0_assign_219 (by decide) ?_
          refine tp_i (y := nI 0) nI_0.symm ?_
          refine va_put (D := (dC, dI)) (ci := 0) (v := .int (nI 0)) (ty := .int) (C := RX0) (T := TX0) (N := 12) hx hb hall inX0 tyX0 tyX0_ok nmX0 hown hK hP hD hS 0 rfl rfl 8 (by decide) (hall _ kw_31) (fun _ h9 => h9) rfl (by decide +kernel) rfl rfl (Nat.le_of_ble_eq_true rfl) dX0_assign_220 (fun H locs hP hD hS => ?_)
          have hP : va_P (dC, dI) vwCl [(x, .inr (0, [.int (nI nD), .int (nI nR), .ref a1, .ref a2, .ref a3, .ref a4, .ref a5, .ref a6, .int (nI 0), .ref a7, .int (nI ac), .long now])), (a1, .inl (cJ, nD, .inr (.inl dv))), (a2, .inl (cI, nD + 1, .inl (fun j => nI ((wf_sh r d (pl + cut - sm + ec) (r (d + 1)) (nD + 1)) j)))), (a3, .inl (cJ, cap, .inr (.inl (wf_pt (va_cpy (va_cpy ti ti sm pl (cut - sm)) (va_cpy ti ti sm pl (cut - sm)) (r (d + 1)) (pl + cut - sm + ec) (r nD - r (d + 1))) (pl + cut - sm) (fun i => now + ed i) ec)))), (a4, .inl (cJ, cap, .inr (.inl (wf_pt (va_cpy (va_cpy va va sm pl (cut - sm)) (va_cpy va va sm pl (cut - sm)) (r (d + 1)) (pl + cut - sm + ec) (r nD - r (d + 1))) (pl + cut - sm) ev ec)))), (a5, .inl (cJ, 16, .inr (.inl ev))), (a6, .inl (cJ, 16, .inr (.inl ed))), (a7, .inl (cI, nD, .inl ad))] H := hP
          have hD : va_D A [(x, .inr (0, [.int (nI nD), .int (nI nR), .ref a1, .ref a2, .ref a3, .ref a4, .ref a5, .ref a6, .int (nI 0), .ref a7, .int (nI ac), .long now])), (a1, .inl (cJ, nD, .inr (.inl dv))), (a2, .inl (cI, nD + 1, .inl (fun j => nI ((wf_sh r d (pl + cut - sm + ec) (r (d + 1)) (nD + 1)) j)))), (a3, .inl (cJ, cap, .inr (.inl (wf_pt (va_cpy (va_cpy ti ti sm pl (cut - sm)) (va_cpy ti ti sm pl (cut - sm)) (r (d + 1)) (pl + cut - sm + ec) (r nD - r (d + 1))) (pl + cut - sm) (fun i => now + ed i) ec)))), (a4, .inl (cJ, cap, .inr (.inl (wf_pt (va_cpy (va_cpy va va sm pl (cut - sm)) (va_cpy va va sm pl (cut - sm)) (r (d + 1)) (pl + cut - sm + ec) (r nD - r (d + 1))) (pl + cut - sm) ev ec)))), (a5, .inl (cJ, 16, .inr (.inl ev))), (a6, .inl (cJ, 16, .inr (.inl ed))), (a7, .inl (cI, nD, .inl ad))] := hD
          refine lv_iload hx hb dX0_assign_223 (lv_at hl 1 rfl) ?_
          exact W.iret (v := nI (sm - pl + (r (d + 1) - cut))) hx hb hr (fun t9 ht hW => ⟨⟨nI (sm - pl + (r (d + 1) - cut)), (), rfl, rfl, by rw [ht]; exact hP, va_K.moved hW.alike hK, hD⟩, hS.F ht⟩) hS.2.2 dX0_assign_225
        · exact absurd c_18 (by omega)
      · exact absurd c_9 (by decide)
  · exact absurd c_3 (by omega)
