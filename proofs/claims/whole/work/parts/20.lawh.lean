theorem gL_61 : GoodIn allw (va_wsS RL 61 yL_element wsL_element) := gSW kw_93 kw_94 kw_0 kw_95
theorem gL_73 : GoodIn allw (va_wsS RL 73 yL_assign wsL_assign) := gSW kw_187 kw_188 kw_0 kw_189
theorem gL_77 : GoodIn allw (va_wsS RL 77 yL_start wsL_start) := gSW kw_272 kw_273 kw_0 kw_274
theorem gL_81 : GoodIn allw (va_wsS RL 81 yL_advance wsL_advance) := gSW kw_279 kw_280 kw_0 kw_281
theorem gL_98 : GoodIn allw (va_wsS RL 98 yL_value wsL_value) := gSW kw_287 kw_288 kw_0 kw_289
theorem gL_102 : GoodIn allw (va_wsS RL 102 yL_count wsL_count) := gSW kw_294 kw_295 kw_0 kw_296
theorem gL_105 : GoodIn allw (va_wsS RL 105 yL_at wsL_at) := gSW kw_301 kw_302 kw_0 kw_303
theorem gL_109 : GoodIn allw (va_wsS RL 109 yL_projected wsL_projected) := gSW kw_309 kw_310 kw_0 kw_311
set_option maxHeartbeats 4000000 in
set_option maxRecDepth 100000 in
theorem h_element1 (l : Launch) (dC : Nat → ClassId) (dI : Nat → Nat → Nat) (x a1 a2 a3 a4 a5 a6 a7 : Nat) (cI cJ : ClassId) (nD nR : Nat) (dv : Nat → Int64) (r : Nat → Nat) (cap : Nat) (ti va ev ed : Nat → Int64) (ec : Nat) (ad : Nat → Int32) (ac : Nat) (now : Int64) (hst : l.stackTraces = false) (q sz : Nat) (v0 t : Int64) (hbad : t < 0 ∨ 1152921504606846976 < t) : Met l yL_element wsL_element ({ frames := 7, cells := 1, slots := 6, locals := 106 }) (va_Pc [.ref x, .long v0, .long t] (fun U => U.heap.size = sz ∧ va_P (dC, dI) vwCl (wr x a1 a2 a3 a4 a5 a6 a7 cI cJ nD nR dv r cap ti va ev ed ec ad ac now) U.heap ∧ va_K (dC, dI) vwCl [(cI, .int), (cJ, .long)] U ∧ va_D (fun _ => True) (wr x a1 a2 a3 a4 a5 a6 a7 cI cJ nD nR dv r cap ti va ev ed ec ad ac now) ∧ xt_ok U ∧ xt_nk U)) (va_Qi (fun (v : Int32) (_ : Unit) => v = nI 1) (fun _ t9 => va_P (dC, dI) vwCl (wr x a1 a2 a3 a4 a5 a6 a7 cI cJ nD nR dv r cap ti va ev ed ec ad ac now) t9.heap ∧ va_K (dC, dI) vwCl [(cI, .int), (cJ, .long)] t9 ∧ va_D (va_A (wr x a1 a2 a3 a4 a5 a6 a7 cI cJ nD nR dv r cap ti va ev ed ec ad ac now) sz) (wr x a1 a2 a3 a4 a5 a6 a7 cI cJ nD nR dv r cap ti va ev ed ec ad ac now)) (va_A (wr x a1 a2 a3 a4 a5 a6 a7 cI cJ nD nR dv r cap ti va ev ed ec ad ac now) sz)) 1 6 (va_A (wr x a1 a2 a3 a4 a5 a6 a7 cI cJ nD nR dv r cap ti va ev ed ec ad ac now) sz) := by
  refine va_MetW (cc := cL_element) (maxL := 6) (ret := (some .int)) (hh := hhL_element) (by decide) rfl ?_
  intro p e s m args below meth c s₁ B hml hv
  obtain ⟨rfl, hsz, hP, hK, hD0, hok, hnk⟩ := hv
  subst hsz
  have hD := hD0.self (sz := s.heap.size)
  generalize hAe : va_A (wr x a1 a2 a3 a4 a5 a6 a7 cI cJ nD nR dv r cap ti va ev ed ec ad ac now) s.heap.size = A at hD ⊢
  have hx := B.exec
  have hb := B.bytes
  have hr := B.returns
  have hts := atoms_spec (ws := wsL_element) B.pre
  have hown : s.vm.findClass RL = some m.cls := findClass_of_methodNamed B.named
  have hlocks := B.notSynchronized
  have hall := fun (w : Cond) (h : w ∈ allw) => hts w (List.mem_cons_of_mem _ h)
  have hl := lv_entry ([.ref x, .long v0, .long t]) (n := 6) (Nat.le_of_ble_eq_true rfl)
  rw [lg_entry_eq]
  generalize (lg_sl ([.ref x, .long v0, .long t]) ++ List.replicate (6 - (lg_sl ([.ref x, .long v0, .long t])).length) Slot.unset).toArray = ls at hl ⊢
  have hl : lv_has ls 6 [(0, .ref x), (1, .long v0), (3, .long t)] := hl
  refine lv_aload_n hx hb dL_element_0 rfl (lv_at hl 0 rfl) ?_
  refine lv_lload_n hx hb dL_element_1 rfl (lv_at hl 1 rfl) ?_
  refine lv_lload_n hx hb dL_element_2 rfl (lv_at hl 2 rfl) ?_
  refine xt_callV (As := [.long v0, .long t]) (rest := []) ⟨hx, hb, hml, hown, hall⟩ (x_element1 l dC dI x a1 a2 a3 a4 a5 a6 a7 cI cJ nD nR dv r cap ti va ev ed ec ad ac now hst v0 t hbad) (cwV 2 hall gL_7 rfl rfl rfl (by decide +kernel) ⟨Nat.le_of_ble_eq_true rfl, Nat.le_of_ble_eq_true rfl⟩) ⟨xk_blind, va_recv hK hP (ci := 0) (q0 := 0) rfl rfl, fun U hU hW => ⟨rfl, by rw [hU]; exact hP, va_K.moved hW.alike hK, xt_move hW (fun q _ => by rw [hU]) hok⟩⟩ rfl hl.1 rfl (lv_room (Nat.le_of_ble_eq_true rfl)) dL_element_3 ⟨Nat.le_of_ble_eq_true rfl, Nat.le_of_ble_eq_true rfl⟩ (fun q9 ce H h1 h2 h3 hz hk => ?_)
  refine xt_catch (own := RL) (name := "java/lang/IllegalArgumentException") hown [] ⟨0, 6, 9, 13⟩ [⟨0, 6, 13, 15⟩] ((xt_table B (hts _ List.mem_cons_self)).trans rfl) (fun z hz => nomatch hz) (by decide) (by decide) (hall _ kw_96) (xt_at hok _ (by decide +kernel)) h1 h2 h3 ?_
  have hP := xt_P hP hk
  have hS : va_S A s.heap H [] := ⟨hz, fun q hq _ => hk q hq, fun _ h => nomatch h⟩
  refine lv_astore (lv' := [(5, .ref q9), (0, .ref x), (1, .long v0), (3, .long t)]) hx hb dL_element_9 hl (by decide) rfl (fun ls hl => ?_)
  refine lv_iconst (v := 1) hx hb dL_element_11 (by decide) ?_
  refine tp_i (y := nI 1) (by decide) ?_
  exact W.iret (v := nI 1) hx hb hr (fun t9 ht hW => ⟨⟨nI 1, (), rfl, rfl, by rw [ht]; exact hP, va_K.moved hW.alike hK, hD⟩, hS.F ht⟩) hS.2.2 dL_element_12
set_option maxHeartbeats 4000000 in
set_option maxRecDepth 100000 in
theorem h_element2 (l : Launch) (dC : Nat → ClassId) (dI : Nat → Nat → Nat) (x a1 a2 a3 a4 a5 a6 a7 : Nat) (cI cJ : ClassId) (nD nR : Nat) (dv : Nat → Int64) (r : Nat → Nat) (cap : Nat) (ti va ev ed : Nat → Int64) (ec : Nat) (ad : Nat → Int32) (ac : Nat) (now : Int64) (hst : l.stackTraces = false) (q sz : Nat) (hI : wf_R nD nR cap ec ac r) (v0 t : Int64) (h1 : ¬ t < 0) (h2 : ¬ 1152921504606846976 < t) (hfull : 16 ≤ ec) : Met l yL_element wsL_element ({ frames := 7, cells := 1, slots := 6, locals := 106 }) (va_Pc [.ref x, .long v0, .long t] (fun U => U.heap.size = sz ∧ va_P (dC, dI) vwCl (wr x a1 a2 a3 a4 a5 a6 a7 cI cJ nD nR dv r cap ti va ev ed ec ad ac now) U.heap ∧ va_K (dC, dI) vwCl [(cI, .int), (cJ, .long)] U ∧ va_D (fun _ => True) (wr x a1 a2 a3 a4 a5 a6 a7 cI cJ nD nR dv r cap ti va ev ed ec ad ac now) ∧ xt_ok U ∧ xt_nk U)) (va_Qi (fun (v : Int32) (_ : Unit) => v = nI 2) (fun _ t9 => va_P (dC, dI) vwCl (wr x a1 a2 a3 a4 a5 a6 a7 cI cJ nD nR dv r cap ti va ev ed ec ad ac now) t9.heap ∧ va_K (dC, dI) vwCl [(cI, .int), (cJ, .long)] t9 ∧ va_D (va_A (wr x a1 a2 a3 a4 a5 a6 a7 cI cJ nD nR dv r cap ti va ev ed ec ad ac now) sz) (wr x a1 a2 a3 a4 a5 a6 a7 cI cJ nD nR dv r cap ti va ev ed ec ad ac now)) (va_A (wr x a1 a2 a3 a4 a5 a6 a7 cI cJ nD nR dv r cap ti va ev ed ec ad ac now) sz)) 1 6 (va_A (wr x a1 a2 a3 a4 a5 a6 a7 cI cJ nD nR dv r cap ti va ev ed ec ad ac now) sz) := by
  refine va_MetW (cc := cL_element) (maxL := 6) (ret := (some .int)) (hh := hhL_element) (by decide) rfl ?_
  intro p e s m args below meth c s₁ B hml hv
  obtain ⟨rfl, hsz, hP, hK, hD0, hok, hnk⟩ := hv
  subst hsz
  have hD := hD0.self (sz := s.heap.size)
  generalize hAe : va_A (wr x a1 a2 a3 a4 a5 a6 a7 cI cJ nD nR dv r cap ti va ev ed ec ad ac now) s.heap.size = A at hD ⊢
  have hx := B.exec
  have hb := B.bytes
  have hr := B.returns
  have hts := atoms_spec (ws := wsL_element) B.pre
  have hown : s.vm.findClass RL = some m.cls := findClass_of_methodNamed B.named
  have hlocks := B.notSynchronized
  have hall := fun (w : Cond) (h : w ∈ allw) => hts w (List.mem_cons_of_mem _ h)
  have hl := lv_entry ([.ref x, .long v0, .long t]) (n := 6) (Nat.le_of_ble_eq_true rfl)
  rw [lg_entry_eq]
  generalize (lg_sl ([.ref x, .long v0, .long t]) ++ List.replicate (6 - (lg_sl ([.ref x, .long v0, .long t])).length) Slot.unset).toArray = ls at hl ⊢
  have hl : lv_has ls 6 [(0, .ref x), (1, .long v0), (3, .long t)] := hl
  refine lv_aload_n hx hb dL_element_0 rfl (lv_at hl 0 rfl) ?_
  refine lv_lload_n hx hb dL_element_1 rfl (lv_at hl 1 rfl) ?_
  refine lv_lload_n hx hb dL_element_2 rfl (lv_at hl 2 rfl) ?_
  refine xt_callV (As := [.long v0, .long t]) (rest := []) ⟨hx, hb, hml, hown, hall⟩ (x_element2 l dC dI x a1 a2 a3 a4 a5 a6 a7 cI cJ nD nR dv r cap ti va ev ed ec ad ac now hst hI v0 t h1 h2 hfull) (cwV 2 hall gL_7 rfl rfl rfl (by decide +kernel) ⟨Nat.le_of_ble_eq_true rfl, Nat.le_of_ble_eq_true rfl⟩) ⟨xk_blind, va_recv hK hP (ci := 0) (q0 := 0) rfl rfl, fun U hU hW => ⟨rfl, by rw [hU]; exact hP, va_K.moved hW.alike hK, xt_move hW (fun q _ => by rw [hU]) hok⟩⟩ rfl hl.1 rfl (lv_room (Nat.le_of_ble_eq_true rfl)) dL_element_3 ⟨Nat.le_of_ble_eq_true rfl, Nat.le_of_ble_eq_true rfl⟩ (fun q9 ce H h1 h2 h3 hz hk => ?_)
  refine xt_catch (own := RL) (name := "java/lang/IllegalStateException") hown [⟨0, 6, 9, 13⟩] ⟨0, 6, 13, 15⟩ [] ((xt_table B (hts _ List.mem_cons_self)).trans rfl) (fun z hz => by rw [List.mem_singleton.mp hz]; exact ⟨by decide, _, hall _ kw_96, hnk ("java/lang/IllegalStateException", "java/lang/IllegalArgumentException") (by decide)⟩) (by decide) (by decide) (hall _ kw_97) (xt_at hok _ (by decide +kernel)) h1 h2 h3 ?_
  have hP := xt_P hP hk
  have hS : va_S A s.heap H [] := ⟨hz, fun q hq _ => hk q hq, fun _ h => nomatch h⟩
  refine lv_astore (lv' := [(5, .ref q9), (0, .ref x), (1, .long v0), (3, .long t)]) hx hb dL_element_13 hl (by decide) rfl (fun ls hl => ?_)
  refine lv_iconst (v := 2) hx hb dL_element_15 (by decide) ?_
  refine tp_i (y := nI 2) (by decide) ?_
  exact W.iret (v := nI 2) hx hb hr (fun t9 ht hW => ⟨⟨nI 2, (), rfl, rfl, by rw [ht]; exact hP, va_K.moved hW.alike hK, hD⟩, hS.F ht⟩) hS.2.2 dL_element_16
set_option maxHeartbeats 4000000 in
set_option maxRecDepth 100000 in
theorem h_assign1 (l : Launch) (dC : Nat → ClassId) (dI : Nat → Nat → Nat) (x a1 a2 a3 a4 a5 a6 a7 : Nat) (cI cJ : ClassId) (nD nR : Nat) (dv : Nat → Int64) (r : Nat → Nat) (cap : Nat) (ti va ev ed : Nat → Int64) (ec : Nat) (ad : Nat → Int32) (ac : Nat) (now : Int64) (hst : l.stackTraces = false) (q sz : Nat) (i : Int32) (hbad : i < 0 ∨ nI nD ≤ i) (mo : Int32) (t : Int64) : Met l yL_assign wsL_assign ({ frames := 8, cells := 1, slots := 6, locals := 136 }) (va_Pc [.ref x, .int i, .int mo, .long t, .ref q] (fun U => U.heap.size = sz ∧ va_P (dC, dI) vwCl (wr x a1 a2 a3 a4 a5 a6 a7 cI cJ nD nR dv r cap ti va ev ed ec ad ac now) U.heap ∧ va_K (dC, dI) vwCl [(cI, .int), (cJ, .long)] U ∧ va_D (fun _ => True) (wr x a1 a2 a3 a4 a5 a6 a7 cI cJ nD nR dv r cap ti va ev ed ec ad ac now) ∧ xt_ok U ∧ xt_nk U)) (va_Qi (fun (v : Int32) (_ : Unit) => v = nI 1) (fun _ t9 => va_P (dC, dI) vwCl (wr x a1 a2 a3 a4 a5 a6 a7 cI cJ nD nR dv r cap ti va ev ed ec ad ac now) t9.heap ∧ va_K (dC, dI) vwCl [(cI, .int), (cJ, .long)] t9 ∧ va_D (va_A (wr x a1 a2 a3 a4 a5 a6 a7 cI cJ nD nR dv r cap ti va ev ed ec ad ac now) sz) (wr x a1 a2 a3 a4 a5 a6 a7 cI cJ nD nR dv r cap ti va ev ed ec ad ac now)) (va_A (wr x a1 a2 a3 a4 a5 a6 a7 cI cJ nD nR dv r cap ti va ev ed ec ad ac now) sz)) 1 6 (va_A (wr x a1 a2 a3 a4 a5 a6 a7 cI cJ nD nR dv r cap ti va ev ed ec ad ac now) sz) := by
  refine va_MetW (cc := cL_assign) (maxL := 7) (ret := (some .int)) (hh := hhL_assign) (by decide) rfl ?_
  intro p e s m args below meth c s₁ B hml hv
  obtain ⟨rfl, hsz, hP, hK, hD0, hok, hnk⟩ := hv
  subst hsz
  have hD := hD0.self (sz := s.heap.size)
  generalize hAe : va_A (wr x a1 a2 a3 a4 a5 a6 a7 cI cJ nD nR dv r cap ti va ev ed ec ad ac now) s.heap.size = A at hD ⊢
  have hx := B.exec
  have hb := B.bytes
  have hr := B.returns
  have hts := atoms_spec (ws := wsL_assign) B.pre
  have hown : s.vm.findClass RL = some m.cls := findClass_of_methodNamed B.named
  have hlocks := B.notSynchronized
  have hall := fun (w : Cond) (h : w ∈ allw) => hts w (List.mem_cons_of_mem _ h)
  have hl := lv_entry ([.ref x, .int i, .int mo, .long t, .ref q]) (n := 7) (Nat.le_of_ble_eq_true rfl)
  rw [lg_entry_eq]
  generalize (lg_sl ([.ref x, .int i, .int mo, .long t, .ref q]) ++ List.replicate (7 - (lg_sl ([.ref x, .int i, .int mo, .long t, .ref q])).length) Slot.unset).toArray = ls at hl ⊢
  have hl : lv_has ls 7 [(0, .ref x), (1, .int i), (2, .int mo), (3, .long t), (5, .ref q)] := hl
  refine lv_aload hx hb dL_assign_0 (lv_at hl 4 rfl) ?_
  refine lv_iconst (v := 0) hx hb dL_assign_2 (by decide) ?_
  refine lv_aload_n hx hb dL_assign_3 rfl (lv_at hl 0 rfl) ?_
  refine lv_iload_n hx hb dL_assign_4 rfl (lv_at hl 1 rfl) ?_
  refine lv_iload_n hx hb dL_assign_5 rfl (lv_at hl 2 rfl) ?_
  refine lv_lload_n hx hb dL_assign_6 rfl (lv_at hl 3 rfl) ?_
  refine xt_callV (As := [.int i, .int mo, .long t]) (rest := [.int 0, .ref q]) ⟨hx, hb, hml, hown, hall⟩ (x_assign l dC dI x a1 a2 a3 a4 a5 a6 a7 cI cJ nD nR dv r cap ti va ev ed ec ad ac now hst i hbad mo t) (cwV 3 hall gL_17 rfl rfl rfl (by decide +kernel) ⟨Nat.le_of_ble_eq_true rfl, Nat.le_of_ble_eq_true rfl⟩) ⟨xk_blind, va_recv hK hP (ci := 0) (q0 := 0) rfl rfl, fun U hU hW => ⟨rfl, by rw [hU]; exact hP, va_K.moved hW.alike hK, xt_move hW (fun q _ => by rw [hU]) hok⟩⟩ rfl hl.1 rfl (lv_room (Nat.le_of_ble_eq_true rfl)) dL_assign_7 ⟨Nat.le_of_ble_eq_true rfl, Nat.le_of_ble_eq_true rfl⟩ (fun q9 ce H h1 h2 h3 hz hk => ?_)
  refine xt_catch (own := RL) (name := "java/lang/IndexOutOfBoundsException") hown [] ⟨0, 12, 15, 21⟩ [⟨0, 12, 19, 15⟩, ⟨0, 12, 23, 13⟩] ((xt_table B (hts _ List.mem_cons_self)).trans rfl) (fun z hz => nomatch hz) (by decide) (by decide) (hall _ kw_190) (xt_at hok _ (by decide +kernel)) h1 h2 h3 ?_
  have hP := xt_P hP hk
  have hS : va_S A s.heap H [] := ⟨hz, fun q hq _ => hk q hq, fun _ h => nomatch h⟩
  refine lv_astore (lv' := [(6, .ref q9), (0, .ref x), (1, .int i), (2, .int mo), (3, .long t), (5, .ref q)]) hx hb dL_assign_15 hl (by decide) rfl (fun ls hl => ?_)
  refine lv_iconst (v := 1) hx hb dL_assign_17 (by decide) ?_
  refine tp_i (y := nI 1) (by decide) ?_
  exact W.iret (v := nI 1) hx hb hr (fun t9 ht hW => ⟨⟨nI 1, (), rfl, rfl, by rw [ht]; exact hP, va_K.moved hW.alike hK, hD⟩, hS.F ht⟩) hS.2.2 dL_assign_18
set_option maxHeartbeats 4000000 in
set_option maxRecDepth 100000 in
theorem h_assign2 (l : Launch) (dC : Nat → ClassId) (dI : Nat → Nat → Nat) (x a1 a2 a3 a4 a5 a6 a7 : Nat) (cI cJ : ClassId) (nD nR : Nat) (dv : Nat → Int64) (r : Nat → Nat) (cap : Nat) (ti va ev ed : Nat → Int64) (ec : Nat) (ad : Nat → Int32) (ac : Nat) (now : Int64) (hst : l.stackTraces = false) (q sz : Nat) (hI : wf_R nD nR cap ec ac r) (d : Nat) (mo : Int32) (t : Int64) (hd : d < nD) (hz0 : ec = 0) : Met l yL_assign wsL_assign ({ frames := 7, cells := 1, slots := 6, locals := 115 }) (va_Pc [.ref x, .int (nI d), .int mo, .long t, .ref q] (fun U => U.heap.size = sz ∧ va_P (dC, dI) vwCl (wr x a1 a2 a3 a4 a5 a6 a7 cI cJ nD nR dv r cap ti va ev ed ec ad ac now) U.heap ∧ va_K (dC, dI) vwCl [(cI, .int), (cJ, .long)] U ∧ va_D (fun _ => True) (wr x a1 a2 a3 a4 a5 a6 a7 cI cJ nD nR dv r cap ti va ev ed ec ad ac now) ∧ xt_ok U ∧ xt_nk U)) (va_Qi (fun (v : Int32) (_ : Unit) => v = nI 2) (fun _ t9 => va_P (dC, dI) vwCl (wr x a1 a2 a3 a4 a5 a6 a7 cI cJ nD nR dv r cap ti va ev ed ec ad ac now) t9.heap ∧ va_K (dC, dI) vwCl [(cI, .int), (cJ, .long)] t9 ∧ va_D (va_A (wr x a1 a2 a3 a4 a5 a6 a7 cI cJ nD nR dv r cap ti va ev ed ec ad ac now) sz) (wr x a1 a2 a3 a4 a5 a6 a7 cI cJ nD nR dv r cap ti va ev ed ec ad ac now)) (va_A (wr x a1 a2 a3 a4 a5 a6 a7 cI cJ nD nR dv r cap ti va ev ed ec ad ac now) sz)) 1 6 (va_A (wr x a1 a2 a3 a4 a5 a6 a7 cI cJ nD nR dv r cap ti va ev ed ec ad ac now) sz) := by
  refine va_MetW (cc := cL_assign) (maxL := 7) (ret := (some .int)) (hh := hhL_assign) (by decide) rfl ?_
  intro p e s m args below meth c s₁ B hml hv
  obtain ⟨rfl, hsz, hP, hK, hD0, hok, hnk⟩ := hv
  subst hsz
  have hD := hD0.self (sz := s.heap.size)
  generalize hAe : va_A (wr x a1 a2 a3 a4 a5 a6 a7 cI cJ nD nR dv r cap ti va ev ed ec ad ac now) s.heap.size = A at hD ⊢
  have hx := B.exec
  have hb := B.bytes
  have hr := B.returns
  have hts := atoms_spec (ws := wsL_assign) B.pre
  have hown : s.vm.findClass RL = some m.cls := findClass_of_methodNamed B.named
  have hlocks := B.notSynchronized
  have hall := fun (w : Cond) (h : w ∈ allw) => hts w (List.mem_cons_of_mem _ h)
  have hl := lv_entry ([.ref x, .int (nI d), .int mo, .long t, .ref q]) (n := 7) (Nat.le_of_ble_eq_true rfl)
  rw [lg_entry_eq]
  generalize (lg_sl ([.ref x, .int (nI d), .int mo, .long t, .ref q]) ++ List.replicate (7 - (lg_sl ([.ref x, .int (nI d), .int mo, .long t, .ref q])).length) Slot.unset).toArray = ls at hl ⊢
  have hl : lv_has ls 7 [(0, .ref x), (1, .int (nI d)), (2, .int mo), (3, .long t), (5, .ref q)] := hl
  refine lv_aload hx hb dL_assign_0 (lv_at hl 4 rfl) ?_
  refine lv_iconst (v := 0) hx hb dL_assign_2 (by decide) ?_
  refine lv_aload_n hx hb dL_assign_3 rfl (lv_at hl 0 rfl) ?_
  refine lv_iload_n hx hb dL_assign_4 rfl (lv_at hl 1 rfl) ?_
  refine lv_iload_n hx hb dL_assign_5 rfl (lv_at hl 2 rfl) ?_
  refine lv_lload_n hx hb dL_assign_6 rfl (lv_at hl 3 rfl) ?_
  refine xt_callV (As := [.int (nI d), .int mo, .long t]) (rest := [.int 0, .ref q]) ⟨hx, hb, hml, hown, hall⟩ (x_assign2 l dC dI x a1 a2 a3 a4 a5 a6 a7 cI cJ nD nR dv r cap ti va ev ed ec ad ac now hst hI d mo t hd hz0) (cwV 3 hall gL_17 rfl rfl rfl (by decide +kernel) ⟨Nat.le_of_ble_eq_true rfl, Nat.le_of_ble_eq_true rfl⟩) ⟨xk_blind, va_recv hK hP (ci := 0) (q0 := 0) rfl rfl, fun U hU hW => ⟨rfl, by rw [hU]; exact hP, va_K.moved hW.alike hK, xt_move hW (fun q _ => by rw [hU]) hok⟩⟩ rfl hl.1 rfl (lv_room (Nat.le_of_ble_eq_true rfl)) dL_assign_7 ⟨Nat.le_of_ble_eq_true rfl, Nat.le_of_ble_eq_true rfl⟩ (fun q9 ce H h1 h2 h3 hz hk => ?_)
  refine xt_catch (own := RL) (name := "java/lang/IllegalStateException") hown [⟨0, 12, 15, 21⟩] ⟨0, 12, 19, 15⟩ [⟨0, 12, 23, 13⟩] ((xt_table B (hts _ List.mem_cons_self)).trans rfl) (fun z hz => by rw [List.mem_singleton.mp hz]; exact ⟨by decide, _, hall _ kw_190, hnk ("java/lang/IllegalStateException", "java/lang/IndexOutOfBoundsException") (by decide)⟩) (by decide) (by decide) (hall _ kw_97) (xt_at hok _ (by decide +kernel)) h1 h2 h3 ?_
  have hP := xt_P hP hk
  have hS : va_S A s.heap H [] := ⟨hz, fun q hq _ => hk q hq, fun _ h => nomatch h⟩
  refine lv_astore (lv' := [(6, .ref q9), (0, .ref x), (1, .int (nI d)), (2, .int mo), (3, .long t), (5, .ref q)]) hx hb dL_assign_19 hl (by decide) rfl (fun ls hl => ?_)
  refine lv_iconst (v := 2) hx hb dL_assign_21 (by decide) ?_
  refine tp_i (y := nI 2) (by decide) ?_
  exact W.iret (v := nI 2) hx hb hr (fun t9 ht hW => ⟨⟨nI 2, (), rfl, rfl, by rw [ht]; exact hP, va_K.moved hW.alike hK, hD⟩, hS.F ht⟩) hS.2.2 dL_assign_22
set_option maxHeartbeats 4000000 in
set_option maxRecDepth 100000 in
theorem h_assign3 (l : Launch) (dC : Nat → ClassId) (dI : Nat → Nat → Nat) (x a1 a2 a3 a4 a5 a6 a7 : Nat) (cI cJ : ClassId) (nD nR : Nat) (dv : Nat → Int64) (r : Nat → Nat) (cap : Nat) (ti va ev ed : Nat → Int64) (ec : Nat) (ad : Nat → Int32) (ac : Nat) (now : Int64) (hst : l.stackTraces = false) (q sz : Nat) (hI : wf_R nD nR cap ec ac r) (d : Nat) (mo : Int32) (t : Int64) (hd : d < nD) (hz0 : 0 < ec) (hbad : ¬ (wf_lg mo (ed 0) t ∧ wf_dg ed now ec 0 (-1))) : Met l yL_assign wsL_assign ({ frames := 7, cells := 1, slots := 6, locals := 115 }) (va_Pc [.ref x, .int (nI d), .int mo, .long t, .ref q] (fun U => U.heap.size = sz ∧ va_P (dC, dI) vwCl (wr x a1 a2 a3 a4 a5 a6 a7 cI cJ nD nR dv r cap ti va ev ed ec ad ac now) U.heap ∧ va_K (dC, dI) vwCl [(cI, .int), (cJ, .long)] U ∧ va_D (fun _ => True) (wr x a1 a2 a3 a4 a5 a6 a7 cI cJ nD nR dv r cap ti va ev ed ec ad ac now) ∧ xt_ok U ∧ xt_nk U)) (va_Qi (fun (v : Int32) (_ : Unit) => v = nI 3) (fun _ t9 => va_P (dC, dI) vwCl (wr x a1 a2 a3 a4 a5 a6 a7 cI cJ nD nR dv r cap ti va ev ed ec ad ac now) t9.heap ∧ va_K (dC, dI) vwCl [(cI, .int), (cJ, .long)] t9 ∧ va_D (va_A (wr x a1 a2 a3 a4 a5 a6 a7 cI cJ nD nR dv r cap ti va ev ed ec ad ac now) sz) (wr x a1 a2 a3 a4 a5 a6 a7 cI cJ nD nR dv r cap ti va ev ed ec ad ac now)) (va_A (wr x a1 a2 a3 a4 a5 a6 a7 cI cJ nD nR dv r cap ti va ev ed ec ad ac now) sz)) 1 6 (va_A (wr x a1 a2 a3 a4 a5 a6 a7 cI cJ nD nR dv r cap ti va ev ed ec ad ac now) sz) := by
  refine va_MetW (cc := cL_assign) (maxL := 7) (ret := (some .int)) (hh := hhL_assign) (by decide) rfl ?_
  intro p e s m args below meth c s₁ B hml hv
  obtain ⟨rfl, hsz, hP, hK, hD0, hok, hnk⟩ := hv
  subst hsz
  have hD := hD0.self (sz := s.heap.size)
  generalize hAe : va_A (wr x a1 a2 a3 a4 a5 a6 a7 cI cJ nD nR dv r cap ti va ev ed ec ad ac now) s.heap.size = A at hD ⊢
  have hx := B.exec
  have hb := B.bytes
  have hr := B.returns
  have hts := atoms_spec (ws := wsL_assign) B.pre
  have hown : s.vm.findClass RL = some m.cls := findClass_of_methodNamed B.named
  have hlocks := B.notSynchronized
  have hall := fun (w : Cond) (h : w ∈ allw) => hts w (List.mem_cons_of_mem _ h)
  have hl := lv_entry ([.ref x, .int (nI d), .int mo, .long t, .ref q]) (n := 7) (Nat.le_of_ble_eq_true rfl)
  rw [lg_entry_eq]
  generalize (lg_sl ([.ref x, .int (nI d), .int mo, .long t, .ref q]) ++ List.replicate (7 - (lg_sl ([.ref x, .int (nI d), .int mo, .long t, .ref q])).length) Slot.unset).toArray = ls at hl ⊢
  have hl : lv_has ls 7 [(0, .ref x), (1, .int (nI d)), (2, .int mo), (3, .long t), (5, .ref q)] := hl
  refine lv_aload hx hb dL_assign_0 (lv_at hl 4 rfl) ?_
  refine lv_iconst (v := 0) hx hb dL_assign_2 (by decide) ?_
  refine lv_aload_n hx hb dL_assign_3 rfl (lv_at hl 0 rfl) ?_
  refine lv_iload_n hx hb dL_assign_4 rfl (lv_at hl 1 rfl) ?_
  refine lv_iload_n hx hb dL_assign_5 rfl (lv_at hl 2 rfl) ?_
  refine lv_lload_n hx hb dL_assign_6 rfl (lv_at hl 3 rfl) ?_
  refine xt_callV (As := [.int (nI d), .int mo, .long t]) (rest := [.int 0, .ref q]) ⟨hx, hb, hml, hown, hall⟩ (x_assign3 l dC dI x a1 a2 a3 a4 a5 a6 a7 cI cJ nD nR dv r cap ti va ev ed ec ad ac now hst hI d mo t hd hz0 hbad) (cwV 3 hall gL_17 rfl rfl rfl (by decide +kernel) ⟨Nat.le_of_ble_eq_true rfl, Nat.le_of_ble_eq_true rfl⟩) ⟨xk_blind, va_recv hK hP (ci := 0) (q0 := 0) rfl rfl, fun U hU hW => ⟨rfl, by rw [hU]; exact hP, va_K.moved hW.alike hK, xt_move hW (fun q _ => by rw [hU]) hok⟩⟩ rfl hl.1 rfl (lv_room (Nat.le_of_ble_eq_true rfl)) dL_assign_7 ⟨Nat.le_of_ble_eq_true rfl, Nat.le_of_ble_eq_true rfl⟩ (fun q9 ce H h1 h2 h3 hz hk => ?_)
  refine xt_catch (own := RL) (name := "java/lang/IllegalArgumentException") hown [⟨0, 12, 15, 21⟩, ⟨0, 12, 19, 15⟩] ⟨0, 12, 23, 13⟩ [] ((xt_table B (hts _ List.mem_cons_self)).trans rfl) (fun z hz => by
    simp only [List.mem_cons, List.not_mem_nil, or_false] at hz
    rcases hz with rfl | rfl
    · exact ⟨by decide, _, hall _ kw_190, hnk ("java/lang/IllegalArgumentException", "java/lang/IndexOutOfBoundsException") (by decide)⟩
    · exact ⟨by decide, _, hall _ kw_97, hnk ("java/lang/IllegalArgumentException", "java/lang/IllegalStateException") (by decide)⟩) (by decide) (by decide) (hall _ kw_96) (xt_at hok _ (by decide +kernel)) h1 h2 h3 ?_
  have hP := xt_P hP hk
  have hS : va_S A s.heap H [] := ⟨hz, fun q hq _ => hk q hq, fun _ h => nomatch h⟩
  refine lv_astore (lv' := [(6, .ref q9), (0, .ref x), (1, .int (nI d)), (2, .int mo), (3, .long t), (5, .ref q)]) hx hb dL_assign_23 hl (by decide) rfl (fun ls hl => ?_)
  refine lv_iconst (v := 3) hx hb dL_assign_25 (by decide) ?_
  refine tp_i (y := nI 3) (by decide) ?_
  exact W.iret (v := nI 3) hx hb hr (fun t9 ht hW => ⟨⟨nI 3, (), rfl, rfl, by rw [ht]; exact hP, va_K.moved hW.alike hK, hD⟩, hS.F ht⟩) hS.2.2 dL_assign_26
set_option maxHeartbeats 4000000 in
set_option maxRecDepth 100000 in
theorem h_assign4 (l : Launch) (dC : Nat → ClassId) (dI : Nat → Nat → Nat) (x a1 a2 a3 a4 a5 a6 a7 : Nat) (cI cJ : ClassId) (nD nR : Nat) (dv : Nat → Int64) (r : Nat → Nat) (cap : Nat) (ti va ev ed : Nat → Int64) (ec : Nat) (ad : Nat → Int32) (ac : Nat) (now : Int64) (hst : l.stackTraces = false) (q sz : Nat) (hI : wf_R nD nR cap ec ac r) (d : Nat) (mo : Int32) (t : Int64) (hd : d < nD) (hz0 : 0 < ec) (hg : wf_lg mo (ed 0) t ∧ wf_dg ed now ec 0 (-1)) (cut pl sm : Nat) (hcut : cut = wf_fb ti (now + ed 0 - 1) (r (d + 1) - r d) (r d)) (hpl : pl = wf_fb ti (now + ed 0 - wf_lim mo (ed 0) t - 1) (cut - r d) (r d)) (hsm : sm = wf_ss va (ev 0) pl (cut - pl)) (hbad : nR < r nD - (sm - pl + (r (d + 1) - cut)) + ec) : Met l yL_assign wsL_assign ({ frames := 7, cells := 1, slots := 6, locals := 115 }) (va_Pc [.ref x, .int (nI d), .int mo, .long t, .ref q] (fun U => U.heap.size = sz ∧ va_P (dC, dI) vwCl (wr x a1 a2 a3 a4 a5 a6 a7 cI cJ nD nR dv r cap ti va ev ed ec ad ac now) U.heap ∧ va_K (dC, dI) vwCl [(cI, .int), (cJ, .long)] U ∧ va_D (fun _ => True) (wr x a1 a2 a3 a4 a5 a6 a7 cI cJ nD nR dv r cap ti va ev ed ec ad ac now) ∧ xt_ok U ∧ xt_nk U)) (va_Qi (fun (v : Int32) (_ : Unit) => v = nI 2) (fun _ t9 => va_P (dC, dI) vwCl (wr x a1 a2 a3 a4 a5 a6 a7 cI cJ nD nR dv r cap ti va ev ed ec ad ac now) t9.heap ∧ va_K (dC, dI) vwCl [(cI, .int), (cJ, .long)] t9 ∧ va_D (va_A (wr x a1 a2 a3 a4 a5 a6 a7 cI cJ nD nR dv r cap ti va ev ed ec ad ac now) sz) (wr x a1 a2 a3 a4 a5 a6 a7 cI cJ nD nR dv r cap ti va ev ed ec ad ac now)) (va_A (wr x a1 a2 a3 a4 a5 a6 a7 cI cJ nD nR dv r cap ti va ev ed ec ad ac now) sz)) 1 6 (va_A (wr x a1 a2 a3 a4 a5 a6 a7 cI cJ nD nR dv r cap ti va ev ed ec ad ac now) sz) := by
  refine va_MetW (cc := cL_assign) (maxL := 7) (ret := (some .int)) (hh := hhL_assign) (by decide) rfl ?_
  intro p e s m args below meth c s₁ B hml hv
  obtain ⟨rfl, hsz, hP, hK, hD0, hok, hnk⟩ := hv
  subst hsz
  have hD := hD0.self (sz := s.heap.size)
  generalize hAe : va_A (wr x a1 a2 a3 a4 a5 a6 a7 cI cJ nD nR dv r cap ti va ev ed ec ad ac now) s.heap.size = A at hD ⊢
  have hx := B.exec
  have hb := B.bytes
  have hr := B.returns
  have hts := atoms_spec (ws := wsL_assign) B.pre
  have hown : s.vm.findClass RL = some m.cls := findClass_of_methodNamed B.named
  have hlocks := B.notSynchronized
  have hall := fun (w : Cond) (h : w ∈ allw) => hts w (List.mem_cons_of_mem _ h)
  have hl := lv_entry ([.ref x, .int (nI d), .int mo, .long t, .ref q]) (n := 7) (Nat.le_of_ble_eq_true rfl)
  rw [lg_entry_eq]
  generalize (lg_sl ([.ref x, .int (nI d), .int mo, .long t, .ref q]) ++ List.replicate (7 - (lg_sl ([.ref x, .int (nI d), .int mo, .long t, .ref q])).length) Slot.unset).toArray = ls at hl ⊢
  have hl : lv_has ls 7 [(0, .ref x), (1, .int (nI d)), (2, .int mo), (3, .long t), (5, .ref q)] := hl
  refine lv_aload hx hb dL_assign_0 (lv_at hl 4 rfl) ?_
  refine lv_iconst (v := 0) hx hb dL_assign_2 (by decide) ?_
  refine lv_aload_n hx hb dL_assign_3 rfl (lv_at hl 0 rfl) ?_
  refine lv_iload_n hx hb dL_assign_4 rfl (lv_at hl 1 rfl) ?_
  refine lv_iload_n hx hb dL_assign_5 rfl (lv_at hl 2 rfl) ?_
  refine lv_lload_n hx hb dL_assign_6 rfl (lv_at hl 3 rfl) ?_
  refine xt_callV (As := [.int (nI d), .int mo, .long t]) (rest := [.int 0, .ref q]) ⟨hx, hb, hml, hown, hall⟩ (x_assign4 l dC dI x a1 a2 a3 a4 a5 a6 a7 cI cJ nD nR dv r cap ti va ev ed ec ad ac now hst hI d mo t hd hz0 hg cut pl sm hcut hpl hsm hbad) (cwV 3 hall gL_17 rfl rfl rfl (by decide +kernel) ⟨Nat.le_of_ble_eq_true rfl, Nat.le_of_ble_eq_true rfl⟩) ⟨xk_blind, va_recv hK hP (ci := 0) (q0 := 0) rfl rfl, fun U hU hW => ⟨rfl, by rw [hU]; exact hP, va_K.moved hW.alike hK, xt_move hW (fun q _ => by rw [hU]) hok⟩⟩ rfl hl.1 rfl (lv_room (Nat.le_of_ble_eq_true rfl)) dL_assign_7 ⟨Nat.le_of_ble_eq_true rfl, Nat.le_of_ble_eq_true rfl⟩ (fun q9 ce H h1 h2 h3 hz hk => ?_)
  refine xt_catch (own := RL) (name := "java/lang/IllegalStateException") hown [⟨0, 12, 15, 21⟩] ⟨0, 12, 19, 15⟩ [⟨0, 12, 23, 13⟩] ((xt_table B (hts _ List.mem_cons_self)).trans rfl) (fun z hz => by rw [List.mem_singleton.mp hz]; exact ⟨by decide, _, hall _ kw_190, hnk ("java/lang/IllegalStateException", "java/lang/IndexOutOfBoundsException") (by decide)⟩) (by decide) (by decide) (hall _ kw_97) (xt_at hok _ (by decide +kernel)) h1 h2 h3 ?_
  have hP := xt_P hP hk
  have hS : va_S A s.heap H [] := ⟨hz, fun q hq _ => hk q hq, fun _ h => nomatch h⟩
  refine lv_astore (lv' := [(6, .ref q9), (0, .ref x), (1, .int (nI d)), (2, .int mo), (3, .long t), (5, .ref q)]) hx hb dL_assign_19 hl (by decide) rfl (fun ls hl => ?_)
  refine lv_iconst (v := 2) hx hb dL_assign_21 (by decide) ?_
  refine tp_i (y := nI 2) (by decide) ?_
  exact W.iret (v := nI 2) hx hb hr (fun t9 ht hW => ⟨⟨nI 2, (), rfl, rfl, by rw [ht]; exact hP, va_K.moved hW.alike hK, hD⟩, hS.F ht⟩) hS.2.2 dL_assign_22
set_option maxHeartbeats 4000000 in
set_option maxRecDepth 100000 in
theorem h_start1 (l : Launch) (dC : Nat → ClassId) (dI : Nat → Nat → Nat) (x a1 a2 a3 a4 a5 a6 a7 : Nat) (cI cJ : ClassId) (nD nR : Nat) (dv : Nat → Int64) (r : Nat → Nat) (cap : Nat) (ti va ev ed : Nat → Int64) (ec : Nat) (ad : Nat → Int32) (ac : Nat) (now : Int64) (hst : l.stackTraces = false) (q sz : Nat) (i : Int32) (hbad : i < 0 ∨ nI nD ≤ i) (t : Int64) : Met l yL_start wsL_start ({ frames := 8, cells := 1, slots := 6, locals := 127 }) (va_Pc [.ref x, .int i, .long t, .ref q] (fun U => U.heap.size = sz ∧ va_P (dC, dI) vwCl (wr x a1 a2 a3 a4 a5 a6 a7 cI cJ nD nR dv r cap ti va ev ed ec ad ac now) U.heap ∧ va_K (dC, dI) vwCl [(cI, .int), (cJ, .long)] U ∧ va_D (fun _ => True) (wr x a1 a2 a3 a4 a5 a6 a7 cI cJ nD nR dv r cap ti va ev ed ec ad ac now) ∧ xt_ok U ∧ xt_nk U)) (va_Qi (fun (v : Int32) (_ : Unit) => v = nI 1) (fun _ t9 => va_P (dC, dI) vwCl (wr x a1 a2 a3 a4 a5 a6 a7 cI cJ nD nR dv r cap ti va ev ed ec ad ac now) t9.heap ∧ va_K (dC, dI) vwCl [(cI, .int), (cJ, .long)] t9 ∧ va_D (va_A (wr x a1 a2 a3 a4 a5 a6 a7 cI cJ nD nR dv r cap ti va ev ed ec ad ac now) sz) (wr x a1 a2 a3 a4 a5 a6 a7 cI cJ nD nR dv r cap ti va ev ed ec ad ac now)) (va_A (wr x a1 a2 a3 a4 a5 a6 a7 cI cJ nD nR dv r cap ti va ev ed ec ad ac now) sz)) 1 6 (va_A (wr x a1 a2 a3 a4 a5 a6 a7 cI cJ nD nR dv r cap ti va ev ed ec ad ac now) sz) := by
  refine va_MetW (cc := cL_start) (maxL := 6) (ret := (some .int)) (hh := hhL_start) (by decide) rfl ?_
  intro p e s m args below meth c s₁ B hml hv
  obtain ⟨rfl, hsz, hP, hK, hD0, hok, hnk⟩ := hv
  subst hsz
  have hD := hD0.self (sz := s.heap.size)
  generalize hAe : va_A (wr x a1 a2 a3 a4 a5 a6 a7 cI cJ nD nR dv r cap ti va ev ed ec ad ac now) s.heap.size = A at hD ⊢
  have hx := B.exec
  have hb := B.bytes
  have hr := B.returns
  have hts := atoms_spec (ws := wsL_start) B.pre
  have hown : s.vm.findClass RL = some m.cls := findClass_of_methodNamed B.named
  have hlocks := B.notSynchronized
  have hall := fun (w : Cond) (h : w ∈ allw) => hts w (List.mem_cons_of_mem _ h)
  have hl := lv_entry ([.ref x, .int i, .long t, .ref q]) (n := 6) (Nat.le_of_ble_eq_true rfl)
  rw [lg_entry_eq]
  generalize (lg_sl ([.ref x, .int i, .long t, .ref q]) ++ List.replicate (6 - (lg_sl ([.ref x, .int i, .long t, .ref q])).length) Slot.unset).toArray = ls at hl ⊢
  have hl : lv_has ls 6 [(0, .ref x), (1, .int i), (2, .long t), (4, .ref q)] := hl
  refine lv_aload hx hb dL_start_0 (lv_at hl 3 rfl) ?_
  refine lv_iconst (v := 0) hx hb dL_start_2 (by decide) ?_
  refine lv_aload_n hx hb dL_start_3 rfl (lv_at hl 0 rfl) ?_
  refine lv_iload_n hx hb dL_start_4 rfl (lv_at hl 1 rfl) ?_
  refine lv_lload_n hx hb dL_start_5 rfl (lv_at hl 2 rfl) ?_
  refine xt_callV (As := [.int i, .long t]) (rest := [.int 0, .ref q]) ⟨hx, hb, hml, hown, hall⟩ (x_start l dC dI x a1 a2 a3 a4 a5 a6 a7 cI cJ nD nR dv r cap ti va ev ed ec ad ac now hst i hbad t) (cwV 2 hall gL_23 rfl rfl rfl (by decide +kernel) ⟨Nat.le_of_ble_eq_true rfl, Nat.le_of_ble_eq_true rfl⟩) ⟨xk_blind, va_recv hK hP (ci := 0) (q0 := 0) rfl rfl, fun U hU hW => ⟨rfl, by rw [hU]; exact hP, va_K.moved hW.alike hK, xt_move hW (fun q _ => by rw [hU]) hok⟩⟩ rfl hl.1 rfl (lv_room (Nat.le_of_ble_eq_true rfl)) dL_start_6 ⟨Nat.le_of_ble_eq_true rfl, Nat.le_of_ble_eq_true rfl⟩ (fun q9 ce H h1 h2 h3 hz hk => ?_)
  refine xt_catch (own := RL) (name := "java/lang/IndexOutOfBoundsException") hown [] ⟨0, 11, 14, 21⟩ [] ((xt_table B (hts _ List.mem_cons_self)).trans rfl) (fun z hz => nomatch hz) (by decide) (by decide) (hall _ kw_190) (xt_at hok _ (by decide +kernel)) h1 h2 h3 ?_
  have hP := xt_P hP hk
  have hS : va_S A s.heap H [] := ⟨hz, fun q hq _ => hk q hq, fun _ h => nomatch h⟩
  refine lv_astore (lv' := [(5, .ref q9), (0, .ref x), (1, .int i), (2, .long t), (4, .ref q)]) hx hb dL_start_14 hl (by decide) rfl (fun ls hl => ?_)
  refine lv_iconst (v := 1) hx hb dL_start_16 (by decide) ?_
  refine tp_i (y := nI 1) (by decide) ?_
  exact W.iret (v := nI 1) hx hb hr (fun t9 ht hW => ⟨⟨nI 1, (), rfl, rfl, by rw [ht]; exact hP, va_K.moved hW.alike hK, hD⟩, hS.F ht⟩) hS.2.2 dL_start_17
set_option maxHeartbeats 4000000 in
set_option maxRecDepth 100000 in
theorem h_advance1 (l : Launch) (dC : Nat → ClassId) (dI : Nat → Nat → Nat) (x a1 a2 a3 a4 a5 a6 a7 : Nat) (cI cJ : ClassId) (nD nR : Nat) (dv : Nat → Int64) (r : Nat → Nat) (cap : Nat) (ti va ev ed : Nat → Int64) (ec : Nat) (ad : Nat → Int32) (ac : Nat) (now : Int64) (hst : l.stackTraces = false) (q sz : Nat) (t : Int64) (hbad : t < now ∨ 1152921504606846976 < t) : Met l yL_advance wsL_advance ({ frames := 7, cells := 1, slots := 6, locals := 109 }) (va_Pc [.ref x, .long t, .ref q] (fun U => U.heap.size = sz ∧ va_P (dC, dI) vwCl (wr x a1 a2 a3 a4 a5 a6 a7 cI cJ nD nR dv r cap ti va ev ed ec ad ac now) U.heap ∧ va_K (dC, dI) vwCl [(cI, .int), (cJ, .long)] U ∧ va_D (fun _ => True) (wr x a1 a2 a3 a4 a5 a6 a7 cI cJ nD nR dv r cap ti va ev ed ec ad ac now) ∧ xt_ok U ∧ xt_nk U)) (va_Qi (fun (v : Int32) (_ : Unit) => v = nI 1) (fun _ t9 => va_P (dC, dI) vwCl (wr x a1 a2 a3 a4 a5 a6 a7 cI cJ nD nR dv r cap ti va ev ed ec ad ac now) t9.heap ∧ va_K (dC, dI) vwCl [(cI, .int), (cJ, .long)] t9 ∧ va_D (va_A (wr x a1 a2 a3 a4 a5 a6 a7 cI cJ nD nR dv r cap ti va ev ed ec ad ac now) sz) (wr x a1 a2 a3 a4 a5 a6 a7 cI cJ nD nR dv r cap ti va ev ed ec ad ac now)) (va_A (wr x a1 a2 a3 a4 a5 a6 a7 cI cJ nD nR dv r cap ti va ev ed ec ad ac now) sz)) 1 6 (va_A (wr x a1 a2 a3 a4 a5 a6 a7 cI cJ nD nR dv r cap ti va ev ed ec ad ac now) sz) := by
  refine va_MetW (cc := cL_advance) (maxL := 5) (ret := (some .int)) (hh := hhL_advance) (by decide) rfl ?_
  intro p e s m args below meth c s₁ B hml hv
  obtain ⟨rfl, hsz, hP, hK, hD0, hok, hnk⟩ := hv
  subst hsz
  have hD := hD0.self (sz := s.heap.size)
  generalize hAe : va_A (wr x a1 a2 a3 a4 a5 a6 a7 cI cJ nD nR dv r cap ti va ev ed ec ad ac now) s.heap.size = A at hD ⊢
  have hx := B.exec
  have hb := B.bytes
  have hr := B.returns
  have hts := atoms_spec (ws := wsL_advance) B.pre
  have hown : s.vm.findClass RL = some m.cls := findClass_of_methodNamed B.named
  have hlocks := B.notSynchronized
  have hall := fun (w : Cond) (h : w ∈ allw) => hts w (List.mem_cons_of_mem _ h)
  have hl := lv_entry ([.ref x, .long t, .ref q]) (n := 5) (Nat.le_of_ble_eq_true rfl)
  rw [lg_entry_eq]
  generalize (lg_sl ([.ref x, .long t, .ref q]) ++ List.replicate (5 - (lg_sl ([.ref x, .long t, .ref q])).length) Slot.unset).toArray = ls at hl ⊢
  have hl : lv_has ls 5 [(0, .ref x), (1, .long t), (3, .ref q)] := hl
  refine lv_aload_n hx hb dL_advance_0 rfl (lv_at hl 2 rfl) ?_
  refine lv_iconst (v := 0) hx hb dL_advance_1 (by decide) ?_
  refine lv_aload_n hx hb dL_advance_2 rfl (lv_at hl 0 rfl) ?_
  refine lv_lload_n hx hb dL_advance_3 rfl (lv_at hl 1 rfl) ?_
  refine xt_callV (As := [.long t]) (rest := [.int 0, .ref q]) ⟨hx, hb, hml, hown, hall⟩ (x_advance l dC dI x a1 a2 a3 a4 a5 a6 a7 cI cJ nD nR dv r cap ti va ev ed ec ad ac now hst t hbad) (cwV 1 hall gL_27 rfl rfl rfl (by decide +kernel) ⟨Nat.le_of_ble_eq_true rfl, Nat.le_of_ble_eq_true rfl⟩) ⟨xk_blind, va_recv hK hP (ci := 0) (q0 := 0) rfl rfl, fun U hU hW => ⟨rfl, by rw [hU]; exact hP, va_K.moved hW.alike hK, xt_move hW (fun q _ => by rw [hU]) hok⟩⟩ rfl hl.1 rfl (lv_room (Nat.le_of_ble_eq_true rfl)) dL_advance_4 ⟨Nat.le_of_ble_eq_true rfl, Nat.le_of_ble_eq_true rfl⟩ (fun q9 ce H h1 h2 h3 hz hk => ?_)
  refine xt_catch (own := RL) (name := "java/lang/IllegalArgumentException") hown [] ⟨0, 9, 12, 13⟩ [] ((xt_table B (hts _ List.mem_cons_self)).trans rfl) (fun z hz => nomatch hz) (by decide) (by decide) (hall _ kw_96) (xt_at hok _ (by decide +kernel)) h1 h2 h3 ?_
  have hP := xt_P hP hk
  have hS : va_S A s.heap H [] := ⟨hz, fun q hq _ => hk q hq, fun _ h => nomatch h⟩
  refine lv_astore (lv' := [(4, .ref q9), (0, .ref x), (1, .long t), (3, .ref q)]) hx hb dL_advance_12 hl (by decide) rfl (fun ls hl => ?_)
  refine lv_iconst (v := 1) hx hb dL_advance_14 (by decide) ?_
  refine tp_i (y := nI 1) (by decide) ?_
  exact W.iret (v := nI 1) hx hb hr (fun t9 ht hW => ⟨⟨nI 1, (), rfl, rfl, by rw [ht]; exact hP, va_K.moved hW.alike hK, hD⟩, hS.F ht⟩) hS.2.2 dL_advance_15
set_option maxHeartbeats 4000000 in
set_option maxRecDepth 100000 in
theorem h_value1 (l : Launch) (dC : Nat → ClassId) (dI : Nat → Nat → Nat) (x a1 a2 a3 a4 a5 a6 a7 : Nat) (cI cJ : ClassId) (nD nR : Nat) (dv : Nat → Int64) (r : Nat → Nat) (cap : Nat) (ti va ev ed : Nat → Int64) (ec : Nat) (ad : Nat → Int32) (ac : Nat) (now : Int64) (hst : l.stackTraces = false) (q sz : Nat) (i : Int32) (hbad : i < 0 ∨ nI nD ≤ i) : Met l yL_value wsL_value ({ frames := 8, cells := 1, slots := 6, locals := 124 }) (va_Pc [.ref x, .int i, .ref q] (fun U => U.heap.size = sz ∧ va_P (dC, dI) vwCl (wr x a1 a2 a3 a4 a5 a6 a7 cI cJ nD nR dv r cap ti va ev ed ec ad ac now) U.heap ∧ va_K (dC, dI) vwCl [(cI, .int), (cJ, .long)] U ∧ va_D (fun _ => True) (wr x a1 a2 a3 a4 a5 a6 a7 cI cJ nD nR dv r cap ti va ev ed ec ad ac now) ∧ xt_ok U ∧ xt_nk U)) (va_Qi (fun (v : Int32) (_ : Unit) => v = nI 1) (fun _ t9 => va_P (dC, dI) vwCl (wr x a1 a2 a3 a4 a5 a6 a7 cI cJ nD nR dv r cap ti va ev ed ec ad ac now) t9.heap ∧ va_K (dC, dI) vwCl [(cI, .int), (cJ, .long)] t9 ∧ va_D (va_A (wr x a1 a2 a3 a4 a5 a6 a7 cI cJ nD nR dv r cap ti va ev ed ec ad ac now) sz) (wr x a1 a2 a3 a4 a5 a6 a7 cI cJ nD nR dv r cap ti va ev ed ec ad ac now)) (va_A (wr x a1 a2 a3 a4 a5 a6 a7 cI cJ nD nR dv r cap ti va ev ed ec ad ac now) sz)) 1 6 (va_A (wr x a1 a2 a3 a4 a5 a6 a7 cI cJ nD nR dv r cap ti va ev ed ec ad ac now) sz) := by
  refine va_MetW (cc := cL_value) (maxL := 4) (ret := (some .int)) (hh := hhL_value) (by decide) rfl ?_
  intro p e s m args below meth c s₁ B hml hv
  obtain ⟨rfl, hsz, hP, hK, hD0, hok, hnk⟩ := hv
  subst hsz
  have hD := hD0.self (sz := s.heap.size)
  generalize hAe : va_A (wr x a1 a2 a3 a4 a5 a6 a7 cI cJ nD nR dv r cap ti va ev ed ec ad ac now) s.heap.size = A at hD ⊢
  have hx := B.exec
  have hb := B.bytes
  have hr := B.returns
  have hts := atoms_spec (ws := wsL_value) B.pre
  have hown : s.vm.findClass RL = some m.cls := findClass_of_methodNamed B.named
  have hlocks := B.notSynchronized
  have hall := fun (w : Cond) (h : w ∈ allw) => hts w (List.mem_cons_of_mem _ h)
  have hl := lv_entry ([.ref x, .int i, .ref q]) (n := 4) (Nat.le_of_ble_eq_true rfl)
  rw [lg_entry_eq]
  generalize (lg_sl ([.ref x, .int i, .ref q]) ++ List.replicate (4 - (lg_sl ([.ref x, .int i, .ref q])).length) Slot.unset).toArray = ls at hl ⊢
  have hl : lv_has ls 4 [(0, .ref x), (1, .int i), (2, .ref q)] := hl
  refine lv_aload_n hx hb dL_value_0 rfl (lv_at hl 2 rfl) ?_
  refine lv_iconst (v := 0) hx hb dL_value_1 (by decide) ?_
  refine lv_aload_n hx hb dL_value_2 rfl (lv_at hl 0 rfl) ?_
  refine lv_iload_n hx hb dL_value_3 rfl (lv_at hl 1 rfl) ?_
  refine xt_callV (As := [.int i]) (rest := [.int 0, .ref q]) ⟨hx, hb, hml, hown, hall⟩ (x_value l dC dI x a1 a2 a3 a4 a5 a6 a7 cI cJ nD nR dv r cap ti va ev ed ec ad ac now hst i hbad) (cwV 1 hall gL_31 rfl rfl rfl (by decide +kernel) ⟨Nat.le_of_ble_eq_true rfl, Nat.le_of_ble_eq_true rfl⟩) ⟨xk_blind, va_recv hK hP (ci := 0) (q0 := 0) rfl rfl, fun U hU hW => ⟨rfl, by rw [hU]; exact hP, va_K.moved hW.alike hK, xt_move hW (fun q _ => by rw [hU]) hok⟩⟩ rfl hl.1 rfl (lv_room (Nat.le_of_ble_eq_true rfl)) dL_value_4 ⟨Nat.le_of_ble_eq_true rfl, Nat.le_of_ble_eq_true rfl⟩ (fun q9 ce H h1 h2 h3 hz hk => ?_)
  refine xt_catch (own := RL) (name := "java/lang/IndexOutOfBoundsException") hown [] ⟨0, 8, 11, 21⟩ [] ((xt_table B (hts _ List.mem_cons_self)).trans rfl) (fun z hz => nomatch hz) (by decide) (by decide) (hall _ kw_190) (xt_at hok _ (by decide +kernel)) h1 h2 h3 ?_
  have hP := xt_P hP hk
  have hS : va_S A s.heap H [] := ⟨hz, fun q hq _ => hk q hq, fun _ h => nomatch h⟩
  refine lv_astore_n (lv' := [(3, .ref q9), (0, .ref x), (1, .int i), (2, .ref q)]) hx hb dL_value_11 rfl hl (by decide) rfl (fun ls hl => ?_)
  refine lv_iconst (v := 1) hx hb dL_value_12 (by decide) ?_
  refine tp_i (y := nI 1) (by decide) ?_
  exact W.iret (v := nI 1) hx hb hr (fun t9 ht hW => ⟨⟨nI 1, (), rfl, rfl, by rw [ht]; exact hP, va_K.moved hW.alike hK, hD⟩, hS.F ht⟩) hS.2.2 dL_value_13
set_option maxHeartbeats 4000000 in
set_option maxRecDepth 100000 in
theorem h_count1 (l : Launch) (dC : Nat → ClassId) (dI : Nat → Nat → Nat) (x a1 a2 a3 a4 a5 a6 a7 : Nat) (cI cJ : ClassId) (nD nR : Nat) (dv : Nat → Int64) (r : Nat → Nat) (cap : Nat) (ti va ev ed : Nat → Int64) (ec : Nat) (ad : Nat → Int32) (ac : Nat) (now : Int64) (hst : l.stackTraces = false) (q sz : Nat) (i : Int32) (hbad : i < 0 ∨ nI nD ≤ i) : Met l yL_count wsL_count ({ frames := 8, cells := 1, slots := 6, locals := 124 }) (va_Pc [.ref x, .int i, .ref q] (fun U => U.heap.size = sz ∧ va_P (dC, dI) vwCl (wr x a1 a2 a3 a4 a5 a6 a7 cI cJ nD nR dv r cap ti va ev ed ec ad ac now) U.heap ∧ va_K (dC, dI) vwCl [(cI, .int), (cJ, .long)] U ∧ va_D (fun _ => True) (wr x a1 a2 a3 a4 a5 a6 a7 cI cJ nD nR dv r cap ti va ev ed ec ad ac now) ∧ xt_ok U ∧ xt_nk U)) (va_Qi (fun (v : Int32) (_ : Unit) => v = nI 1) (fun _ t9 => va_P (dC, dI) vwCl (wr x a1 a2 a3 a4 a5 a6 a7 cI cJ nD nR dv r cap ti va ev ed ec ad ac now) t9.heap ∧ va_K (dC, dI) vwCl [(cI, .int), (cJ, .long)] t9 ∧ va_D (va_A (wr x a1 a2 a3 a4 a5 a6 a7 cI cJ nD nR dv r cap ti va ev ed ec ad ac now) sz) (wr x a1 a2 a3 a4 a5 a6 a7 cI cJ nD nR dv r cap ti va ev ed ec ad ac now)) (va_A (wr x a1 a2 a3 a4 a5 a6 a7 cI cJ nD nR dv r cap ti va ev ed ec ad ac now) sz)) 1 6 (va_A (wr x a1 a2 a3 a4 a5 a6 a7 cI cJ nD nR dv r cap ti va ev ed ec ad ac now) sz) := by
  refine va_MetW (cc := cL_count) (maxL := 4) (ret := (some .int)) (hh := hhL_count) (by decide) rfl ?_
  intro p e s m args below meth c s₁ B hml hv
  obtain ⟨rfl, hsz, hP, hK, hD0, hok, hnk⟩ := hv
  subst hsz
  have hD := hD0.self (sz := s.heap.size)
  generalize hAe : va_A (wr x a1 a2 a3 a4 a5 a6 a7 cI cJ nD nR dv r cap ti va ev ed ec ad ac now) s.heap.size = A at hD ⊢
  have hx := B.exec
  have hb := B.bytes
  have hr := B.returns
  have hts := atoms_spec (ws := wsL_count) B.pre
  have hown : s.vm.findClass RL = some m.cls := findClass_of_methodNamed B.named
  have hlocks := B.notSynchronized
  have hall := fun (w : Cond) (h : w ∈ allw) => hts w (List.mem_cons_of_mem _ h)
  have hl := lv_entry ([.ref x, .int i, .ref q]) (n := 4) (Nat.le_of_ble_eq_true rfl)
  rw [lg_entry_eq]
  generalize (lg_sl ([.ref x, .int i, .ref q]) ++ List.replicate (4 - (lg_sl ([.ref x, .int i, .ref q])).length) Slot.unset).toArray = ls at hl ⊢
  have hl : lv_has ls 4 [(0, .ref x), (1, .int i), (2, .ref q)] := hl
  refine lv_aload_n hx hb dL_count_0 rfl (lv_at hl 2 rfl) ?_
  refine lv_iconst (v := 0) hx hb dL_count_1 (by decide) ?_
  refine lv_aload_n hx hb dL_count_2 rfl (lv_at hl 0 rfl) ?_
  refine lv_iload_n hx hb dL_count_3 rfl (lv_at hl 1 rfl) ?_
  refine xt_callV (As := [.int i]) (rest := [.int 0, .ref q]) ⟨hx, hb, hml, hown, hall⟩ (x_count l dC dI x a1 a2 a3 a4 a5 a6 a7 cI cJ nD nR dv r cap ti va ev ed ec ad ac now hst i hbad) (cwV 1 hall gL_35 rfl rfl rfl (by decide +kernel) ⟨Nat.le_of_ble_eq_true rfl, Nat.le_of_ble_eq_true rfl⟩) ⟨xk_blind, va_recv hK hP (ci := 0) (q0 := 0) rfl rfl, fun U hU hW => ⟨rfl, by rw [hU]; exact hP, va_K.moved hW.alike hK, xt_move hW (fun q _ => by rw [hU]) hok⟩⟩ rfl hl.1 rfl (lv_room (Nat.le_of_ble_eq_true rfl)) dL_count_4 ⟨Nat.le_of_ble_eq_true rfl, Nat.le_of_ble_eq_true rfl⟩ (fun q9 ce H h1 h2 h3 hz hk => ?_)
  refine xt_catch (own := RL) (name := "java/lang/IndexOutOfBoundsException") hown [] ⟨0, 9, 12, 21⟩ [] ((xt_table B (hts _ List.mem_cons_self)).trans rfl) (fun z hz => nomatch hz) (by decide) (by decide) (hall _ kw_190) (xt_at hok _ (by decide +kernel)) h1 h2 h3 ?_
  have hP := xt_P hP hk
  have hS : va_S A s.heap H [] := ⟨hz, fun q hq _ => hk q hq, fun _ h => nomatch h⟩
  refine lv_astore_n (lv' := [(3, .ref q9), (0, .ref x), (1, .int i), (2, .ref q)]) hx hb dL_count_12 rfl hl (by decide) rfl (fun ls hl => ?_)
  refine lv_iconst (v := 1) hx hb dL_count_13 (by decide) ?_
  refine tp_i (y := nI 1) (by decide) ?_
  exact W.iret (v := nI 1) hx hb hr (fun t9 ht hW => ⟨⟨nI 1, (), rfl, rfl, by rw [ht]; exact hP, va_K.moved hW.alike hK, hD⟩, hS.F ht⟩) hS.2.2 dL_count_14
set_option maxHeartbeats 4000000 in
set_option maxRecDepth 100000 in
theorem h_at1 (l : Launch) (dC : Nat → ClassId) (dI : Nat → Nat → Nat) (x a1 a2 a3 a4 a5 a6 a7 : Nat) (cI cJ : ClassId) (nD nR : Nat) (dv : Nat → Int64) (r : Nat → Nat) (cap : Nat) (ti va ev ed : Nat → Int64) (ec : Nat) (ad : Nat → Int32) (ac : Nat) (now : Int64) (hst : l.stackTraces = false) (q sz : Nat) (i : Int32) (hbad : i < 0 ∨ nI nD ≤ i) (j z : Int32) : Met l yL_at wsL_at ({ frames := 8, cells := 1, slots := 6, locals := 127 }) (va_Pc [.ref x, .int i, .int j, .int z, .ref q] (fun U => U.heap.size = sz ∧ va_P (dC, dI) vwCl (wr x a1 a2 a3 a4 a5 a6 a7 cI cJ nD nR dv r cap ti va ev ed ec ad ac now) U.heap ∧ va_K (dC, dI) vwCl [(cI, .int), (cJ, .long)] U ∧ va_D (fun _ => True) (wr x a1 a2 a3 a4 a5 a6 a7 cI cJ nD nR dv r cap ti va ev ed ec ad ac now) ∧ xt_ok U ∧ xt_nk U)) (va_Qi (fun (v : Int32) (_ : Unit) => v = nI 1) (fun _ t9 => va_P (dC, dI) vwCl (wr x a1 a2 a3 a4 a5 a6 a7 cI cJ nD nR dv r cap ti va ev ed ec ad ac now) t9.heap ∧ va_K (dC, dI) vwCl [(cI, .int), (cJ, .long)] t9 ∧ va_D (va_A (wr x a1 a2 a3 a4 a5 a6 a7 cI cJ nD nR dv r cap ti va ev ed ec ad ac now) sz) (wr x a1 a2 a3 a4 a5 a6 a7 cI cJ nD nR dv r cap ti va ev ed ec ad ac now)) (va_A (wr x a1 a2 a3 a4 a5 a6 a7 cI cJ nD nR dv r cap ti va ev ed ec ad ac now) sz)) 1 6 (va_A (wr x a1 a2 a3 a4 a5 a6 a7 cI cJ nD nR dv r cap ti va ev ed ec ad ac now) sz) := by
  refine va_MetW (cc := cL_at) (maxL := 6) (ret := (some .int)) (hh := hhL_at) (by decide) rfl ?_
  intro p e s m args below meth c s₁ B hml hv
  obtain ⟨rfl, hsz, hP, hK, hD0, hok, hnk⟩ := hv
  subst hsz
  have hD := hD0.self (sz := s.heap.size)
  generalize hAe : va_A (wr x a1 a2 a3 a4 a5 a6 a7 cI cJ nD nR dv r cap ti va ev ed ec ad ac now) s.heap.size = A at hD ⊢
  have hx := B.exec
  have hb := B.bytes
  have hr := B.returns
  have hts := atoms_spec (ws := wsL_at) B.pre
  have hown : s.vm.findClass RL = some m.cls := findClass_of_methodNamed B.named
  have hlocks := B.notSynchronized
  have hall := fun (w : Cond) (h : w ∈ allw) => hts w (List.mem_cons_of_mem _ h)
  have hl := lv_entry ([.ref x, .int i, .int j, .int z, .ref q]) (n := 6) (Nat.le_of_ble_eq_true rfl)
  rw [lg_entry_eq]
  generalize (lg_sl ([.ref x, .int i, .int j, .int z, .ref q]) ++ List.replicate (6 - (lg_sl ([.ref x, .int i, .int j, .int z, .ref q])).length) Slot.unset).toArray = ls at hl ⊢
  have hl : lv_has ls 6 [(0, .ref x), (1, .int i), (2, .int j), (3, .int z), (4, .ref q)] := hl
  refine lv_aload hx hb dL_at_0 (lv_at hl 4 rfl) ?_
  refine lv_iconst (v := 0) hx hb dL_at_2 (by decide) ?_
  refine lv_aload_n hx hb dL_at_3 rfl (lv_at hl 0 rfl) ?_
  refine lv_iload_n hx hb dL_at_4 rfl (lv_at hl 1 rfl) ?_
  refine lv_iload_n hx hb dL_at_5 rfl (lv_at hl 2 rfl) ?_
  refine lv_iload_n hx hb dL_at_6 rfl (lv_at hl 3 rfl) ?_
  refine xt_callV (As := [.int i, .int j, .int z]) (rest := [.int 0, .ref q]) ⟨hx, hb, hml, hown, hall⟩ (x_at l dC dI x a1 a2 a3 a4 a5 a6 a7 cI cJ nD nR dv r cap ti va ev ed ec ad ac now hst i hbad j z) (cwV 3 hall gL_39 rfl rfl rfl (by decide +kernel) ⟨Nat.le_of_ble_eq_true rfl, Nat.le_of_ble_eq_true rfl⟩) ⟨xk_blind, va_recv hK hP (ci := 0) (q0 := 0) rfl rfl, fun U hU hW => ⟨rfl, by rw [hU]; exact hP, va_K.moved hW.alike hK, xt_move hW (fun q _ => by rw [hU]) hok⟩⟩ rfl hl.1 rfl (lv_room (Nat.le_of_ble_eq_true rfl)) dL_at_7 ⟨Nat.le_of_ble_eq_true rfl, Nat.le_of_ble_eq_true rfl⟩ (fun q9 ce H h1 h2 h3 hz hk => ?_)
  refine xt_catch (own := RL) (name := "java/lang/IndexOutOfBoundsException") hown [] ⟨0, 11, 14, 21⟩ [] ((xt_table B (hts _ List.mem_cons_self)).trans rfl) (fun z hz => nomatch hz) (by decide) (by decide) (hall _ kw_190) (xt_at hok _ (by decide +kernel)) h1 h2 h3 ?_
  have hP := xt_P hP hk
  have hS : va_S A s.heap H [] := ⟨hz, fun q hq _ => hk q hq, fun _ h => nomatch h⟩
  refine lv_astore (lv' := [(5, .ref q9), (0, .ref x), (1, .int i), (2, .int j), (3, .int z), (4, .ref q)]) hx hb dL_at_14 hl (by decide) rfl (fun ls hl => ?_)
  refine lv_iconst (v := 1) hx hb dL_at_16 (by decide) ?_
  refine tp_i (y := nI 1) (by decide) ?_
  exact W.iret (v := nI 1) hx hb hr (fun t9 ht hW => ⟨⟨nI 1, (), rfl, rfl, by rw [ht]; exact hP, va_K.moved hW.alike hK, hD⟩, hS.F ht⟩) hS.2.2 dL_at_17
set_option maxHeartbeats 4000000 in
set_option maxRecDepth 100000 in
theorem h_at2 (l : Launch) (dC : Nat → ClassId) (dI : Nat → Nat → Nat) (x a1 a2 a3 a4 a5 a6 a7 : Nat) (cI cJ : ClassId) (nD nR : Nat) (dv : Nat → Int64) (r : Nat → Nat) (cap : Nat) (ti va ev ed : Nat → Int64) (ec : Nat) (ad : Nat → Int32) (ac : Nat) (now : Int64) (hst : l.stackTraces = false) (q sz : Nat) (hI : wf_R nD nR cap ec ac r) (d : Nat) (j z : Int32) (hd : d < nD) (hbad : j < 0 ∨ nI (r (d + 1) - r d) ≤ j) : Met l yL_at wsL_at ({ frames := 7, cells := 1, slots := 6, locals := 106 }) (va_Pc [.ref x, .int (nI d), .int j, .int z, .ref q] (fun U => U.heap.size = sz ∧ va_P (dC, dI) vwCl (wr x a1 a2 a3 a4 a5 a6 a7 cI cJ nD nR dv r cap ti va ev ed ec ad ac now) U.heap ∧ va_K (dC, dI) vwCl [(cI, .int), (cJ, .long)] U ∧ va_D (fun _ => True) (wr x a1 a2 a3 a4 a5 a6 a7 cI cJ nD nR dv r cap ti va ev ed ec ad ac now) ∧ xt_ok U ∧ xt_nk U)) (va_Qi (fun (v : Int32) (_ : Unit) => v = nI 1) (fun _ t9 => va_P (dC, dI) vwCl (wr x a1 a2 a3 a4 a5 a6 a7 cI cJ nD nR dv r cap ti va ev ed ec ad ac now) t9.heap ∧ va_K (dC, dI) vwCl [(cI, .int), (cJ, .long)] t9 ∧ va_D (va_A (wr x a1 a2 a3 a4 a5 a6 a7 cI cJ nD nR dv r cap ti va ev ed ec ad ac now) sz) (wr x a1 a2 a3 a4 a5 a6 a7 cI cJ nD nR dv r cap ti va ev ed ec ad ac now)) (va_A (wr x a1 a2 a3 a4 a5 a6 a7 cI cJ nD nR dv r cap ti va ev ed ec ad ac now) sz)) 1 6 (va_A (wr x a1 a2 a3 a4 a5 a6 a7 cI cJ nD nR dv r cap ti va ev ed ec ad ac now) sz) := by
  refine va_MetW (cc := cL_at) (maxL := 6) (ret := (some .int)) (hh := hhL_at) (by decide) rfl ?_
  intro p e s m args below meth c s₁ B hml hv
  obtain ⟨rfl, hsz, hP, hK, hD0, hok, hnk⟩ := hv
  subst hsz
  have hD := hD0.self (sz := s.heap.size)
  generalize hAe : va_A (wr x a1 a2 a3 a4 a5 a6 a7 cI cJ nD nR dv r cap ti va ev ed ec ad ac now) s.heap.size = A at hD ⊢
  have hx := B.exec
  have hb := B.bytes
  have hr := B.returns
  have hts := atoms_spec (ws := wsL_at) B.pre
  have hown : s.vm.findClass RL = some m.cls := findClass_of_methodNamed B.named
  have hlocks := B.notSynchronized
  have hall := fun (w : Cond) (h : w ∈ allw) => hts w (List.mem_cons_of_mem _ h)
  have hl := lv_entry ([.ref x, .int (nI d), .int j, .int z, .ref q]) (n := 6) (Nat.le_of_ble_eq_true rfl)
  rw [lg_entry_eq]
  generalize (lg_sl ([.ref x, .int (nI d), .int j, .int z, .ref q]) ++ List.replicate (6 - (lg_sl ([.ref x, .int (nI d), .int j, .int z, .ref q])).length) Slot.unset).toArray = ls at hl ⊢
  have hl : lv_has ls 6 [(0, .ref x), (1, .int (nI d)), (2, .int j), (3, .int z), (4, .ref q)] := hl
  refine lv_aload hx hb dL_at_0 (lv_at hl 4 rfl) ?_
  refine lv_iconst (v := 0) hx hb dL_at_2 (by decide) ?_
  refine lv_aload_n hx hb dL_at_3 rfl (lv_at hl 0 rfl) ?_
  refine lv_iload_n hx hb dL_at_4 rfl (lv_at hl 1 rfl) ?_
  refine lv_iload_n hx hb dL_at_5 rfl (lv_at hl 2 rfl) ?_
  refine lv_iload_n hx hb dL_at_6 rfl (lv_at hl 3 rfl) ?_
  refine xt_callV (As := [.int (nI d), .int j, .int z]) (rest := [.int 0, .ref q]) ⟨hx, hb, hml, hown, hall⟩ (x_at2 l dC dI x a1 a2 a3 a4 a5 a6 a7 cI cJ nD nR dv r cap ti va ev ed ec ad ac now hst hI d j z hd hbad) (cwV 3 hall gL_39 rfl rfl rfl (by decide +kernel) ⟨Nat.le_of_ble_eq_true rfl, Nat.le_of_ble_eq_true rfl⟩) ⟨xk_blind, va_recv hK hP (ci := 0) (q0 := 0) rfl rfl, fun U hU hW => ⟨rfl, by rw [hU]; exact hP, va_K.moved hW.alike hK, xt_move hW (fun q _ => by rw [hU]) hok⟩⟩ rfl hl.1 rfl (lv_room (Nat.le_of_ble_eq_true rfl)) dL_at_7 ⟨Nat.le_of_ble_eq_true rfl, Nat.le_of_ble_eq_true rfl⟩ (fun q9 ce H h1 h2 h3 hz hk => ?_)
  refine xt_catch (own := RL) (name := "java/lang/IndexOutOfBoundsException") hown [] ⟨0, 11, 14, 21⟩ [] ((xt_table B (hts _ List.mem_cons_self)).trans rfl) (fun z hz => nomatch hz) (by decide) (by decide) (hall _ kw_190) (xt_at hok _ (by decide +kernel)) h1 h2 h3 ?_
  have hP := xt_P hP hk
  have hS : va_S A s.heap H [] := ⟨hz, fun q hq _ => hk q hq, fun _ h => nomatch h⟩
  refine lv_astore (lv' := [(5, .ref q9), (0, .ref x), (1, .int (nI d)), (2, .int j), (3, .int z), (4, .ref q)]) hx hb dL_at_14 hl (by decide) rfl (fun ls hl => ?_)
  refine lv_iconst (v := 1) hx hb dL_at_16 (by decide) ?_
  refine tp_i (y := nI 1) (by decide) ?_
  exact W.iret (v := nI 1) hx hb hr (fun t9 ht hW => ⟨⟨nI 1, (), rfl, rfl, by rw [ht]; exact hP, va_K.moved hW.alike hK, hD⟩, hS.F ht⟩) hS.2.2 dL_at_17
set_option maxHeartbeats 4000000 in
set_option maxRecDepth 100000 in
theorem h_projected1 (l : Launch) (dC : Nat → ClassId) (dI : Nat → Nat → Nat) (x a1 a2 a3 a4 a5 a6 a7 : Nat) (cI cJ : ClassId) (nD nR : Nat) (dv : Nat → Int64) (r : Nat → Nat) (cap : Nat) (ti va ev ed : Nat → Int64) (ec : Nat) (ad : Nat → Int32) (ac : Nat) (now : Int64) (hst : l.stackTraces = false) (q sz : Nat) (i : Int32) (hbad : i < 0 ∨ nI nD ≤ i) (t : Int64) : Met l yL_projected wsL_projected ({ frames := 8, cells := 1, slots := 6, locals := 128 }) (va_Pc [.ref x, .int i, .long t, .ref q] (fun U => U.heap.size = sz ∧ va_P (dC, dI) vwCl (wr x a1 a2 a3 a4 a5 a6 a7 cI cJ nD nR dv r cap ti va ev ed ec ad ac now) U.heap ∧ va_K (dC, dI) vwCl [(cI, .int), (cJ, .long)] U ∧ va_D (fun _ => True) (wr x a1 a2 a3 a4 a5 a6 a7 cI cJ nD nR dv r cap ti va ev ed ec ad ac now) ∧ xt_ok U ∧ xt_nk U)) (va_Qi (fun (v : Int32) (_ : Unit) => v = nI 1) (fun _ t9 => va_P (dC, dI) vwCl (wr x a1 a2 a3 a4 a5 a6 a7 cI cJ nD nR dv r cap ti va ev ed ec ad ac now) t9.heap ∧ va_K (dC, dI) vwCl [(cI, .int), (cJ, .long)] t9 ∧ va_D (va_A (wr x a1 a2 a3 a4 a5 a6 a7 cI cJ nD nR dv r cap ti va ev ed ec ad ac now) sz) (wr x a1 a2 a3 a4 a5 a6 a7 cI cJ nD nR dv r cap ti va ev ed ec ad ac now)) (va_A (wr x a1 a2 a3 a4 a5 a6 a7 cI cJ nD nR dv r cap ti va ev ed ec ad ac now) sz)) 1 6 (va_A (wr x a1 a2 a3 a4 a5 a6 a7 cI cJ nD nR dv r cap ti va ev ed ec ad ac now) sz) := by
  refine va_MetW (cc := cL_projected) (maxL := 6) (ret := (some .int)) (hh := hhL_projected) (by decide) rfl ?_
  intro p e s m args below meth c s₁ B hml hv
  obtain ⟨rfl, hsz, hP, hK, hD0, hok, hnk⟩ := hv
  subst hsz
  have hD := hD0.self (sz := s.heap.size)
  generalize hAe : va_A (wr x a1 a2 a3 a4 a5 a6 a7 cI cJ nD nR dv r cap ti va ev ed ec ad ac now) s.heap.size = A at hD ⊢
  have hx := B.exec
  have hb := B.bytes
  have hr := B.returns
  have hts := atoms_spec (ws := wsL_projected) B.pre
  have hown : s.vm.findClass RL = some m.cls := findClass_of_methodNamed B.named
  have hlocks := B.notSynchronized
  have hall := fun (w : Cond) (h : w ∈ allw) => hts w (List.mem_cons_of_mem _ h)
  have hl := lv_entry ([.ref x, .int i, .long t, .ref q]) (n := 6) (Nat.le_of_ble_eq_true rfl)
  rw [lg_entry_eq]
  generalize (lg_sl ([.ref x, .int i, .long t, .ref q]) ++ List.replicate (6 - (lg_sl ([.ref x, .int i, .long t, .ref q])).length) Slot.unset).toArray = ls at hl ⊢
  have hl : lv_has ls 6 [(0, .ref x), (1, .int i), (2, .long t), (4, .ref q)] := hl
  refine lv_aload hx hb dL_projected_0 (lv_at hl 3 rfl) ?_
  refine lv_iconst (v := 0) hx hb dL_projected_2 (by decide) ?_
  refine lv_aload_n hx hb dL_projected_3 rfl (lv_at hl 0 rfl) ?_
  refine lv_iload_n hx hb dL_projected_4 rfl (lv_at hl 1 rfl) ?_
  refine lv_lload_n hx hb dL_projected_5 rfl (lv_at hl 2 rfl) ?_
  refine xt_callV (As := [.int i, .long t]) (rest := [.int 0, .ref q]) ⟨hx, hb, hml, hown, hall⟩ (x_projected l dC dI x a1 a2 a3 a4 a5 a6 a7 cI cJ nD nR dv r cap ti va ev ed ec ad ac now hst i hbad t) (cwV 2 hall gL_43 rfl rfl rfl (by decide +kernel) ⟨Nat.le_of_ble_eq_true rfl, Nat.le_of_ble_eq_true rfl⟩) ⟨xk_blind, va_recv hK hP (ci := 0) (q0 := 0) rfl rfl, fun U hU hW => ⟨rfl, by rw [hU]; exact hP, va_K.moved hW.alike hK, xt_move hW (fun q _ => by rw [hU]) hok⟩⟩ rfl hl.1 rfl (lv_room (Nat.le_of_ble_eq_true rfl)) dL_projected_6 ⟨Nat.le_of_ble_eq_true rfl, Nat.le_of_ble_eq_true rfl⟩ (fun q9 ce H h1 h2 h3 hz hk => ?_)
  refine xt_catch (own := RL) (name := "java/lang/IndexOutOfBoundsException") hown [] ⟨0, 10, 13, 21⟩ [⟨0, 10, 17, 13⟩] ((xt_table B (hts _ List.mem_cons_self)).trans rfl) (fun z hz => nomatch hz) (by decide) (by decide) (hall _ kw_190) (xt_at hok _ (by decide +kernel)) h1 h2 h3 ?_
  have hP := xt_P hP hk
  have hS : va_S A s.heap H [] := ⟨hz, fun q hq _ => hk q hq, fun _ h => nomatch h⟩
  refine lv_astore (lv' := [(5, .ref q9), (0, .ref x), (1, .int i), (2, .long t), (4, .ref q)]) hx hb dL_projected_13 hl (by decide) rfl (fun ls hl => ?_)
  refine lv_iconst (v := 1) hx hb dL_projected_15 (by decide) ?_
  refine tp_i (y := nI 1) (by decide) ?_
  exact W.iret (v := nI 1) hx hb hr (fun t9 ht hW => ⟨⟨nI 1, (), rfl, rfl, by rw [ht]; exact hP, va_K.moved hW.alike hK, hD⟩, hS.F ht⟩) hS.2.2 dL_projected_16
set_option maxHeartbeats 4000000 in
set_option maxRecDepth 100000 in
theorem h_projected2 (l : Launch) (dC : Nat → ClassId) (dI : Nat → Nat → Nat) (x a1 a2 a3 a4 a5 a6 a7 : Nat) (cI cJ : ClassId) (nD nR : Nat) (dv : Nat → Int64) (r : Nat → Nat) (cap : Nat) (ti va ev ed : Nat → Int64) (ec : Nat) (ad : Nat → Int32) (ac : Nat) (now : Int64) (hst : l.stackTraces = false) (q sz : Nat) (hI : wf_R nD nR cap ec ac r) (d : Nat) (t : Int64) (hd : d < nD) (hbad : t < now) : Met l yL_projected wsL_projected ({ frames := 7, cells := 1, slots := 6, locals := 107 }) (va_Pc [.ref x, .int (nI d), .long t, .ref q] (fun U => U.heap.size = sz ∧ va_P (dC, dI) vwCl (wr x a1 a2 a3 a4 a5 a6 a7 cI cJ nD nR dv r cap ti va ev ed ec ad ac now) U.heap ∧ va_K (dC, dI) vwCl [(cI, .int), (cJ, .long)] U ∧ va_D (fun _ => True) (wr x a1 a2 a3 a4 a5 a6 a7 cI cJ nD nR dv r cap ti va ev ed ec ad ac now) ∧ xt_ok U ∧ xt_nk U)) (va_Qi (fun (v : Int32) (_ : Unit) => v = nI 2) (fun _ t9 => va_P (dC, dI) vwCl (wr x a1 a2 a3 a4 a5 a6 a7 cI cJ nD nR dv r cap ti va ev ed ec ad ac now) t9.heap ∧ va_K (dC, dI) vwCl [(cI, .int), (cJ, .long)] t9 ∧ va_D (va_A (wr x a1 a2 a3 a4 a5 a6 a7 cI cJ nD nR dv r cap ti va ev ed ec ad ac now) sz) (wr x a1 a2 a3 a4 a5 a6 a7 cI cJ nD nR dv r cap ti va ev ed ec ad ac now)) (va_A (wr x a1 a2 a3 a4 a5 a6 a7 cI cJ nD nR dv r cap ti va ev ed ec ad ac now) sz)) 1 6 (va_A (wr x a1 a2 a3 a4 a5 a6 a7 cI cJ nD nR dv r cap ti va ev ed ec ad ac now) sz) := by
  refine va_MetW (cc := cL_projected) (maxL := 6) (ret := (some .int)) (hh := hhL_projected) (by decide) rfl ?_
  intro p e s m args below meth c s₁ B hml hv
  obtain ⟨rfl, hsz, hP, hK, hD0, hok, hnk⟩ := hv
  subst hsz
  have hD := hD0.self (sz := s.heap.size)
  generalize hAe : va_A (wr x a1 a2 a3 a4 a5 a6 a7 cI cJ nD nR dv r cap ti va ev ed ec ad ac now) s.heap.size = A at hD ⊢
  have hx := B.exec
  have hb := B.bytes
  have hr := B.returns
  have hts := atoms_spec (ws := wsL_projected) B.pre
  have hown : s.vm.findClass RL = some m.cls := findClass_of_methodNamed B.named
  have hlocks := B.notSynchronized
  have hall := fun (w : Cond) (h : w ∈ allw) => hts w (List.mem_cons_of_mem _ h)
  have hl := lv_entry ([.ref x, .int (nI d), .long t, .ref q]) (n := 6) (Nat.le_of_ble_eq_true rfl)
  rw [lg_entry_eq]
  generalize (lg_sl ([.ref x, .int (nI d), .long t, .ref q]) ++ List.replicate (6 - (lg_sl ([.ref x, .int (nI d), .long t, .ref q])).length) Slot.unset).toArray = ls at hl ⊢
  have hl : lv_has ls 6 [(0, .ref x), (1, .int (nI d)), (2, .long t), (4, .ref q)] := hl
  refine lv_aload hx hb dL_projected_0 (lv_at hl 3 rfl) ?_
  refine lv_iconst (v := 0) hx hb dL_projected_2 (by decide) ?_
  refine lv_aload_n hx hb dL_projected_3 rfl (lv_at hl 0 rfl) ?_
  refine lv_iload_n hx hb dL_projected_4 rfl (lv_at hl 1 rfl) ?_
  refine lv_lload_n hx hb dL_projected_5 rfl (lv_at hl 2 rfl) ?_
  refine xt_callV (As := [.int (nI d), .long t]) (rest := [.int 0, .ref q]) ⟨hx, hb, hml, hown, hall⟩ (x_projected2 l dC dI x a1 a2 a3 a4 a5 a6 a7 cI cJ nD nR dv r cap ti va ev ed ec ad ac now hst hI d t hd hbad) (cwV 2 hall gL_43 rfl rfl rfl (by decide +kernel) ⟨Nat.le_of_ble_eq_true rfl, Nat.le_of_ble_eq_true rfl⟩) ⟨xk_blind, va_recv hK hP (ci := 0) (q0 := 0) rfl rfl, fun U hU hW => ⟨rfl, by rw [hU]; exact hP, va_K.moved hW.alike hK, xt_move hW (fun q _ => by rw [hU]) hok⟩⟩ rfl hl.1 rfl (lv_room (Nat.le_of_ble_eq_true rfl)) dL_projected_6 ⟨Nat.le_of_ble_eq_true rfl, Nat.le_of_ble_eq_true rfl⟩ (fun q9 ce H h1 h2 h3 hz hk => ?_)
  refine xt_catch (own := RL) (name := "java/lang/IllegalArgumentException") hown [⟨0, 10, 13, 21⟩] ⟨0, 10, 17, 13⟩ [] ((xt_table B (hts _ List.mem_cons_self)).trans rfl) (fun z hz => by rw [List.mem_singleton.mp hz]; exact ⟨by decide, _, hall _ kw_190, hnk ("java/lang/IllegalArgumentException", "java/lang/IndexOutOfBoundsException") (by decide)⟩) (by decide) (by decide) (hall _ kw_96) (xt_at hok _ (by decide +kernel)) h1 h2 h3 ?_
  have hP := xt_P hP hk
  have hS : va_S A s.heap H [] := ⟨hz, fun q hq _ => hk q hq, fun _ h => nomatch h⟩
  refine lv_astore (lv' := [(5, .ref q9), (0, .ref x), (1, .int (nI d)), (2, .long t), (4, .ref q)]) hx hb dL_projected_17 hl (by decide) rfl (fun ls hl => ?_)
  refine lv_iconst (v := 2) hx hb dL_projected_19 (by decide) ?_
  refine tp_i (y := nI 2) (by decide) ?_
  exact W.iret (v := nI 2) hx hb hr (fun t9 ht hW => ⟨⟨nI 2, (), rfl, rfl, by rw [ht]; exact hP, va_K.moved hW.alike hK, hD⟩, hS.F ht⟩) hS.2.2 dL_projected_20
set_option maxHeartbeats 4000000 in
set_option maxRecDepth 100000 in
theorem h_element0 (l : Launch) (dC : Nat → ClassId) (dI : Nat → Nat → Nat) (x a1 a2 a3 a4 a5 a6 a7 : Nat) (cI cJ : ClassId) (nD nR : Nat) (dv : Nat → Int64) (r : Nat → Nat) (cap : Nat) (ti va ev ed : Nat → Int64) (ec : Nat) (ad : Nat → Int32) (ac : Nat) (now : Int64) (q : Nat) (ou : Nat → Int64) (sz : Nat) (hI : wf_R nD nR cap ec ac r) (v0 t : Int64) (h1 : ¬ t < 0) (h2 : ¬ 1152921504606846976 < t) (h3 : ec < 16) : Met l yL_element wsL_element ({ frames := 1, cells := 0, slots := 0, locals := 24 }) (va_Pc [.ref x, .long v0, .long t] (fun U => U.heap.size = sz ∧ va_P (dC, dI) vwCl [(x, .inr (0, [.int (nI nD), .int (nI nR), .ref a1, .ref a2, .ref a3, .ref a4, .ref a5, .ref a6, .int (nI ec), .ref a7, .int (nI ac), .long now])), (a1, .inl (cJ, nD, .inr (.inl dv))), (a2, .inl (cI, nD + 1, .inl (fun j => nI (r j)))), (a3, .inl (cJ, cap, .inr (.inl ti))), (a4, .inl (cJ, cap, .inr (.inl va))), (a5, .inl (cJ, 16, .inr (.inl ev))), (a6, .inl (cJ, 16, .inr (.inl ed))), (a7, .inl (cI, nD, .inl ad))] U.heap ∧ va_K (dC, dI) vwCl [(cI, .int), (cJ, .long)] U ∧ va_D (fun _ => True) [(x, .inr (0, [.int (nI nD), .int (nI nR), .ref a1, .ref a2, .ref a3, .ref a4, .ref a5, .ref a6, .int (nI ec), .ref a7, .int (nI ac), .long now])), (a1, .inl (cJ, nD, .inr (.inl dv))), (a2, .inl (cI, nD + 1, .inl (fun j => nI (r j)))), (a3, .inl (cJ, cap, .inr (.inl ti))), (a4, .inl (cJ, cap, .inr (.inl va))), (a5, .inl (cJ, 16, .inr (.inl ev))), (a6, .inl (cJ, 16, .inr (.inl ed))), (a7, .inl (cI, nD, .inl ad))])) (va_Qi (fun (v : Int32) (_ : Unit) => v = 0) (fun _ t9 => va_P (dC, dI) vwCl [(x, .inr (0, [.int (nI nD), .int (nI nR), .ref a1, .ref a2, .ref a3, .ref a4, .ref a5, .ref a6, .int (nI (ec + 1)), .ref a7, .int (nI ac), .long now])), (a1, .inl (cJ, nD, .inr (.inl dv))), (a2, .inl (cI, nD + 1, .inl (fun j => nI (r j)))), (a3, .inl (cJ, cap, .inr (.inl ti))), (a4, .inl (cJ, cap, .inr (.inl va))), (a5, .inl (cJ, 16, .inr (.inl (vp_updL ev ec v0)))), (a6, .inl (cJ, 16, .inr (.inl (vp_updL ed ec t)))), (a7, .inl (cI, nD, .inl ad))] t9.heap ∧ va_K (dC, dI) vwCl [(cI, .int), (cJ, .long)] t9 ∧ va_D (va_A [(x, .inr (0, [.int (nI nD), .int (nI nR), .ref a1, .ref a2, .ref a3, .ref a4, .ref a5, .ref a6, .int (nI ec), .ref a7, .int (nI ac), .long now])), (a1, .inl (cJ, nD, .inr (.inl dv))), (a2, .inl (cI, nD + 1, .inl (fun j => nI (r j)))), (a3, .inl (cJ, cap, .inr (.inl ti))), (a4, .inl (cJ, cap, .inr (.inl va))), (a5, .inl (cJ, 16, .inr (.inl ev))), (a6, .inl (cJ, 16, .inr (.inl ed))), (a7, .inl (cI, nD, .inl ad))] sz) [(x, .inr (0, [.int (nI nD), .int (nI nR), .ref a1, .ref a2, .ref a3, .ref a4, .ref a5, .ref a6, .int (nI (ec + 1)), .ref a7, .int (nI ac), .long now])), (a1, .inl (cJ, nD, .inr (.inl dv))), (a2, .inl (cI, nD + 1, .inl (fun j => nI (r j)))), (a3, .inl (cJ, cap, .inr (.inl ti))), (a4, .inl (cJ, cap, .inr (.inl va))), (a5, .inl (cJ, 16, .inr (.inl (vp_updL ev ec v0)))), (a6, .inl (cJ, 16, .inr (.inl (vp_updL ed ec t)))), (a7, .inl (cI, nD, .inl ad))]) (va_A [(x, .inr (0, [.int (nI nD), .int (nI nR), .ref a1, .ref a2, .ref a3, .ref a4, .ref a5, .ref a6, .int (nI ec), .ref a7, .int (nI ac), .long now])), (a1, .inl (cJ, nD, .inr (.inl dv))), (a2, .inl (cI, nD + 1, .inl (fun j => nI (r j)))), (a3, .inl (cJ, cap, .inr (.inl ti))), (a4, .inl (cJ, cap, .inr (.inl va))), (a5, .inl (cJ, 16, .inr (.inl ev))), (a6, .inl (cJ, 16, .inr (.inl ed))), (a7, .inl (cI, nD, .inl ad))] sz)) 0 0 (va_A [(x, .inr (0, [.int (nI nD), .int (nI nR), .ref a1, .ref a2, .ref a3, .ref a4, .ref a5, .ref a6, .int (nI ec), .ref a7, .int (nI ac), .long now])), (a1, .inl (cJ, nD, .inr (.inl dv))), (a2, .inl (cI, nD + 1, .inl (fun j => nI (r j)))), (a3, .inl (cJ, cap, .inr (.inl ti))), (a4, .inl (cJ, cap, .inr (.inl va))), (a5, .inl (cJ, 16, .inr (.inl ev))), (a6, .inl (cJ, 16, .inr (.inl ed))), (a7, .inl (cI, nD, .inl ad))] sz) := by
  refine va_MetW (cc := cL_element) (maxL := 6) (ret := (some .int)) (hh := hhL_element) (by decide) rfl ?_
  intro p e s m args below meth c s₁ B hml hv
  obtain ⟨rfl, hsz, hP, hK, hD0⟩ := hv
  subst hsz
  have hD := hD0.self (sz := s.heap.size)
  generalize hAe : va_A [(x, .inr (0, [.int (nI nD), .int (nI nR), .ref a1, .ref a2, .ref a3, .ref a4, .ref a5, .ref a6, .int (nI ec), .ref a7, .int (nI ac), .long now])), (a1, .inl (cJ, nD, .inr (.inl dv))), (a2, .inl (cI, nD + 1, .inl (fun j => nI (r j)))), (a3, .inl (cJ, cap, .inr (.inl ti))), (a4, .inl (cJ, cap, .inr (.inl va))), (a5, .inl (cJ, 16, .inr (.inl ev))), (a6, .inl (cJ, 16, .inr (.inl ed))), (a7, .inl (cI, nD, .inl ad))] s.heap.size = A at hD ⊢
  have hA : ∀ q : Nat, s.heap.size ≤ q → A q := fun q h => by rw [← hAe]; exact Or.inr h
  have hS : va_S A s.heap s.heap [] := va_S.rf
  have hx := B.exec
  have hb := B.bytes
  have hr := B.returns
  have hts := atoms_spec (ws := wsL_element) B.pre
  have hown : s.vm.findClass RL = some m.cls := findClass_of_methodNamed B.named
  have hlocks := B.notSynchronized
  have hall := fun (w : Cond) (h : w ∈ allw) => hts w (List.mem_cons_of_mem _ h)
  have hl := lv_entry ([.ref x, .long v0, .long t]) (n := 6) (Nat.le_of_ble_eq_true rfl)
  rw [lg_entry_eq]
  generalize (lg_sl ([.ref x, .long v0, .long t]) ++ List.replicate (6 - (lg_sl ([.ref x, .long v0, .long t])).length) Slot.unset).toArray = ls at hl ⊢
  have hl : lv_has ls 6 [(0, .ref x), (1, .long v0), (3, .long t)] := hl
  refine lv_aload_n hx hb dL_element_0 rfl (lv_at hl 0 rfl) ?_
  refine lv_lload_n hx hb dL_element_1 rfl (lv_at hl 1 rfl) ?_
  refine lv_lload_n hx hb dL_element_2 rfl (lv_at hl 2 rfl) ?_
  have hPc := hP.sub (ws' := [(x, .inr (0, [.int (nI nD), .int (nI nR), .ref a1, .ref a2, .ref a3, .ref a4, .ref a5, .ref a6, .int (nI ec), .ref a7, .int (nI ac), .long now])), (a1, .inl (cJ, nD, .inr (.inl dv))), (a2, .inl (cI, nD + 1, .inl (fun j => nI (r j)))), (a3, .inl (cJ, cap, .inr (.inl ti))), (a4, .inl (cJ, cap, .inr (.inl va))), (a5, .inl (cJ, 16, .inr (.inl ev))), (a6, .inl (cJ, 16, .inr (.inl ed))), (a7, .inl (cI, nD, .inl ad))]) [0, 1, 2, 3, 4, 5, 6, 7] rfl
  have hDc := hD.sub (ws' := [(x, .inr (0, [.int (nI nD), .int (nI nR), .ref a1, .ref a2, .ref a3, .ref a4, .ref a5, .ref a6, .int (nI ec), .ref a7, .int (nI ac), .long now])), (a1, .inl (cJ, nD, .inr (.inl dv))), (a2, .inl (cI, nD + 1, .inl (fun j => nI (r j)))), (a3, .inl (cJ, cap, .inr (.inl ti))), (a4, .inl (cJ, cap, .inr (.inl va))), (a5, .inl (cJ, 16, .inr (.inl ev))), (a6, .inl (cJ, 16, .inr (.inl ed))), (a7, .inl (cI, nD, .inl ad))]) [0, 1, 2, 3, 4, 5, 6, 7] (by decide) rfl
  have hFc := va_free (wc := [(x, .inr (0, [.int (nI nD), .int (nI nR), .ref a1, .ref a2, .ref a3, .ref a4, .ref a5, .ref a6, .int (nI ec), .ref a7, .int (nI ac), .long now])), (a1, .inl (cJ, nD, .inr (.inl dv))), (a2, .inl (cI, nD + 1, .inl (fun j => nI (r j)))), (a3, .inl (cJ, cap, .inr (.inl ti))), (a4, .inl (cJ, cap, .inr (.inl va))), (a5, .inl (cJ, 16, .inr (.inl ev))), (a6, .inl (cJ, 16, .inr (.inl ed))), (a7, .inl (cI, nD, .inl ad))]) hD hS hA [0, 1, 2, 3, 4, 5, 6, 7] rfl
  refine va_callv (va_runV (As := [.long v0, .long t]) (rest := []) ⟨hx, hb, hml, hown, hall⟩ (c_element l dC dI x a1 a2 a3 a4 a5 a6 a7 cI cJ nD nR dv r cap ti va ev ed ec ad ac now s.heap.size hI v0 t h1 h2 h3) (cwV 2 hall gL_7 rfl rfl rfl (by decide +kernel) ⟨Nat.le_of_ble_eq_true rfl, Nat.le_of_ble_eq_true rfl⟩) ⟨xu_blind, va_recv hK hPc (ci := 0) (q0 := 0) rfl rfl, fun U hU hW => ⟨rfl, by rw [hU], by rw [hU]; exact hPc, va_K.moved hW.alike hK, hDc.weaken (fun _ _ _ _ => trivial)⟩⟩ rfl rfl hl.1 rfl (lv_room (Nat.le_of_ble_eq_true rfl)) dL_element_3 ⟨Nat.le_of_ble_eq_true rfl, Nat.le_of_ble_eq_true rfl⟩) hS (fun q _ h => hFc q h) hFc (fun u t9 H1 locs ht9 hvm hw hB hz1 hk1 hS => ?_)
  obtain ⟨hP1, hK1, hD1⟩ := hB
  rw [ht9] at hP1
  obtain ⟨hP, hD⟩ := va_join (wr := []) (w1 := [(x, .inr (0, [.int (nI nD), .int (nI nR), .ref a1, .ref a2, .ref a3, .ref a4, .ref a5, .ref a6, .int (nI (ec + 1)), .ref a7, .int (nI ac), .long now])), (a1, .inl (cJ, nD, .inr (.inl dv))), (a2, .inl (cI, nD + 1, .inl (fun j => nI (r j)))), (a3, .inl (cJ, cap, .inr (.inl ti))), (a4, .inl (cJ, cap, .inr (.inl va))), (a5, .inl (cJ, 16, .inr (.inl (vp_updL ev ec v0)))), (a6, .inl (cJ, 16, .inr (.inl (vp_updL ed ec t)))), (a7, .inl (cI, nD, .inl ad))]) hP hD [0, 1, 2, 3, 4, 5, 6, 7] [] rfl rfl (by decide) (by decide) hk1 hFc hP1 hD1
  generalize H1 = H at hP hS ⊢
  have hP : va_P (dC, dI) vwCl [(x, .inr (0, [.int (nI nD), .int (nI nR), .ref a1, .ref a2, .ref a3, .ref a4, .ref a5, .ref a6, .int (nI (ec + 1)), .ref a7, .int (nI ac), .long now])), (a1, .inl (cJ, nD, .inr (.inl dv))), (a2, .inl (cI, nD + 1, .inl (fun j => nI (r j)))), (a3, .inl (cJ, cap, .inr (.inl ti))), (a4, .inl (cJ, cap, .inr (.inl va))), (a5, .inl (cJ, 16, .inr (.inl (vp_updL ev ec v0)))), (a6, .inl (cJ, 16, .inr (.inl (vp_updL ed ec t)))), (a7, .inl (cI, nD, .inl ad))] H := hP
  have hD : va_D A [(x, .inr (0, [.int (nI nD), .int (nI nR), .ref a1, .ref a2, .ref a3, .ref a4, .ref a5, .ref a6, .int (nI (ec + 1)), .ref a7, .int (nI ac), .long now])), (a1, .inl (cJ, nD, .inr (.inl dv))), (a2, .inl (cI, nD + 1, .inl (fun j => nI (r j)))), (a3, .inl (cJ, cap, .inr (.inl ti))), (a4, .inl (cJ, cap, .inr (.inl va))), (a5, .inl (cJ, 16, .inr (.inl (vp_updL ev ec v0)))), (a6, .inl (cJ, 16, .inr (.inl (vp_updL ed ec t)))), (a7, .inl (cI, nD, .inl ad))] := hD
  refine lv_goto (tgt := 17) hx hb dL_element_6 (by decide) ?_
  refine lv_iconst (v := 0) hx hb dL_element_17 (by decide) ?_
  exact W.iret (v := 0) hx hb hr (fun t9 ht hW => ⟨⟨0, (), rfl, rfl, by rw [ht]; exact hP, va_K.moved hW.alike hK, hD⟩, hS.F ht⟩) hS.2.2 dL_element_18
set_option maxHeartbeats 4000000 in
set_option maxRecDepth 100000 in
theorem h_value0 (l : Launch) (dC : Nat → ClassId) (dI : Nat → Nat → Nat) (x a1 a2 a3 a4 a5 a6 a7 : Nat) (cI cJ : ClassId) (nD nR : Nat) (dv : Nat → Int64) (r : Nat → Nat) (cap : Nat) (ti va ev ed : Nat → Int64) (ec : Nat) (ad : Nat → Int32) (ac : Nat) (now : Int64) (q : Nat) (ou : Nat → Int64) (sz : Nat) (hI : wf_R nD nR cap ec ac r) (d : Nat) (hd : d < nD) : Met l yL_value wsL_value ({ frames := 2, cells := 0, slots := 0, locals := 42 }) (va_Pc [.ref x, .int (nI d), .ref q] (fun U => U.heap.size = sz ∧ va_P (dC, dI) vwCl [(x, .inr (0, [.int (nI nD), .int (nI nR), .ref a1, .ref a2, .ref a3, .ref a4, .ref a5, .ref a6, .int (nI ec), .ref a7, .int (nI ac), .long now])), (a1, .inl (cJ, nD, .inr (.inl dv))), (a2, .inl (cI, nD + 1, .inl (fun j => nI (r j)))), (a3, .inl (cJ, cap, .inr (.inl ti))), (a4, .inl (cJ, cap, .inr (.inl va))), (a5, .inl (cJ, 16, .inr (.inl ev))), (a6, .inl (cJ, 16, .inr (.inl ed))), (a7, .inl (cI, nD, .inl ad)), (q, .inl (cJ, 1, .inr (.inl ou)))] U.heap ∧ va_K (dC, dI) vwCl [(cI, .int), (cJ, .long)] U ∧ va_D (fun _ => True) [(x, .inr (0, [.int (nI nD), .int (nI nR), .ref a1, .ref a2, .ref a3, .ref a4, .ref a5, .ref a6, .int (nI ec), .ref a7, .int (nI ac), .long now])), (a1, .inl (cJ, nD, .inr (.inl dv))), (a2, .inl (cI, nD + 1, .inl (fun j => nI (r j)))), (a3, .inl (cJ, cap, .inr (.inl ti))), (a4, .inl (cJ, cap, .inr (.inl va))), (a5, .inl (cJ, 16, .inr (.inl ev))), (a6, .inl (cJ, 16, .inr (.inl ed))), (a7, .inl (cI, nD, .inl ad)), (q, .inl (cJ, 1, .inr (.inl ou)))])) (va_Qi (fun (v : Int32) (_ : Unit) => v = 0) (fun _ t9 => va_P (dC, dI) vwCl [(x, .inr (0, [.int (nI nD), .int (nI nR), .ref a1, .ref a2, .ref a3, .ref a4, .ref a5, .ref a6, .int (nI ec), .ref a7, .int (nI ac), .long now])), (a1, .inl (cJ, nD, .inr (.inl dv))), (a2, .inl (cI, nD + 1, .inl (fun j => nI (r j)))), (a3, .inl (cJ, cap, .inr (.inl ti))), (a4, .inl (cJ, cap, .inr (.inl va))), (a5, .inl (cJ, 16, .inr (.inl ev))), (a6, .inl (cJ, 16, .inr (.inl ed))), (a7, .inl (cI, nD, .inl ad)), (q, .inl (cJ, 1, .inr (.inl (vp_updL ou 0 (dv d)))))] t9.heap ∧ va_K (dC, dI) vwCl [(cI, .int), (cJ, .long)] t9 ∧ va_D (va_A [(x, .inr (0, [.int (nI nD), .int (nI nR), .ref a1, .ref a2, .ref a3, .ref a4, .ref a5, .ref a6, .int (nI ec), .ref a7, .int (nI ac), .long now])), (a1, .inl (cJ, nD, .inr (.inl dv))), (a2, .inl (cI, nD + 1, .inl (fun j => nI (r j)))), (a3, .inl (cJ, cap, .inr (.inl ti))), (a4, .inl (cJ, cap, .inr (.inl va))), (a5, .inl (cJ, 16, .inr (.inl ev))), (a6, .inl (cJ, 16, .inr (.inl ed))), (a7, .inl (cI, nD, .inl ad)), (q, .inl (cJ, 1, .inr (.inl ou)))] sz) [(x, .inr (0, [.int (nI nD), .int (nI nR), .ref a1, .ref a2, .ref a3, .ref a4, .ref a5, .ref a6, .int (nI ec), .ref a7, .int (nI ac), .long now])), (a1, .inl (cJ, nD, .inr (.inl dv))), (a2, .inl (cI, nD + 1, .inl (fun j => nI (r j)))), (a3, .inl (cJ, cap, .inr (.inl ti))), (a4, .inl (cJ, cap, .inr (.inl va))), (a5, .inl (cJ, 16, .inr (.inl ev))), (a6, .inl (cJ, 16, .inr (.inl ed))), (a7, .inl (cI, nD, .inl ad)), (q, .inl (cJ, 1, .inr (.inl (vp_updL ou 0 (dv d)))))]) (va_A [(x, .inr (0, [.int (nI nD), .int (nI nR), .ref a1, .ref a2, .ref a3, .ref a4, .ref a5, .ref a6, .int (nI ec), .ref a7, .int (nI ac), .long now])), (a1, .inl (cJ, nD, .inr (.inl dv))), (a2, .inl (cI, nD + 1, .inl (fun j => nI (r j)))), (a3, .inl (cJ, cap, .inr (.inl ti))), (a4, .inl (cJ, cap, .inr (.inl va))), (a5, .inl (cJ, 16, .inr (.inl ev))), (a6, .inl (cJ, 16, .inr (.inl ed))), (a7, .inl (cI, nD, .inl ad)), (q, .inl (cJ, 1, .inr (.inl ou)))] sz)) 0 0 (va_A [(x, .inr (0, [.int (nI nD), .int (nI nR), .ref a1, .ref a2, .ref a3, .ref a4, .ref a5, .ref a6, .int (nI ec), .ref a7, .int (nI ac), .long now])), (a1, .inl (cJ, nD, .inr (.inl dv))), (a2, .inl (cI, nD + 1, .inl (fun j => nI (r j)))), (a3, .inl (cJ, cap, .inr (.inl ti))), (a4, .inl (cJ, cap, .inr (.inl va))), (a5, .inl (cJ, 16, .inr (.inl ev))), (a6, .inl (cJ, 16, .inr (.inl ed))), (a7, .inl (cI, nD, .inl ad)), (q, .inl (cJ, 1, .inr (.inl ou)))] sz) := by
  refine va_MetW (cc := cL_value) (maxL := 4) (ret := (some .int)) (hh := hhL_value) (by decide) rfl ?_
  intro p e s m args below meth c s₁ B hml hv
  obtain ⟨rfl, hsz, hP, hK, hD0⟩ := hv
  subst hsz
  have hD := hD0.self (sz := s.heap.size)
  generalize hAe : va_A [(x, .inr (0, [.int (nI nD), .int (nI nR), .ref a1, .ref a2, .ref a3, .ref a4, .ref a5, .ref a6, .int (nI ec), .ref a7, .int (nI ac), .long now])), (a1, .inl (cJ, nD, .inr (.inl dv))), (a2, .inl (cI, nD + 1, .inl (fun j => nI (r j)))), (a3, .inl (cJ, cap, .inr (.inl ti))), (a4, .inl (cJ, cap, .inr (.inl va))), (a5, .inl (cJ, 16, .inr (.inl ev))), (a6, .inl (cJ, 16, .inr (.inl ed))), (a7, .inl (cI, nD, .inl ad)), (q, .inl (cJ, 1, .inr (.inl ou)))] s.heap.size = A at hD ⊢
  have hA : ∀ q : Nat, s.heap.size ≤ q → A q := fun q h => by rw [← hAe]; exact Or.inr h
  have hS : va_S A s.heap s.heap [] := va_S.rf
  have hx := B.exec
  have hb := B.bytes
  have hr := B.returns
  have hts := atoms_spec (ws := wsL_value) B.pre
  have hown : s.vm.findClass RL = some m.cls := findClass_of_methodNamed B.named
  have hlocks := B.notSynchronized
  have hall := fun (w : Cond) (h : w ∈ allw) => hts w (List.mem_cons_of_mem _ h)
  have hl := lv_entry ([.ref x, .int (nI d), .ref q]) (n := 4) (Nat.le_of_ble_eq_true rfl)
  rw [lg_entry_eq]
  generalize (lg_sl ([.ref x, .int (nI d), .ref q]) ++ List.replicate (4 - (lg_sl ([.ref x, .int (nI d), .ref q])).length) Slot.unset).toArray = ls at hl ⊢
  have hl : lv_has ls 4 [(0, .ref x), (1, .int (nI d)), (2, .ref q)] := hl
  refine lv_aload_n hx hb dL_value_0 rfl (lv_at hl 2 rfl) ?_
  refine lv_iconst (v := 0) hx hb dL_value_1 (by decide) ?_
  refine tp_i (y := nI 0) nI_0.symm ?_
  refine lv_aload_n hx hb dL_value_2 rfl (lv_at hl 0 rfl) ?_
  refine lv_iload_n hx hb dL_value_3 rfl (lv_at hl 1 rfl) ?_
  have hPc := hP.sub (ws' := [(x, .inr (0, [.int (nI nD), .int (nI nR), .ref a1, .ref a2, .ref a3, .ref a4, .ref a5, .ref a6, .int (nI ec), .ref a7, .int (nI ac), .long now])), (a1, .inl (cJ, nD, .inr (.inl dv))), (a2, .inl (cI, nD + 1, .inl (fun j => nI (r j)))), (a3, .inl (cJ, cap, .inr (.inl ti))), (a4, .inl (cJ, cap, .inr (.inl va))), (a5, .inl (cJ, 16, .inr (.inl ev))), (a6, .inl (cJ, 16, .inr (.inl ed))), (a7, .inl (cI, nD, .inl ad))]) [0, 1, 2, 3, 4, 5, 6, 7] rfl
  refine vp_callSl (W.runV (As := [.int (nI d)]) (rest := [.int (nI 0), .ref q]) ⟨hx, hb, hml, hown, hall⟩ (c_value l dC dI x a1 a2 a3 a4 a5 a6 a7 cI cJ nD nR dv r cap ti va ev ed ec ad ac now hI d hd) (cwV 1 hall gL_31 rfl rfl rfl (by decide +kernel) ⟨Nat.le_of_ble_eq_true rfl, Nat.le_of_ble_eq_true rfl⟩) ⟨xr_blind, va_recv hK hPc (ci := 0) (q0 := 0) rfl rfl, fun U hU hW => ⟨rfl, by rw [hU]; exact hPc, va_K.moved hW.alike hK⟩⟩ rfl rfl hl.1 rfl (lv_room (Nat.le_of_ble_eq_true rfl)) dL_value_4 ⟨Nat.zero_le _, Nat.zero_le _⟩) (fun v_1 hv_2 => ?_)
  subst hv_2
  refine xa_last hx hb hK hP hD hS 8 1 rfl rfl (by omega) (by omega) dL_value_7 (fun H locs hP hD hS => ?_)
  have hP : va_P (dC, dI) vwCl [(x, .inr (0, [.int (nI nD), .int (nI nR), .ref a1, .ref a2, .ref a3, .ref a4, .ref a5, .ref a6, .int (nI ec), .ref a7, .int (nI ac), .long now])), (a1, .inl (cJ, nD, .inr (.inl dv))), (a2, .inl (cI, nD + 1, .inl (fun j => nI (r j)))), (a3, .inl (cJ, cap, .inr (.inl ti))), (a4, .inl (cJ, cap, .inr (.inl va))), (a5, .inl (cJ, 16, .inr (.inl ev))), (a6, .inl (cJ, 16, .inr (.inl ed))), (a7, .inl (cI, nD, .inl ad)), (q, .inl (cJ, 1, .inr (.inl (vp_updL ou 0 (dv d)))))] H := hP
  have hD : va_D A [(x, .inr (0, [.int (nI nD), .int (nI nR), .ref a1, .ref a2, .ref a3, .ref a4, .ref a5, .ref a6, .int (nI ec), .ref a7, .int (nI ac), .long now])), (a1, .inl (cJ, nD, .inr (.inl dv))), (a2, .inl (cI, nD + 1, .inl (fun j => nI (r j)))), (a3, .inl (cJ, cap, .inr (.inl ti))), (a4, .inl (cJ, cap, .inr (.inl va))), (a5, .inl (cJ, 16, .inr (.inl ev))), (a6, .inl (cJ, 16, .inr (.inl ed))), (a7, .inl (cI, nD, .inl ad)), (q, .inl (cJ, 1, .inr (.inl (vp_updL ou 0 (dv d)))))] := hD
  refine lv_goto (tgt := 14) hx hb dL_value_8 (by decide) ?_
  refine lv_iconst (v := 0) hx hb dL_value_14 (by decide) ?_
  exact W.iret (v := 0) hx hb hr (fun t9 ht hW => ⟨⟨0, (), rfl, rfl, by rw [ht]; exact hP, va_K.moved hW.alike hK, hD⟩, hS.F ht⟩) hS.2.2 dL_value_15
set_option maxHeartbeats 4000000 in
set_option maxRecDepth 100000 in
theorem h_count0 (l : Launch) (dC : Nat → ClassId) (dI : Nat → Nat → Nat) (x a1 a2 a3 a4 a5 a6 a7 : Nat) (cI cJ : ClassId) (nD nR : Nat) (dv : Nat → Int64) (r : Nat → Nat) (cap : Nat) (ti va ev ed : Nat → Int64) (ec : Nat) (ad : Nat → Int32) (ac : Nat) (now : Int64) (q : Nat) (ou : Nat → Int64) (sz : Nat) (hI : wf_R nD nR cap ec ac r) (d : Nat) (hd : d < nD) : Met l yL_count wsL_count ({ frames := 2, cells := 0, slots := 0, locals := 42 }) (va_Pc [.ref x, .int (nI d), .ref q] (fun U => U.heap.size = sz ∧ va_P (dC, dI) vwCl [(x, .inr (0, [.int (nI nD), .int (nI nR), .ref a1, .ref a2, .ref a3, .ref a4, .ref a5, .ref a6, .int (nI ec), .ref a7, .int (nI ac), .long now])), (a1, .inl (cJ, nD, .inr (.inl dv))), (a2, .inl (cI, nD + 1, .inl (fun j => nI (r j)))), (a3, .inl (cJ, cap, .inr (.inl ti))), (a4, .inl (cJ, cap, .inr (.inl va))), (a5, .inl (cJ, 16, .inr (.inl ev))), (a6, .inl (cJ, 16, .inr (.inl ed))), (a7, .inl (cI, nD, .inl ad)), (q, .inl (cJ, 1, .inr (.inl ou)))] U.heap ∧ va_K (dC, dI) vwCl [(cI, .int), (cJ, .long)] U ∧ va_D (fun _ => True) [(x, .inr (0, [.int (nI nD), .int (nI nR), .ref a1, .ref a2, .ref a3, .ref a4, .ref a5, .ref a6, .int (nI ec), .ref a7, .int (nI ac), .long now])), (a1, .inl (cJ, nD, .inr (.inl dv))), (a2, .inl (cI, nD + 1, .inl (fun j => nI (r j)))), (a3, .inl (cJ, cap, .inr (.inl ti))), (a4, .inl (cJ, cap, .inr (.inl va))), (a5, .inl (cJ, 16, .inr (.inl ev))), (a6, .inl (cJ, 16, .inr (.inl ed))), (a7, .inl (cI, nD, .inl ad)), (q, .inl (cJ, 1, .inr (.inl ou)))])) (va_Qi (fun (v : Int32) (_ : Unit) => v = 0) (fun _ t9 => va_P (dC, dI) vwCl [(x, .inr (0, [.int (nI nD), .int (nI nR), .ref a1, .ref a2, .ref a3, .ref a4, .ref a5, .ref a6, .int (nI ec), .ref a7, .int (nI ac), .long now])), (a1, .inl (cJ, nD, .inr (.inl dv))), (a2, .inl (cI, nD + 1, .inl (fun j => nI (r j)))), (a3, .inl (cJ, cap, .inr (.inl ti))), (a4, .inl (cJ, cap, .inr (.inl va))), (a5, .inl (cJ, 16, .inr (.inl ev))), (a6, .inl (cJ, 16, .inr (.inl ed))), (a7, .inl (cI, nD, .inl ad)), (q, .inl (cJ, 1, .inr (.inl (vp_updL ou 0 ((nI (r (d + 1) - r d)).toInt64)))))] t9.heap ∧ va_K (dC, dI) vwCl [(cI, .int), (cJ, .long)] t9 ∧ va_D (va_A [(x, .inr (0, [.int (nI nD), .int (nI nR), .ref a1, .ref a2, .ref a3, .ref a4, .ref a5, .ref a6, .int (nI ec), .ref a7, .int (nI ac), .long now])), (a1, .inl (cJ, nD, .inr (.inl dv))), (a2, .inl (cI, nD + 1, .inl (fun j => nI (r j)))), (a3, .inl (cJ, cap, .inr (.inl ti))), (a4, .inl (cJ, cap, .inr (.inl va))), (a5, .inl (cJ, 16, .inr (.inl ev))), (a6, .inl (cJ, 16, .inr (.inl ed))), (a7, .inl (cI, nD, .inl ad)), (q, .inl (cJ, 1, .inr (.inl ou)))] sz) [(x, .inr (0, [.int (nI nD), .int (nI nR), .ref a1, .ref a2, .ref a3, .ref a4, .ref a5, .ref a6, .int (nI ec), .ref a7, .int (nI ac), .long now])), (a1, .inl (cJ, nD, .inr (.inl dv))), (a2, .inl (cI, nD + 1, .inl (fun j => nI (r j)))), (a3, .inl (cJ, cap, .inr (.inl ti))), (a4, .inl (cJ, cap, .inr (.inl va))), (a5, .inl (cJ, 16, .inr (.inl ev))), (a6, .inl (cJ, 16, .inr (.inl ed))), (a7, .inl (cI, nD, .inl ad)), (q, .inl (cJ, 1, .inr (.inl (vp_updL ou 0 ((nI (r (d + 1) - r d)).toInt64)))))]) (va_A [(x, .inr (0, [.int (nI nD), .int (nI nR), .ref a1, .ref a2, .ref a3, .ref a4, .ref a5, .ref a6, .int (nI ec), .ref a7, .int (nI ac), .long now])), (a1, .inl (cJ, nD, .inr (.inl dv))), (a2, .inl (cI, nD + 1, .inl (fun j => nI (r j)))), (a3, .inl (cJ, cap, .inr (.inl ti))), (a4, .inl (cJ, cap, .inr (.inl va))), (a5, .inl (cJ, 16, .inr (.inl ev))), (a6, .inl (cJ, 16, .inr (.inl ed))), (a7, .inl (cI, nD, .inl ad)), (q, .inl (cJ, 1, .inr (.inl ou)))] sz)) 0 0 (va_A [(x, .inr (0, [.int (nI nD), .int (nI nR), .ref a1, .ref a2, .ref a3, .ref a4, .ref a5, .ref a6, .int (nI ec), .ref a7, .int (nI ac), .long now])), (a1, .inl (cJ, nD, .inr (.inl dv))), (a2, .inl (cI, nD + 1, .inl (fun j => nI (r j)))), (a3, .inl (cJ, cap, .inr (.inl ti))), (a4, .inl (cJ, cap, .inr (.inl va))), (a5, .inl (cJ, 16, .inr (.inl ev))), (a6, .inl (cJ, 16, .inr (.inl ed))), (a7, .inl (cI, nD, .inl ad)), (q, .inl (cJ, 1, .inr (.inl ou)))] sz) := by
  refine va_MetW (cc := cL_count) (maxL := 4) (ret := (some .int)) (hh := hhL_count) (by decide) rfl ?_
  intro p e s m args below meth c s₁ B hml hv
  obtain ⟨rfl, hsz, hP, hK, hD0⟩ := hv
  subst hsz
  have hD := hD0.self (sz := s.heap.size)
  generalize hAe : va_A [(x, .inr (0, [.int (nI nD), .int (nI nR), .ref a1, .ref a2, .ref a3, .ref a4, .ref a5, .ref a6, .int (nI ec), .ref a7, .int (nI ac), .long now])), (a1, .inl (cJ, nD, .inr (.inl dv))), (a2, .inl (cI, nD + 1, .inl (fun j => nI (r j)))), (a3, .inl (cJ, cap, .inr (.inl ti))), (a4, .inl (cJ, cap, .inr (.inl va))), (a5, .inl (cJ, 16, .inr (.inl ev))), (a6, .inl (cJ, 16, .inr (.inl ed))), (a7, .inl (cI, nD, .inl ad)), (q, .inl (cJ, 1, .inr (.inl ou)))] s.heap.size = A at hD ⊢
  have hA : ∀ q : Nat, s.heap.size ≤ q → A q := fun q h => by rw [← hAe]; exact Or.inr h
  have hS : va_S A s.heap s.heap [] := va_S.rf
  have hx := B.exec
  have hb := B.bytes
  have hr := B.returns
  have hts := atoms_spec (ws := wsL_count) B.pre
  have hown : s.vm.findClass RL = some m.cls := findClass_of_methodNamed B.named
  have hlocks := B.notSynchronized
  have hall := fun (w : Cond) (h : w ∈ allw) => hts w (List.mem_cons_of_mem _ h)
  have hl := lv_entry ([.ref x, .int (nI d), .ref q]) (n := 4) (Nat.le_of_ble_eq_true rfl)
  rw [lg_entry_eq]
  generalize (lg_sl ([.ref x, .int (nI d), .ref q]) ++ List.replicate (4 - (lg_sl ([.ref x, .int (nI d), .ref q])).length) Slot.unset).toArray = ls at hl ⊢
  have hl : lv_has ls 4 [(0, .ref x), (1, .int (nI d)), (2, .ref q)] := hl
  refine lv_aload_n hx hb dL_count_0 rfl (lv_at hl 2 rfl) ?_
  refine lv_iconst (v := 0) hx hb dL_count_1 (by decide) ?_
  refine tp_i (y := nI 0) nI_0.symm ?_
  refine lv_aload_n hx hb dL_count_2 rfl (lv_at hl 0 rfl) ?_
  refine lv_iload_n hx hb dL_count_3 rfl (lv_at hl 1 rfl) ?_
  have hPc := hP.sub (ws' := [(x, .inr (0, [.int (nI nD), .int (nI nR), .ref a1, .ref a2, .ref a3, .ref a4, .ref a5, .ref a6, .int (nI ec), .ref a7, .int (nI ac), .long now])), (a1, .inl (cJ, nD, .inr (.inl dv))), (a2, .inl (cI, nD + 1, .inl (fun j => nI (r j)))), (a3, .inl (cJ, cap, .inr (.inl ti))), (a4, .inl (cJ, cap, .inr (.inl va))), (a5, .inl (cJ, 16, .inr (.inl ev))), (a6, .inl (cJ, 16, .inr (.inl ed))), (a7, .inl (cI, nD, .inl ad))]) [0, 1, 2, 3, 4, 5, 6, 7] rfl
  refine vp_callSi (W.runV (As := [.int (nI d)]) (rest := [.int (nI 0), .ref q]) ⟨hx, hb, hml, hown, hall⟩ (c_count l dC dI x a1 a2 a3 a4 a5 a6 a7 cI cJ nD nR dv r cap ti va ev ed ec ad ac now hI d hd) (cwV 1 hall gL_35 rfl rfl rfl (by decide +kernel) ⟨Nat.le_of_ble_eq_true rfl, Nat.le_of_ble_eq_true rfl⟩) ⟨xr_blind, va_recv hK hPc (ci := 0) (q0 := 0) rfl rfl, fun U hU hW => ⟨rfl, by rw [hU]; exact hPc, va_K.moved hW.alike hK⟩⟩ rfl rfl hl.1 rfl (lv_room (Nat.le_of_ble_eq_true rfl)) dL_count_4 ⟨Nat.zero_le _, Nat.zero_le _⟩) (fun v_1 hv_2 => ?_)
  subst hv_2
  refine lv_i2l hx hb dL_count_7 rfl ?_
  refine xa_last hx hb hK hP hD hS 8 1 rfl rfl (by omega) (by omega) dL_count_8 (fun H locs hP hD hS => ?_)
  have hP : va_P (dC, dI) vwCl [(x, .inr (0, [.int (nI nD), .int (nI nR), .ref a1, .ref a2, .ref a3, .ref a4, .ref a5, .ref a6, .int (nI ec), .ref a7, .int (nI ac), .long now])), (a1, .inl (cJ, nD, .inr (.inl dv))), (a2, .inl (cI, nD + 1, .inl (fun j => nI (r j)))), (a3, .inl (cJ, cap, .inr (.inl ti))), (a4, .inl (cJ, cap, .inr (.inl va))), (a5, .inl (cJ, 16, .inr (.inl ev))), (a6, .inl (cJ, 16, .inr (.inl ed))), (a7, .inl (cI, nD, .inl ad)), (q, .inl (cJ, 1, .inr (.inl (vp_updL ou 0 ((nI (r (d + 1) - r d)).toInt64)))))] H := hP
  have hD : va_D A [(x, .inr (0, [.int (nI nD), .int (nI nR), .ref a1, .ref a2, .ref a3, .ref a4, .ref a5, .ref a6, .int (nI ec), .ref a7, .int (nI ac), .long now])), (a1, .inl (cJ, nD, .inr (.inl dv))), (a2, .inl (cI, nD + 1, .inl (fun j => nI (r j)))), (a3, .inl (cJ, cap, .inr (.inl ti))), (a4, .inl (cJ, cap, .inr (.inl va))), (a5, .inl (cJ, 16, .inr (.inl ev))), (a6, .inl (cJ, 16, .inr (.inl ed))), (a7, .inl (cI, nD, .inl ad)), (q, .inl (cJ, 1, .inr (.inl (vp_updL ou 0 ((nI (r (d + 1) - r d)).toInt64)))))] := hD
  refine lv_goto (tgt := 15) hx hb dL_count_9 (by decide) ?_
  refine lv_iconst (v := 0) hx hb dL_count_15 (by decide) ?_
  exact W.iret (v := 0) hx hb hr (fun t9 ht hW => ⟨⟨0, (), rfl, rfl, by rw [ht]; exact hP, va_K.moved hW.alike hK, hD⟩, hS.F ht⟩) hS.2.2 dL_count_16
set_option maxHeartbeats 4000000 in
set_option maxRecDepth 100000 in
theorem h_at0 (l : Launch) (dC : Nat → ClassId) (dI : Nat → Nat → Nat) (x a1 a2 a3 a4 a5 a6 a7 : Nat) (cI cJ : ClassId) (nD nR : Nat) (dv : Nat → Int64) (r : Nat → Nat) (cap : Nat) (ti va ev ed : Nat → Int64) (ec : Nat) (ad : Nat → Int32) (ac : Nat) (now : Int64) (q : Nat) (ou : Nat → Int64) (sz : Nat) (hI : wf_R nD nR cap ec ac r) (d k : Nat) (z : Int32) (hd : d < nD) (hq : k < r (d + 1) - r d) : Met l yL_at wsL_at ({ frames := 2, cells := 0, slots := 0, locals := 45 }) (va_Pc [.ref x, .int (nI d), .int (nI k), .int z, .ref q] (fun U => U.heap.size = sz ∧ va_P (dC, dI) vwCl [(x, .inr (0, [.int (nI nD), .int (nI nR), .ref a1, .ref a2, .ref a3, .ref a4, .ref a5, .ref a6, .int (nI ec), .ref a7, .int (nI ac), .long now])), (a1, .inl (cJ, nD, .inr (.inl dv))), (a2, .inl (cI, nD + 1, .inl (fun j => nI (r j)))), (a3, .inl (cJ, cap, .inr (.inl ti))), (a4, .inl (cJ, cap, .inr (.inl va))), (a5, .inl (cJ, 16, .inr (.inl ev))), (a6, .inl (cJ, 16, .inr (.inl ed))), (a7, .inl (cI, nD, .inl ad)), (q, .inl (cJ, 1, .inr (.inl ou)))] U.heap ∧ va_K (dC, dI) vwCl [(cI, .int), (cJ, .long)] U ∧ va_D (fun _ => True) [(x, .inr (0, [.int (nI nD), .int (nI nR), .ref a1, .ref a2, .ref a3, .ref a4, .ref a5, .ref a6, .int (nI ec), .ref a7, .int (nI ac), .long now])), (a1, .inl (cJ, nD, .inr (.inl dv))), (a2, .inl (cI, nD + 1, .inl (fun j => nI (r j)))), (a3, .inl (cJ, cap, .inr (.inl ti))), (a4, .inl (cJ, cap, .inr (.inl va))), (a5, .inl (cJ, 16, .inr (.inl ev))), (a6, .inl (cJ, 16, .inr (.inl ed))), (a7, .inl (cI, nD, .inl ad)), (q, .inl (cJ, 1, .inr (.inl ou)))])) (va_Qi (fun (v : Int32) (_ : Unit) => v = 0) (fun _ t9 => va_P (dC, dI) vwCl [(x, .inr (0, [.int (nI nD), .int (nI nR), .ref a1, .ref a2, .ref a3, .ref a4, .ref a5, .ref a6, .int (nI ec), .ref a7, .int (nI ac), .long now])), (a1, .inl (cJ, nD, .inr (.inl dv))), (a2, .inl (cI, nD + 1, .inl (fun j => nI (r j)))), (a3, .inl (cJ, cap, .inr (.inl ti))), (a4, .inl (cJ, cap, .inr (.inl va))), (a5, .inl (cJ, 16, .inr (.inl ev))), (a6, .inl (cJ, 16, .inr (.inl ed))), (a7, .inl (cI, nD, .inl ad)), (q, .inl (cJ, 1, .inr (.inl (vp_updL ou 0 (if z = 0 then va (r d + k) else ti (r d + k))))))] t9.heap ∧ va_K (dC, dI) vwCl [(cI, .int), (cJ, .long)] t9 ∧ va_D (va_A [(x, .inr (0, [.int (nI nD), .int (nI nR), .ref a1, .ref a2, .ref a3, .ref a4, .ref a5, .ref a6, .int (nI ec), .ref a7, .int (nI ac), .long now])), (a1, .inl (cJ, nD, .inr (.inl dv))), (a2, .inl (cI, nD + 1, .inl (fun j => nI (r j)))), (a3, .inl (cJ, cap, .inr (.inl ti))), (a4, .inl (cJ, cap, .inr (.inl va))), (a5, .inl (cJ, 16, .inr (.inl ev))), (a6, .inl (cJ, 16, .inr (.inl ed))), (a7, .inl (cI, nD, .inl ad)), (q, .inl (cJ, 1, .inr (.inl ou)))] sz) [(x, .inr (0, [.int (nI nD), .int (nI nR), .ref a1, .ref a2, .ref a3, .ref a4, .ref a5, .ref a6, .int (nI ec), .ref a7, .int (nI ac), .long now])), (a1, .inl (cJ, nD, .inr (.inl dv))), (a2, .inl (cI, nD + 1, .inl (fun j => nI (r j)))), (a3, .inl (cJ, cap, .inr (.inl ti))), (a4, .inl (cJ, cap, .inr (.inl va))), (a5, .inl (cJ, 16, .inr (.inl ev))), (a6, .inl (cJ, 16, .inr (.inl ed))), (a7, .inl (cI, nD, .inl ad)), (q, .inl (cJ, 1, .inr (.inl (vp_updL ou 0 (if z = 0 then va (r d + k) else ti (r d + k))))))]) (va_A [(x, .inr (0, [.int (nI nD), .int (nI nR), .ref a1, .ref a2, .ref a3, .ref a4, .ref a5, .ref a6, .int (nI ec), .ref a7, .int (nI ac), .long now])), (a1, .inl (cJ, nD, .inr (.inl dv))), (a2, .inl (cI, nD + 1, .inl (fun j => nI (r j)))), (a3, .inl (cJ, cap, .inr (.inl ti))), (a4, .inl (cJ, cap, .inr (.inl va))), (a5, .inl (cJ, 16, .inr (.inl ev))), (a6, .inl (cJ, 16, .inr (.inl ed))), (a7, .inl (cI, nD, .inl ad)), (q, .inl (cJ, 1, .inr (.inl ou)))] sz)) 0 0 (va_A [(x, .inr (0, [.int (nI nD), .int (nI nR), .ref a1, .ref a2, .ref a3, .ref a4, .ref a5, .ref a6, .int (nI ec), .ref a7, .int (nI ac), .long now])), (a1, .inl (cJ, nD, .inr (.inl dv))), (a2, .inl (cI, nD + 1, .inl (fun j => nI (r j)))), (a3, .inl (cJ, cap, .inr (.inl ti))), (a4, .inl (cJ, cap, .inr (.inl va))), (a5, .inl (cJ, 16, .inr (.inl ev))), (a6, .inl (cJ, 16, .inr (.inl ed))), (a7, .inl (cI, nD, .inl ad)), (q, .inl (cJ, 1, .inr (.inl ou)))] sz) := by
  refine va_MetW (cc := cL_at) (maxL := 6) (ret := (some .int)) (hh := hhL_at) (by decide) rfl ?_
  intro p e s m args below meth c s₁ B hml hv
  obtain ⟨rfl, hsz, hP, hK, hD0⟩ := hv
  subst hsz
  have hD := hD0.self (sz := s.heap.size)
  generalize hAe : va_A [(x, .inr (0, [.int (nI nD), .int (nI nR), .ref a1, .ref a2, .ref a3, .ref a4, .ref a5, .ref a6, .int (nI ec), .ref a7, .int (nI ac), .long now])), (a1, .inl (cJ, nD, .inr (.inl dv))), (a2, .inl (cI, nD + 1, .inl (fun j => nI (r j)))), (a3, .inl (cJ, cap, .inr (.inl ti))), (a4, .inl (cJ, cap, .inr (.inl va))), (a5, .inl (cJ, 16, .inr (.inl ev))), (a6, .inl (cJ, 16, .inr (.inl ed))), (a7, .inl (cI, nD, .inl ad)), (q, .inl (cJ, 1, .inr (.inl ou)))] s.heap.size = A at hD ⊢
  have hA : ∀ q : Nat, s.heap.size ≤ q → A q := fun q h => by rw [← hAe]; exact Or.inr h
  have hS : va_S A s.heap s.heap [] := va_S.rf
  have hx := B.exec
  have hb := B.bytes
  have hr := B.returns
  have hts := atoms_spec (ws := wsL_at) B.pre
  have hown : s.vm.findClass RL = some m.cls := findClass_of_methodNamed B.named
  have hlocks := B.notSynchronized
  have hall := fun (w : Cond) (h : w ∈ allw) => hts w (List.mem_cons_of_mem _ h)
  have hl := lv_entry ([.ref x, .int (nI d), .int (nI k), .int z, .ref q]) (n := 6) (Nat.le_of_ble_eq_true rfl)
  rw [lg_entry_eq]
  generalize (lg_sl ([.ref x, .int (nI d), .int (nI k), .int z, .ref q]) ++ List.replicate (6 - (lg_sl ([.ref x, .int (nI d), .int (nI k), .int z, .ref q])).length) Slot.unset).toArray = ls at hl ⊢
  have hl : lv_has ls 6 [(0, .ref x), (1, .int (nI d)), (2, .int (nI k)), (3, .int z), (4, .ref q)] := hl
  refine lv_aload hx hb dL_at_0 (lv_at hl 4 rfl) ?_
  refine lv_iconst (v := 0) hx hb dL_at_2 (by decide) ?_
  refine tp_i (y := nI 0) nI_0.symm ?_
  refine lv_aload_n hx hb dL_at_3 rfl (lv_at hl 0 rfl) ?_
  refine lv_iload_n hx hb dL_at_4 rfl (lv_at hl 1 rfl) ?_
  refine lv_iload_n hx hb dL_at_5 rfl (lv_at hl 2 rfl) ?_
  refine lv_iload_n hx hb dL_at_6 rfl (lv_at hl 3 rfl) ?_
  have hPc := hP.sub (ws' := [(x, .inr (0, [.int (nI nD), .int (nI nR), .ref a1, .ref a2, .ref a3, .ref a4, .ref a5, .ref a6, .int (nI ec), .ref a7, .int (nI ac), .long now])), (a1, .inl (cJ, nD, .inr (.inl dv))), (a2, .inl (cI, nD + 1, .inl (fun j => nI (r j)))), (a3, .inl (cJ, cap, .inr (.inl ti))), (a4, .inl (cJ, cap, .inr (.inl va))), (a5, .inl (cJ, 16, .inr (.inl ev))), (a6, .inl (cJ, 16, .inr (.inl ed))), (a7, .inl (cI, nD, .inl ad))]) [0, 1, 2, 3, 4, 5, 6, 7] rfl
  refine vp_callSl (W.runV (As := [.int (nI d), .int (nI k), .int z]) (rest := [.int (nI 0), .ref q]) ⟨hx, hb, hml, hown, hall⟩ (c_at l dC dI x a1 a2 a3 a4 a5 a6 a7 cI cJ nD nR dv r cap ti va ev ed ec ad ac now hI d k z hd hq) (cwV 3 hall gL_39 rfl rfl rfl (by decide +kernel) ⟨Nat.le_of_ble_eq_true rfl, Nat.le_of_ble_eq_true rfl⟩) ⟨xr_blind, va_recv hK hPc (ci := 0) (q0 := 0) rfl rfl, fun U hU hW => ⟨rfl, by rw [hU]; exact hPc, va_K.moved hW.alike hK⟩⟩ rfl rfl hl.1 rfl (lv_room (Nat.le_of_ble_eq_true rfl)) dL_at_7 ⟨Nat.zero_le _, Nat.zero_le _⟩) (fun v_1 hv_2 => ?_)
  subst hv_2
  refine xa_last hx hb hK hP hD hS 8 1 rfl rfl (by omega) (by omega) dL_at_10 (fun H locs hP hD hS => ?_)
  have hP : va_P (dC, dI) vwCl [(x, .inr (0, [.int (nI nD), .int (nI nR), .ref a1, .ref a2, .ref a3, .ref a4, .ref a5, .ref a6, .int (nI ec), .ref a7, .int (nI ac), .long now])), (a1, .inl (cJ, nD, .inr (.inl dv))), (a2, .inl (cI, nD + 1, .inl (fun j => nI (r j)))), (a3, .inl (cJ, cap, .inr (.inl ti))), (a4, .inl (cJ, cap, .inr (.inl va))), (a5, .inl (cJ, 16, .inr (.inl ev))), (a6, .inl (cJ, 16, .inr (.inl ed))), (a7, .inl (cI, nD, .inl ad)), (q, .inl (cJ, 1, .inr (.inl (vp_updL ou 0 (if z = 0 then va (r d + k) else ti (r d + k))))))] H := hP
  have hD : va_D A [(x, .inr (0, [.int (nI nD), .int (nI nR), .ref a1, .ref a2, .ref a3, .ref a4, .ref a5, .ref a6, .int (nI ec), .ref a7, .int (nI ac), .long now])), (a1, .inl (cJ, nD, .inr (.inl dv))), (a2, .inl (cI, nD + 1, .inl (fun j => nI (r j)))), (a3, .inl (cJ, cap, .inr (.inl ti))), (a4, .inl (cJ, cap, .inr (.inl va))), (a5, .inl (cJ, 16, .inr (.inl ev))), (a6, .inl (cJ, 16, .inr (.inl ed))), (a7, .inl (cI, nD, .inl ad)), (q, .inl (cJ, 1, .inr (.inl (vp_updL ou 0 (if z = 0 then va (r d + k) else ti (r d + k))))))] := hD
  refine lv_goto (tgt := 18) hx hb dL_at_11 (by decide) ?_
  refine lv_iconst (v := 0) hx hb dL_at_18 (by decide) ?_
  exact W.iret (v := 0) hx hb hr (fun t9 ht hW => ⟨⟨0, (), rfl, rfl, by rw [ht]; exact hP, va_K.moved hW.alike hK, hD⟩, hS.F ht⟩) hS.2.2 dL_at_19
set_option maxHeartbeats 4000000 in
set_option maxRecDepth 100000 in
theorem h_projected0 (l : Launch) (dC : Nat → ClassId) (dI : Nat → Nat → Nat) (x a1 a2 a3 a4 a5 a6 a7 : Nat) (cI cJ : ClassId) (nD nR : Nat) (dv : Nat → Int64) (r : Nat → Nat) (cap : Nat) (ti va ev ed : Nat → Int64) (ec : Nat) (ad : Nat → Int32) (ac : Nat) (now : Int64) (q : Nat) (ou : Nat → Int64) (sz : Nat) (hI : wf_R nD nR cap ec ac r) (d : Nat) (t : Int64) (hd : d < nD) (ht : ¬ t < now) : Met l yL_projected wsL_projected ({ frames := 2, cells := 0, slots := 0, locals := 50 }) (va_Pc [.ref x, .int (nI d), .long t, .ref q] (fun U => U.heap.size = sz ∧ va_P (dC, dI) vwCl [(x, .inr (0, [.int (nI nD), .int (nI nR), .ref a1, .ref a2, .ref a3, .ref a4, .ref a5, .ref a6, .int (nI ec), .ref a7, .int (nI ac), .long now])), (a1, .inl (cJ, nD, .inr (.inl dv))), (a2, .inl (cI, nD + 1, .inl (fun j => nI (r j)))), (a3, .inl (cJ, cap, .inr (.inl ti))), (a4, .inl (cJ, cap, .inr (.inl va))), (a5, .inl (cJ, 16, .inr (.inl ev))), (a6, .inl (cJ, 16, .inr (.inl ed))), (a7, .inl (cI, nD, .inl ad)), (q, .inl (cJ, 1, .inr (.inl ou)))] U.heap ∧ va_K (dC, dI) vwCl [(cI, .int), (cJ, .long)] U ∧ va_D (fun _ => True) [(x, .inr (0, [.int (nI nD), .int (nI nR), .ref a1, .ref a2, .ref a3, .ref a4, .ref a5, .ref a6, .int (nI ec), .ref a7, .int (nI ac), .long now])), (a1, .inl (cJ, nD, .inr (.inl dv))), (a2, .inl (cI, nD + 1, .inl (fun j => nI (r j)))), (a3, .inl (cJ, cap, .inr (.inl ti))), (a4, .inl (cJ, cap, .inr (.inl va))), (a5, .inl (cJ, 16, .inr (.inl ev))), (a6, .inl (cJ, 16, .inr (.inl ed))), (a7, .inl (cI, nD, .inl ad)), (q, .inl (cJ, 1, .inr (.inl ou)))])) (va_Qi (fun (v : Int32) (_ : Unit) => v = 0) (fun _ t9 => va_P (dC, dI) vwCl [(x, .inr (0, [.int (nI nD), .int (nI nR), .ref a1, .ref a2, .ref a3, .ref a4, .ref a5, .ref a6, .int (nI ec), .ref a7, .int (nI ac), .long now])), (a1, .inl (cJ, nD, .inr (.inl dv))), (a2, .inl (cI, nD + 1, .inl (fun j => nI (r j)))), (a3, .inl (cJ, cap, .inr (.inl ti))), (a4, .inl (cJ, cap, .inr (.inl va))), (a5, .inl (cJ, 16, .inr (.inl ev))), (a6, .inl (cJ, 16, .inr (.inl ed))), (a7, .inl (cI, nD, .inl ad)), (q, .inl (cJ, 1, .inr (.inl (vp_updL ou 0 (if wf_fb ti t (r (d + 1) - r d) (r d) ≤ r d then dv d else va (wf_fb ti t (r (d + 1) - r d) (r d) - 1))))))] t9.heap ∧ va_K (dC, dI) vwCl [(cI, .int), (cJ, .long)] t9 ∧ va_D (va_A [(x, .inr (0, [.int (nI nD), .int (nI nR), .ref a1, .ref a2, .ref a3, .ref a4, .ref a5, .ref a6, .int (nI ec), .ref a7, .int (nI ac), .long now])), (a1, .inl (cJ, nD, .inr (.inl dv))), (a2, .inl (cI, nD + 1, .inl (fun j => nI (r j)))), (a3, .inl (cJ, cap, .inr (.inl ti))), (a4, .inl (cJ, cap, .inr (.inl va))), (a5, .inl (cJ, 16, .inr (.inl ev))), (a6, .inl (cJ, 16, .inr (.inl ed))), (a7, .inl (cI, nD, .inl ad)), (q, .inl (cJ, 1, .inr (.inl ou)))] sz) [(x, .inr (0, [.int (nI nD), .int (nI nR), .ref a1, .ref a2, .ref a3, .ref a4, .ref a5, .ref a6, .int (nI ec), .ref a7, .int (nI ac), .long now])), (a1, .inl (cJ, nD, .inr (.inl dv))), (a2, .inl (cI, nD + 1, .inl (fun j => nI (r j)))), (a3, .inl (cJ, cap, .inr (.inl ti))), (a4, .inl (cJ, cap, .inr (.inl va))), (a5, .inl (cJ, 16, .inr (.inl ev))), (a6, .inl (cJ, 16, .inr (.inl ed))), (a7, .inl (cI, nD, .inl ad)), (q, .inl (cJ, 1, .inr (.inl (vp_updL ou 0 (if wf_fb ti t (r (d + 1) - r d) (r d) ≤ r d then dv d else va (wf_fb ti t (r (d + 1) - r d) (r d) - 1))))))]) (va_A [(x, .inr (0, [.int (nI nD), .int (nI nR), .ref a1, .ref a2, .ref a3, .ref a4, .ref a5, .ref a6, .int (nI ec), .ref a7, .int (nI ac), .long now])), (a1, .inl (cJ, nD, .inr (.inl dv))), (a2, .inl (cI, nD + 1, .inl (fun j => nI (r j)))), (a3, .inl (cJ, cap, .inr (.inl ti))), (a4, .inl (cJ, cap, .inr (.inl va))), (a5, .inl (cJ, 16, .inr (.inl ev))), (a6, .inl (cJ, 16, .inr (.inl ed))), (a7, .inl (cI, nD, .inl ad)), (q, .inl (cJ, 1, .inr (.inl ou)))] sz)) 0 0 (va_A [(x, .inr (0, [.int (nI nD), .int (nI nR), .ref a1, .ref a2, .ref a3, .ref a4, .ref a5, .ref a6, .int (nI ec), .ref a7, .int (nI ac), .long now])), (a1, .inl (cJ, nD, .inr (.inl dv))), (a2, .inl (cI, nD + 1, .inl (fun j => nI (r j)))), (a3, .inl (cJ, cap, .inr (.inl ti))), (a4, .inl (cJ, cap, .inr (.inl va))), (a5, .inl (cJ, 16, .inr (.inl ev))), (a6, .inl (cJ, 16, .inr (.inl ed))), (a7, .inl (cI, nD, .inl ad)), (q, .inl (cJ, 1, .inr (.inl ou)))] sz) := by
  refine va_MetW (cc := cL_projected) (maxL := 6) (ret := (some .int)) (hh := hhL_projected) (by decide) rfl ?_
  intro p e s m args below meth c s₁ B hml hv
  obtain ⟨rfl, hsz, hP, hK, hD0⟩ := hv
  subst hsz
  have hD := hD0.self (sz := s.heap.size)
  generalize hAe : va_A [(x, .inr (0, [.int (nI nD), .int (nI nR), .ref a1, .ref a2, .ref a3, .ref a4, .ref a5, .ref a6, .int (nI ec), .ref a7, .int (nI ac), .long now])), (a1, .inl (cJ, nD, .inr (.inl dv))), (a2, .inl (cI, nD + 1, .inl (fun j => nI (r j)))), (a3, .inl (cJ, cap, .inr (.inl ti))), (a4, .inl (cJ, cap, .inr (.inl va))), (a5, .inl (cJ, 16, .inr (.inl ev))), (a6, .inl (cJ, 16, .inr (.inl ed))), (a7, .inl (cI, nD, .inl ad)), (q, .inl (cJ, 1, .inr (.inl ou)))] s.heap.size = A at hD ⊢
  have hA : ∀ q : Nat, s.heap.size ≤ q → A q := fun q h => by rw [← hAe]; exact Or.inr h
  have hS : va_S A s.heap s.heap [] := va_S.rf
  have hx := B.exec
  have hb := B.bytes
  have hr := B.returns
  have hts := atoms_spec (ws := wsL_projected) B.pre
  have hown : s.vm.findClass RL = some m.cls := findClass_of_methodNamed B.named
  have hlocks := B.notSynchronized
  have hall := fun (w : Cond) (h : w ∈ allw) => hts w (List.mem_cons_of_mem _ h)
  have hl := lv_entry ([.ref x, .int (nI d), .long t, .ref q]) (n := 6) (Nat.le_of_ble_eq_true rfl)
  rw [lg_entry_eq]
  generalize (lg_sl ([.ref x, .int (nI d), .long t, .ref q]) ++ List.replicate (6 - (lg_sl ([.ref x, .int (nI d), .long t, .ref q])).length) Slot.unset).toArray = ls at hl ⊢
  have hl : lv_has ls 6 [(0, .ref x), (1, .int (nI d)), (2, .long t), (4, .ref q)] := hl
  refine lv_aload hx hb dL_projected_0 (lv_at hl 3 rfl) ?_
  refine lv_iconst (v := 0) hx hb dL_projected_2 (by decide) ?_
  refine tp_i (y := nI 0) nI_0.symm ?_
  refine lv_aload_n hx hb dL_projected_3 rfl (lv_at hl 0 rfl) ?_
  refine lv_iload_n hx hb dL_projected_4 rfl (lv_at hl 1 rfl) ?_
  refine lv_lload_n hx hb dL_projected_5 rfl (lv_at hl 2 rfl) ?_
  have hPc := hP.sub (ws' := [(x, .inr (0, [.int (nI nD), .int (nI nR), .ref a1, .ref a2, .ref a3, .ref a4, .ref a5, .ref a6, .int (nI ec), .ref a7, .int (nI ac), .long now])), (a1, .inl (cJ, nD, .inr (.inl dv))), (a2, .inl (cI, nD + 1, .inl (fun j => nI (r j)))), (a3, .inl (cJ, cap, .inr (.inl ti))), (a4, .inl (cJ, cap, .inr (.inl va))), (a5, .inl (cJ, 16, .inr (.inl ev))), (a6, .inl (cJ, 16, .inr (.inl ed))), (a7, .inl (cI, nD, .inl ad))]) [0, 1, 2, 3, 4, 5, 6, 7] rfl
  refine vp_callSl (W.runV (As := [.int (nI d), .long t]) (rest := [.int (nI 0), .ref q]) ⟨hx, hb, hml, hown, hall⟩ (c_projected l dC dI x a1 a2 a3 a4 a5 a6 a7 cI cJ nD nR dv r cap ti va ev ed ec ad ac now hI d t hd ht) (cwV 2 hall gL_43 rfl rfl rfl (by decide +kernel) ⟨Nat.le_of_ble_eq_true rfl, Nat.le_of_ble_eq_true rfl⟩) ⟨xr_blind, va_recv hK hPc (ci := 0) (q0 := 0) rfl rfl, fun U hU hW => ⟨rfl, by rw [hU]; exact hPc, va_K.moved hW.alike hK⟩⟩ rfl rfl hl.1 rfl (lv_room (Nat.le_of_ble_eq_true rfl)) dL_projected_6 ⟨Nat.zero_le _, Nat.zero_le _⟩) (fun v_1 hv_2 => ?_)
  subst hv_2
  refine xa_last hx hb hK hP hD hS 8 1 rfl rfl (by omega) (by omega) dL_projected_9 (fun H locs hP hD hS => ?_)
  have hP : va_P (dC, dI) vwCl [(x, .inr (0, [.int (nI nD), .int (nI nR), .ref a1, .ref a2, .ref a3, .ref a4, .ref a5, .ref a6, .int (nI ec), .ref a7, .int (nI ac), .long now])), (a1, .inl (cJ, nD, .inr (.inl dv))), (a2, .inl (cI, nD + 1, .inl (fun j => nI (r j)))), (a3, .inl (cJ, cap, .inr (.inl ti))), (a4, .inl (cJ, cap, .inr (.inl va))), (a5, .inl (cJ, 16, .inr (.inl ev))), (a6, .inl (cJ, 16, .inr (.inl ed))), (a7, .inl (cI, nD, .inl ad)), (q, .inl (cJ, 1, .inr (.inl (vp_updL ou 0 (if wf_fb ti t (r (d + 1) - r d) (r d) ≤ r d then dv d else va (wf_fb ti t (r (d + 1) - r d) (r d) - 1))))))] H := hP
  have hD : va_D A [(x, .inr (0, [.int (nI nD), .int (nI nR), .ref a1, .ref a2, .ref a3, .ref a4, .ref a5, .ref a6, .int (nI ec), .ref a7, .int (nI ac), .long now])), (a1, .inl (cJ, nD, .inr (.inl dv))), (a2, .inl (cI, nD + 1, .inl (fun j => nI (r j)))), (a3, .inl (cJ, cap, .inr (.inl ti))), (a4, .inl (cJ, cap, .inr (.inl va))), (a5, .inl (cJ, 16, .inr (.inl ev))), (a6, .inl (cJ, 16, .inr (.inl ed))), (a7, .inl (cI, nD, .inl ad)), (q, .inl (cJ, 1, .inr (.inl (vp_updL ou 0 (if wf_fb ti t (r (d + 1) - r d) (r d) ≤ r d then dv d else va (wf_fb ti t (r (d + 1) - r d) (r d) - 1))))))] := hD
  refine lv_goto (tgt := 21) hx hb dL_projected_10 (by decide) ?_
  refine lv_iconst (v := 0) hx hb dL_projected_21 (by decide) ?_
  exact W.iret (v := 0) hx hb hr (fun t9 ht hW => ⟨⟨0, (), rfl, rfl, by rw [ht]; exact hP, va_K.moved hW.alike hK, hD⟩, hS.F ht⟩) hS.2.2 dL_projected_22
set_option maxHeartbeats 4000000 in
set_option maxRecDepth 100000 in
theorem h_start0 (l : Launch) (dC : Nat → ClassId) (dI : Nat → Nat → Nat) (x a1 a2 a3 a4 a5 a6 a7 : Nat) (cI cJ : ClassId) (nD nR : Nat) (dv : Nat → Int64) (r : Nat → Nat) (cap : Nat) (ti va ev ed : Nat → Int64) (ec : Nat) (ad : Nat → Int32) (ac : Nat) (now : Int64) (q : Nat) (ou : Nat → Int64) (sz : Nat) (hI : wf_R nD nR cap ec ac r) (d : Nat) (t : Int64) (hd : d < nD) : Met l yL_start wsL_start ({ frames := 4, cells := 0, slots := 0, locals := 133 }) (va_Pc [.ref x, .int (nI d), .long t, .ref q] (fun U => U.heap.size = sz ∧ va_P (dC, dI) vwCl [(x, .inr (0, [.int (nI nD), .int (nI nR), .ref a1, .ref a2, .ref a3, .ref a4, .ref a5, .ref a6, .int (nI ec), .ref a7, .int (nI ac), .long now])), (a1, .inl (cJ, nD, .inr (.inl dv))), (a2, .inl (cI, nD + 1, .inl (fun j => nI (r j)))), (a3, .inl (cJ, cap, .inr (.inl ti))), (a4, .inl (cJ, cap, .inr (.inl va))), (a5, .inl (cJ, 16, .inr (.inl ev))), (a6, .inl (cJ, 16, .inr (.inl ed))), (a7, .inl (cI, nD, .inl ad)), (q, .inl (cJ, 1, .inr (.inl ou)))] U.heap ∧ va_K (dC, dI) vwCl [(cI, .int), (cJ, .long)] U ∧ va_D (fun _ => True) [(x, .inr (0, [.int (nI nD), .int (nI nR), .ref a1, .ref a2, .ref a3, .ref a4, .ref a5, .ref a6, .int (nI ec), .ref a7, .int (nI ac), .long now])), (a1, .inl (cJ, nD, .inr (.inl dv))), (a2, .inl (cI, nD + 1, .inl (fun j => nI (r j)))), (a3, .inl (cJ, cap, .inr (.inl ti))), (a4, .inl (cJ, cap, .inr (.inl va))), (a5, .inl (cJ, 16, .inr (.inl ev))), (a6, .inl (cJ, 16, .inr (.inl ed))), (a7, .inl (cI, nD, .inl ad)), (q, .inl (cJ, 1, .inr (.inl ou)))])) (va_Qi (fun (v : Int32) (_ : Unit) => v = 0) (fun _ t9 => va_P (dC, dI) vwCl [(x, .inr (0, [.int (nI nD), .int (nI nR), .ref a1, .ref a2, .ref a3, .ref a4, .ref a5, .ref a6, .int (nI ec), .ref a7, .int (nI ac), .long now])), (a1, .inl (cJ, nD, .inr (.inl (vp_updL dv d t)))), (a2, .inl (cI, nD + 1, .inl (fun j => nI ((wf_sh r d (r d) (r (d + 1)) (nD + 1)) j)))), (a3, .inl (cJ, cap, .inr (.inl (va_cpy ti ti (r (d + 1)) (r d) (r nD - r (d + 1)))))), (a4, .inl (cJ, cap, .inr (.inl (va_cpy va va (r (d + 1)) (r d) (r nD - r (d + 1)))))), (a5, .inl (cJ, 16, .inr (.inl ev))), (a6, .inl (cJ, 16, .inr (.inl ed))), (a7, .inl (cI, nD, .inl ad)), (q, .inl (cJ, 1, .inr (.inl (vp_updL ou 0 ((nI (r (d + 1) - r d)).toInt64)))))] t9.heap ∧ va_K (dC, dI) vwCl [(cI, .int), (cJ, .long)] t9 ∧ va_D (va_A [(x, .inr (0, [.int (nI nD), .int (nI nR), .ref a1, .ref a2, .ref a3, .ref a4, .ref a5, .ref a6, .int (nI ec), .ref a7, .int (nI ac), .long now])), (a1, .inl (cJ, nD, .inr (.inl dv))), (a2, .inl (cI, nD + 1, .inl (fun j => nI (r j)))), (a3, .inl (cJ, cap, .inr (.inl ti))), (a4, .inl (cJ, cap, .inr (.inl va))), (a5, .inl (cJ, 16, .inr (.inl ev))), (a6, .inl (cJ, 16, .inr (.inl ed))), (a7, .inl (cI, nD, .inl ad)), (q, .inl (cJ, 1, .inr (.inl ou)))] sz) [(x, .inr (0, [.int (nI nD), .int (nI nR), .ref a1, .ref a2, .ref a3, .ref a4, .ref a5, .ref a6, .int (nI ec), .ref a7, .int (nI ac), .long now])), (a1, .inl (cJ, nD, .inr (.inl (vp_updL dv d t)))), (a2, .inl (cI, nD + 1, .inl (fun j => nI ((wf_sh r d (r d) (r (d + 1)) (nD + 1)) j)))), (a3, .inl (cJ, cap, .inr (.inl (va_cpy ti ti (r (d + 1)) (r d) (r nD - r (d + 1)))))), (a4, .inl (cJ, cap, .inr (.inl (va_cpy va va (r (d + 1)) (r d) (r nD - r (d + 1)))))), (a5, .inl (cJ, 16, .inr (.inl ev))), (a6, .inl (cJ, 16, .inr (.inl ed))), (a7, .inl (cI, nD, .inl ad)), (q, .inl (cJ, 1, .inr (.inl (vp_updL ou 0 ((nI (r (d + 1) - r d)).toInt64)))))]) (va_A [(x, .inr (0, [.int (nI nD), .int (nI nR), .ref a1, .ref a2, .ref a3, .ref a4, .ref a5, .ref a6, .int (nI ec), .ref a7, .int (nI ac), .long now])), (a1, .inl (cJ, nD, .inr (.inl dv))), (a2, .inl (cI, nD + 1, .inl (fun j => nI (r j)))), (a3, .inl (cJ, cap, .inr (.inl ti))), (a4, .inl (cJ, cap, .inr (.inl va))), (a5, .inl (cJ, 16, .inr (.inl ev))), (a6, .inl (cJ, 16, .inr (.inl ed))), (a7, .inl (cI, nD, .inl ad)), (q, .inl (cJ, 1, .inr (.inl ou)))] sz)) 0 0 (va_A [(x, .inr (0, [.int (nI nD), .int (nI nR), .ref a1, .ref a2, .ref a3, .ref a4, .ref a5, .ref a6, .int (nI ec), .ref a7, .int (nI ac), .long now])), (a1, .inl (cJ, nD, .inr (.inl dv))), (a2, .inl (cI, nD + 1, .inl (fun j => nI (r j)))), (a3, .inl (cJ, cap, .inr (.inl ti))), (a4, .inl (cJ, cap, .inr (.inl va))), (a5, .inl (cJ, 16, .inr (.inl ev))), (a6, .inl (cJ, 16, .inr (.inl ed))), (a7, .inl (cI, nD, .inl ad)), (q, .inl (cJ, 1, .inr (.inl ou)))] sz) := by
  refine va_MetW (cc := cL_start) (maxL := 6) (ret := (some .int)) (hh := hhL_start) (by decide) rfl ?_
  intro p e s m args below meth c s₁ B hml hv
  obtain ⟨rfl, hsz, hP, hK, hD0⟩ := hv
  subst hsz
  have hD := hD0.self (sz := s.heap.size)
  generalize hAe : va_A [(x, .inr (0, [.int (nI nD), .int (nI nR), .ref a1, .ref a2, .ref a3, .ref a4, .ref a5, .ref a6, .int (nI ec), .ref a7, .int (nI ac), .long now])), (a1, .inl (cJ, nD, .inr (.inl dv))), (a2, .inl (cI, nD + 1, .inl (fun j => nI (r j)))), (a3, .inl (cJ, cap, .inr (.inl ti))), (a4, .inl (cJ, cap, .inr (.inl va))), (a5, .inl (cJ, 16, .inr (.inl ev))), (a6, .inl (cJ, 16, .inr (.inl ed))), (a7, .inl (cI, nD, .inl ad)), (q, .inl (cJ, 1, .inr (.inl ou)))] s.heap.size = A at hD ⊢
  have hA : ∀ q : Nat, s.heap.size ≤ q → A q := fun q h => by rw [← hAe]; exact Or.inr h
  have hS : va_S A s.heap s.heap [] := va_S.rf
  have hx := B.exec
  have hb := B.bytes
  have hr := B.returns
  have hts := atoms_spec (ws := wsL_start) B.pre
  have hown : s.vm.findClass RL = some m.cls := findClass_of_methodNamed B.named
  have hlocks := B.notSynchronized
  have hall := fun (w : Cond) (h : w ∈ allw) => hts w (List.mem_cons_of_mem _ h)
  have hl := lv_entry ([.ref x, .int (nI d), .long t, .ref q]) (n := 6) (Nat.le_of_ble_eq_true rfl)
  rw [lg_entry_eq]
  generalize (lg_sl ([.ref x, .int (nI d), .long t, .ref q]) ++ List.replicate (6 - (lg_sl ([.ref x, .int (nI d), .long t, .ref q])).length) Slot.unset).toArray = ls at hl ⊢
  have hl : lv_has ls 6 [(0, .ref x), (1, .int (nI d)), (2, .long t), (4, .ref q)] := hl
  refine lv_aload hx hb dL_start_0 (lv_at hl 3 rfl) ?_
  refine lv_iconst (v := 0) hx hb dL_start_2 (by decide) ?_
  refine tp_i (y := nI 0) nI_0.symm ?_
  refine lv_aload_n hx hb dL_start_3 rfl (lv_at hl 0 rfl) ?_
  refine lv_iload_n hx hb dL_start_4 rfl (lv_at hl 1 rfl) ?_
  refine lv_lload_n hx hb dL_start_5 rfl (lv_at hl 2 rfl) ?_
  have hPc := hP.sub (ws' := [(x, .inr (0, [.int (nI nD), .int (nI nR), .ref a1, .ref a2, .ref a3, .ref a4, .ref a5, .ref a6, .int (nI ec), .ref a7, .int (nI ac), .long now])), (a1, .inl (cJ, nD, .inr (.inl dv))), (a2, .inl (cI, nD + 1, .inl (fun j => nI (r j)))), (a3, .inl (cJ, cap, .inr (.inl ti))), (a4, .inl (cJ, cap, .inr (.inl va))), (a5, .inl (cJ, 16, .inr (.inl ev))), (a6, .inl (cJ, 16, .inr (.inl ed))), (a7, .inl (cI, nD, .inl ad))]) [0, 1, 2, 3, 4, 5, 6, 7] rfl
  have hDc := hD.sub (ws' := [(x, .inr (0, [.int (nI nD), .int (nI nR), .ref a1, .ref a2, .ref a3, .ref a4, .ref a5, .ref a6, .int (nI ec), .ref a7, .int (nI ac), .long now])), (a1, .inl (cJ, nD, .inr (.inl dv))), (a2, .inl (cI, nD + 1, .inl (fun j => nI (r j)))), (a3, .inl (cJ, cap, .inr (.inl ti))), (a4, .inl (cJ, cap, .inr (.inl va))), (a5, .inl (cJ, 16, .inr (.inl ev))), (a6, .inl (cJ, 16, .inr (.inl ed))), (a7, .inl (cI, nD, .inl ad))]) [0, 1, 2, 3, 4, 5, 6, 7] (by decide) rfl
  have hFc := va_free (wc := [(x, .inr (0, [.int (nI nD), .int (nI nR), .ref a1, .ref a2, .ref a3, .ref a4, .ref a5, .ref a6, .int (nI ec), .ref a7, .int (nI ac), .long now])), (a1, .inl (cJ, nD, .inr (.inl dv))), (a2, .inl (cI, nD + 1, .inl (fun j => nI (r j)))), (a3, .inl (cJ, cap, .inr (.inl ti))), (a4, .inl (cJ, cap, .inr (.inl va))), (a5, .inl (cJ, 16, .inr (.inl ev))), (a6, .inl (cJ, 16, .inr (.inl ed))), (a7, .inl (cI, nD, .inl ad))]) hD hS hA [0, 1, 2, 3, 4, 5, 6, 7] rfl
  refine va_calli (va_runV (As := [.int (nI d), .long t]) (rest := [.int (nI 0), .ref q]) ⟨hx, hb, hml, hown, hall⟩ (c_start l dC dI x a1 a2 a3 a4 a5 a6 a7 cI cJ nD nR dv r cap ti va ev ed ec ad ac now s.heap.size hI d t hd) (cwV 2 hall gL_23 rfl rfl rfl (by decide +kernel) ⟨Nat.le_of_ble_eq_true rfl, Nat.le_of_ble_eq_true rfl⟩) ⟨xu_blind, va_recv hK hPc (ci := 0) (q0 := 0) rfl rfl, fun U hU hW => ⟨rfl, by rw [hU], by rw [hU]; exact hPc, va_K.moved hW.alike hK, hDc.weaken (fun _ _ _ _ => trivial)⟩⟩ rfl rfl hl.1 rfl (lv_room (Nat.le_of_ble_eq_true rfl)) dL_start_6 ⟨Nat.le_of_ble_eq_true rfl, Nat.le_of_ble_eq_true rfl⟩) hS (fun q _ h => hFc q h) hFc (fun v_1 u t9 H1 locs ht9 hvm hw hB hz1 hk1 hS => ?_)
  obtain ⟨hP1, hK1, hD1⟩ := hB
  rw [ht9] at hP1
  obtain ⟨hP, hD⟩ := va_join (wr := [(q, .inl (cJ, 1, .inr (.inl ou)))]) (w1 := [(x, .inr (0, [.int (nI nD), .int (nI nR), .ref a1, .ref a2, .ref a3, .ref a4, .ref a5, .ref a6, .int (nI ec), .ref a7, .int (nI ac), .long now])), (a1, .inl (cJ, nD, .inr (.inl (vp_updL dv d t)))), (a2, .inl (cI, nD + 1, .inl (fun j => nI ((wf_sh r d (r d) (r (d + 1)) (nD + 1)) j)))), (a3, .inl (cJ, cap, .inr (.inl (va_cpy ti ti (r (d + 1)) (r d) (r nD - r (d + 1)))))), (a4, .inl (cJ, cap, .inr (.inl (va_cpy va va (r (d + 1)) (r d) (r nD - r (d + 1)))))), (a5, .inl (cJ, 16, .inr (.inl ev))), (a6, .inl (cJ, 16, .inr (.inl ed))), (a7, .inl (cI, nD, .inl ad))]) hP hD [0, 1, 2, 3, 4, 5, 6, 7] [8] rfl rfl (by decide) (by decide) hk1 hFc hP1 hD1
  generalize H1 = H at hP hS ⊢
  have hP := hP.sub (ws' := [(x, .inr (0, [.int (nI nD), .int (nI nR), .ref a1, .ref a2, .ref a3, .ref a4, .ref a5, .ref a6, .int (nI ec), .ref a7, .int (nI ac), .long now])), (a1, .inl (cJ, nD, .inr (.inl (vp_updL dv d t)))), (a2, .inl (cI, nD + 1, .inl (fun j => nI ((wf_sh r d (r d) (r (d + 1)) (nD + 1)) j)))), (a3, .inl (cJ, cap, .inr (.inl (va_cpy ti ti (r (d + 1)) (r d) (r nD - r (d + 1)))))), (a4, .inl (cJ, cap, .inr (.inl (va_cpy va va (r (d + 1)) (r d) (r nD - r (d + 1)))))), (a5, .inl (cJ, 16, .inr (.inl ev))), (a6, .inl (cJ, 16, .inr (.inl ed))), (a7, .inl (cI, nD, .inl ad)), (q, .inl (cJ, 1, .inr (.inl ou)))]) [1, 2, 3, 4, 5, 6, 7, 8, 0] rfl
  have hD := hD.sub (ws' := [(x, .inr (0, [.int (nI nD), .int (nI nR), .ref a1, .ref a2, .ref a3, .ref a4, .ref a5, .ref a6, .int (nI ec), .ref a7, .int (nI ac), .long now])), (a1, .inl (cJ, nD, .inr (.inl (vp_updL dv d t)))), (a2, .inl (cI, nD + 1, .inl (fun j => nI ((wf_sh r d (r d) (r (d + 1)) (nD + 1)) j)))), (a3, .inl (cJ, cap, .inr (.inl (va_cpy ti ti (r (d + 1)) (r d) (r nD - r (d + 1)))))), (a4, .inl (cJ, cap, .inr (.inl (va_cpy va va (r (d + 1)) (r d) (r nD - r (d + 1)))))), (a5, .inl (cJ, 16, .inr (.inl ev))), (a6, .inl (cJ, 16, .inr (.inl ed))), (a7, .inl (cI, nD, .inl ad)), (q, .inl (cJ, 1, .inr (.inl ou)))]) [1, 2, 3, 4, 5, 6, 7, 8, 0] (by decide) rfl
  obtain rfl : v_1 = nI (r (d + 1) - r d) := hw
  refine lv_i2l hx hb dL_start_9 rfl ?_
  refine xa_last hx hb hK hP hD hS 8 1 rfl rfl (by omega) (by omega) dL_start_10 (fun H locs hP hD hS => ?_)
  have hP : va_P (dC, dI) vwCl [(x, .inr (0, [.int (nI nD), .int (nI nR), .ref a1, .ref a2, .ref a3, .ref a4, .ref a5, .ref a6, .int (nI ec), .ref a7, .int (nI ac), .long now])), (a1, .inl (cJ, nD, .inr (.inl (vp_updL dv d t)))), (a2, .inl (cI, nD + 1, .inl (fun j => nI ((wf_sh r d (r d) (r (d + 1)) (nD + 1)) j)))), (a3, .inl (cJ, cap, .inr (.inl (va_cpy ti ti (r (d + 1)) (r d) (r nD - r (d + 1)))))), (a4, .inl (cJ, cap, .inr (.inl (va_cpy va va (r (d + 1)) (r d) (r nD - r (d + 1)))))), (a5, .inl (cJ, 16, .inr (.inl ev))), (a6, .inl (cJ, 16, .inr (.inl ed))), (a7, .inl (cI, nD, .inl ad)), (q, .inl (cJ, 1, .inr (.inl (vp_updL ou 0 ((nI (r (d + 1) - r d)).toInt64)))))] H := hP
  have hD : va_D A [(x, .inr (0, [.int (nI nD), .int (nI nR), .ref a1, .ref a2, .ref a3, .ref a4, .ref a5, .ref a6, .int (nI ec), .ref a7, .int (nI ac), .long now])), (a1, .inl (cJ, nD, .inr (.inl (vp_updL dv d t)))), (a2, .inl (cI, nD + 1, .inl (fun j => nI ((wf_sh r d (r d) (r (d + 1)) (nD + 1)) j)))), (a3, .inl (cJ, cap, .inr (.inl (va_cpy ti ti (r (d + 1)) (r d) (r nD - r (d + 1)))))), (a4, .inl (cJ, cap, .inr (.inl (va_cpy va va (r (d + 1)) (r d) (r nD - r (d + 1)))))), (a5, .inl (cJ, 16, .inr (.inl ev))), (a6, .inl (cJ, 16, .inr (.inl ed))), (a7, .inl (cI, nD, .inl ad)), (q, .inl (cJ, 1, .inr (.inl (vp_updL ou 0 ((nI (r (d + 1) - r d)).toInt64)))))] := hD
  refine lv_goto (tgt := 18) hx hb dL_start_11 (by decide) ?_
  refine lv_iconst (v := 0) hx hb dL_start_18 (by decide) ?_
  exact W.iret (v := 0) hx hb hr (fun t9 ht hW => ⟨⟨0, (), rfl, rfl, by rw [ht]; exact hP, va_K.moved hW.alike hK, hD⟩, hS.F ht⟩) hS.2.2 dL_start_19
set_option maxHeartbeats 4000000 in
set_option maxRecDepth 100000 in
theorem h_advance0 (l : Launch) (dC : Nat → ClassId) (dI : Nat → Nat → Nat) (x a1 a2 a3 a4 a5 a6 a7 : Nat) (cI cJ : ClassId) (nD nR : Nat) (dv : Nat → Int64) (r : Nat → Nat) (cap : Nat) (ti va ev ed : Nat → Int64) (ec : Nat) (ad : Nat → Int32) (ac : Nat) (now : Int64) (q : Nat) (ou : Nat → Int64) (sz : Nat) (hI : wf_R nD nR cap ec ac r) (t : Int64) (h1 : ¬ t < now) (h2 : ¬ 1152921504606846976 < t) : Met l yL_advance wsL_advance ({ frames := 3, cells := 0, slots := 0, locals := 110 }) (va_Pc [.ref x, .long t, .ref q] (fun U => U.heap.size = sz ∧ va_P (dC, dI) vwCl [(x, .inr (0, [.int (nI nD), .int (nI nR), .ref a1, .ref a2, .ref a3, .ref a4, .ref a5, .ref a6, .int (nI ec), .ref a7, .int (nI ac), .long now])), (a1, .inl (cJ, nD, .inr (.inl dv))), (a2, .inl (cI, nD + 1, .inl (fun j => nI (r j)))), (a3, .inl (cJ, cap, .inr (.inl ti))), (a4, .inl (cJ, cap, .inr (.inl va))), (a5, .inl (cJ, 16, .inr (.inl ev))), (a6, .inl (cJ, 16, .inr (.inl ed))), (a7, .inl (cI, nD, .inl ad)), (q, .inl (cJ, 1, .inr (.inl ou)))] U.heap ∧ va_K (dC, dI) vwCl [(cI, .int), (cJ, .long)] U ∧ va_D (fun _ => True) [(x, .inr (0, [.int (nI nD), .int (nI nR), .ref a1, .ref a2, .ref a3, .ref a4, .ref a5, .ref a6, .int (nI ec), .ref a7, .int (nI ac), .long now])), (a1, .inl (cJ, nD, .inr (.inl dv))), (a2, .inl (cI, nD + 1, .inl (fun j => nI (r j)))), (a3, .inl (cJ, cap, .inr (.inl ti))), (a4, .inl (cJ, cap, .inr (.inl va))), (a5, .inl (cJ, 16, .inr (.inl ev))), (a6, .inl (cJ, 16, .inr (.inl ed))), (a7, .inl (cI, nD, .inl ad)), (q, .inl (cJ, 1, .inr (.inl ou)))])) (va_Qi (fun (v : Int32) (u : wf_T) => v = 0 ∧ wf_V t r ti va dv nD u.1 u.2.1 u.2.2.1 u.2.2.2.1 u.2.2.2.2) (fun u t9 => va_P (dC, dI) vwCl [(x, .inr (0, [.int (nI nD), .int (nI nR), .ref a1, .ref a2, .ref a3, .ref a4, .ref a5, .ref a6, .int (nI ec), .ref a7, .int (nI (wf_N t r ti nD)), .long t])), (a1, .inl (cJ, nD, .inr (.inl u.2.2.2.1))), (a2, .inl (cI, nD + 1, .inl (fun j => nI ((un u.1 nD (wf_K t r ti nD)) j)))), (a3, .inl (cJ, cap, .inr (.inl u.2.1))), (a4, .inl (cJ, cap, .inr (.inl u.2.2.1))), (a5, .inl (cJ, 16, .inr (.inl ev))), (a6, .inl (cJ, 16, .inr (.inl ed))), (a7, .inl (cI, nD, .inl u.2.2.2.2)), (q, .inl (cJ, 1, .inr (.inl (vp_updL ou 0 ((nI (wf_N t r ti nD)).toInt64)))))] t9.heap ∧ va_K (dC, dI) vwCl [(cI, .int), (cJ, .long)] t9 ∧ va_D (va_A [(x, .inr (0, [.int (nI nD), .int (nI nR), .ref a1, .ref a2, .ref a3, .ref a4, .ref a5, .ref a6, .int (nI ec), .ref a7, .int (nI ac), .long now])), (a1, .inl (cJ, nD, .inr (.inl dv))), (a2, .inl (cI, nD + 1, .inl (fun j => nI (r j)))), (a3, .inl (cJ, cap, .inr (.inl ti))), (a4, .inl (cJ, cap, .inr (.inl va))), (a5, .inl (cJ, 16, .inr (.inl ev))), (a6, .inl (cJ, 16, .inr (.inl ed))), (a7, .inl (cI, nD, .inl ad)), (q, .inl (cJ, 1, .inr (.inl ou)))] sz) [(x, .inr (0, [.int (nI nD), .int (nI nR), .ref a1, .ref a2, .ref a3, .ref a4, .ref a5, .ref a6, .int (nI ec), .ref a7, .int (nI (wf_N t r ti nD)), .long t])), (a1, .inl (cJ, nD, .inr (.inl u.2.2.2.1))), (a2, .inl (cI, nD + 1, .inl (fun j => nI ((un u.1 nD (wf_K t r ti nD)) j)))), (a3, .inl (cJ, cap, .inr (.inl u.2.1))), (a4, .inl (cJ, cap, .inr (.inl u.2.2.1))), (a5, .inl (cJ, 16, .inr (.inl ev))), (a6, .inl (cJ, 16, .inr (.inl ed))), (a7, .inl (cI, nD, .inl u.2.2.2.2)), (q, .inl (cJ, 1, .inr (.inl (vp_updL ou 0 ((nI (wf_N t r ti nD)).toInt64)))))]) (va_A [(x, .inr (0, [.int (nI nD), .int (nI nR), .ref a1, .ref a2, .ref a3, .ref a4, .ref a5, .ref a6, .int (nI ec), .ref a7, .int (nI ac), .long now])), (a1, .inl (cJ, nD, .inr (.inl dv))), (a2, .inl (cI, nD + 1, .inl (fun j => nI (r j)))), (a3, .inl (cJ, cap, .inr (.inl ti))), (a4, .inl (cJ, cap, .inr (.inl va))), (a5, .inl (cJ, 16, .inr (.inl ev))), (a6, .inl (cJ, 16, .inr (.inl ed))), (a7, .inl (cI, nD, .inl ad)), (q, .inl (cJ, 1, .inr (.inl ou)))] sz)) 0 0 (va_A [(x, .inr (0, [.int (nI nD), .int (nI nR), .ref a1, .ref a2, .ref a3, .ref a4, .ref a5, .ref a6, .int (nI ec), .ref a7, .int (nI ac), .long now])), (a1, .inl (cJ, nD, .inr (.inl dv))), (a2, .inl (cI, nD + 1, .inl (fun j => nI (r j)))), (a3, .inl (cJ, cap, .inr (.inl ti))), (a4, .inl (cJ, cap, .inr (.inl va))), (a5, .inl (cJ, 16, .inr (.inl ev))), (a6, .inl (cJ, 16, .inr (.inl ed))), (a7, .inl (cI, nD, .inl ad)), (q, .inl (cJ, 1, .inr (.inl ou)))] sz) := by
  refine va_MetW (cc := cL_advance) (maxL := 5) (ret := (some .int)) (hh := hhL_advance) (by decide) rfl ?_
  intro p e s m args below meth c s₁ B hml hv
  obtain ⟨rfl, hsz, hP, hK, hD0⟩ := hv
  subst hsz
  have hD := hD0.self (sz := s.heap.size)
  generalize hAe : va_A [(x, .inr (0, [.int (nI nD), .int (nI nR), .ref a1, .ref a2, .ref a3, .ref a4, .ref a5, .ref a6, .int (nI ec), .ref a7, .int (nI ac), .long now])), (a1, .inl (cJ, nD, .inr (.inl dv))), (a2, .inl (cI, nD + 1, .inl (fun j => nI (r j)))), (a3, .inl (cJ, cap, .inr (.inl ti))), (a4, .inl (cJ, cap, .inr (.inl va))), (a5, .inl (cJ, 16, .inr (.inl ev))), (a6, .inl (cJ, 16, .inr (.inl ed))), (a7, .inl (cI, nD, .inl ad)), (q, .inl (cJ, 1, .inr (.inl ou)))] s.heap.size = A at hD ⊢
  have hA : ∀ q : Nat, s.heap.size ≤ q → A q := fun q h => by rw [← hAe]; exact Or.inr h
  have hS : va_S A s.heap s.heap [] := va_S.rf
  have hx := B.exec
  have hb := B.bytes
  have hr := B.returns
  have hts := atoms_spec (ws := wsL_advance) B.pre
  have hown : s.vm.findClass RL = some m.cls := findClass_of_methodNamed B.named
  have hlocks := B.notSynchronized
  have hall := fun (w : Cond) (h : w ∈ allw) => hts w (List.mem_cons_of_mem _ h)
  have hl := lv_entry ([.ref x, .long t, .ref q]) (n := 5) (Nat.le_of_ble_eq_true rfl)
  rw [lg_entry_eq]
  generalize (lg_sl ([.ref x, .long t, .ref q]) ++ List.replicate (5 - (lg_sl ([.ref x, .long t, .ref q])).length) Slot.unset).toArray = ls at hl ⊢
  have hl : lv_has ls 5 [(0, .ref x), (1, .long t), (3, .ref q)] := hl
  refine lv_aload_n hx hb dL_advance_0 rfl (lv_at hl 2 rfl) ?_
  refine lv_iconst (v := 0) hx hb dL_advance_1 (by decide) ?_
  refine tp_i (y := nI 0) nI_0.symm ?_
  refine lv_aload_n hx hb dL_advance_2 rfl (lv_at hl 0 rfl) ?_
  refine lv_lload_n hx hb dL_advance_3 rfl (lv_at hl 1 rfl) ?_
  have hPc := hP.sub (ws' := [(x, .inr (0, [.int (nI nD), .int (nI nR), .ref a1, .ref a2, .ref a3, .ref a4, .ref a5, .ref a6, .int (nI ec), .ref a7, .int (nI ac), .long now])), (a1, .inl (cJ, nD, .inr (.inl dv))), (a2, .inl (cI, nD + 1, .inl (fun j => nI (r j)))), (a3, .inl (cJ, cap, .inr (.inl ti))), (a4, .inl (cJ, cap, .inr (.inl va))), (a5, .inl (cJ, 16, .inr (.inl ev))), (a6, .inl (cJ, 16, .inr (.inl ed))), (a7, .inl (cI, nD, .inl ad))]) [0, 1, 2, 3, 4, 5, 6, 7] rfl
  have hDc := hD.sub (ws' := [(x, .inr (0, [.int (nI nD), .int (nI nR), .ref a1, .ref a2, .ref a3, .ref a4, .ref a5, .ref a6, .int (nI ec), .ref a7, .int (nI ac), .long now])), (a1, .inl (cJ, nD, .inr (.inl dv))), (a2, .inl (cI, nD + 1, .inl (fun j => nI (r j)))), (a3, .inl (cJ, cap, .inr (.inl ti))), (a4, .inl (cJ, cap, .inr (.inl va))), (a5, .inl (cJ, 16, .inr (.inl ev))), (a6, .inl (cJ, 16, .inr (.inl ed))), (a7, .inl (cI, nD, .inl ad))]) [0, 1, 2, 3, 4, 5, 6, 7] (by decide) rfl
  have hFc := va_free (wc := [(x, .inr (0, [.int (nI nD), .int (nI nR), .ref a1, .ref a2, .ref a3, .ref a4, .ref a5, .ref a6, .int (nI ec), .ref a7, .int (nI ac), .long now])), (a1, .inl (cJ, nD, .inr (.inl dv))), (a2, .inl (cI, nD + 1, .inl (fun j => nI (r j)))), (a3, .inl (cJ, cap, .inr (.inl ti))), (a4, .inl (cJ, cap, .inr (.inl va))), (a5, .inl (cJ, 16, .inr (.inl ev))), (a6, .inl (cJ, 16, .inr (.inl ed))), (a7, .inl (cI, nD, .inl ad))]) hD hS hA [0, 1, 2, 3, 4, 5, 6, 7] rfl
  refine va_calli (va_runV (As := [.long t]) (rest := [.int (nI 0), .ref q]) ⟨hx, hb, hml, hown, hall⟩ (c_advance l dC dI x a1 a2 a3 a4 a5 a6 a7 cI cJ nD nR dv r cap ti va ev ed ec ad ac now s.heap.size hI t h1 h2) (cwV 1 hall gL_27 rfl rfl rfl (by decide +kernel) ⟨Nat.le_of_ble_eq_true rfl, Nat.le_of_ble_eq_true rfl⟩) ⟨xu_blind, va_recv hK hPc (ci := 0) (q0 := 0) rfl rfl, fun U hU hW => ⟨rfl, by rw [hU], by rw [hU]; exact hPc, va_K.moved hW.alike hK, hDc.weaken (fun _ _ _ _ => trivial)⟩⟩ rfl rfl hl.1 rfl (lv_room (Nat.le_of_ble_eq_true rfl)) dL_advance_4 ⟨Nat.le_of_ble_eq_true rfl, Nat.le_of_ble_eq_true rfl⟩) hS (fun q _ h => hFc q h) hFc (fun v_1 u t9 H1 locs ht9 hvm hw hB hz1 hk1 hS => ?_)
  obtain ⟨hP1, hK1, hD1⟩ := hB
  rw [ht9] at hP1
  obtain ⟨hP, hD⟩ := va_join (wr := [(q, .inl (cJ, 1, .inr (.inl ou)))]) (w1 := [(x, .inr (0, [.int (nI nD), .int (nI nR), .ref a1, .ref a2, .ref a3, .ref a4, .ref a5, .ref a6, .int (nI ec), .ref a7, .int (nI (wf_N t r ti nD)), .long t])), (a1, .inl (cJ, nD, .inr (.inl u.2.2.2.1))), (a2, .inl (cI, nD + 1, .inl (fun j => nI ((un u.1 nD (wf_K t r ti nD)) j)))), (a3, .inl (cJ, cap, .inr (.inl u.2.1))), (a4, .inl (cJ, cap, .inr (.inl u.2.2.1))), (a5, .inl (cJ, 16, .inr (.inl ev))), (a6, .inl (cJ, 16, .inr (.inl ed))), (a7, .inl (cI, nD, .inl u.2.2.2.2))]) hP hD [0, 1, 2, 3, 4, 5, 6, 7] [8] rfl rfl (by decide) (by decide) hk1 hFc hP1 hD1
  generalize H1 = H at hP hS ⊢
  have hP := hP.sub (ws' := [(x, .inr (0, [.int (nI nD), .int (nI nR), .ref a1, .ref a2, .ref a3, .ref a4, .ref a5, .ref a6, .int (nI ec), .ref a7, .int (nI (wf_N t r ti nD)), .long t])), (a1, .inl (cJ, nD, .inr (.inl u.2.2.2.1))), (a2, .inl (cI, nD + 1, .inl (fun j => nI ((un u.1 nD (wf_K t r ti nD)) j)))), (a3, .inl (cJ, cap, .inr (.inl u.2.1))), (a4, .inl (cJ, cap, .inr (.inl u.2.2.1))), (a5, .inl (cJ, 16, .inr (.inl ev))), (a6, .inl (cJ, 16, .inr (.inl ed))), (a7, .inl (cI, nD, .inl u.2.2.2.2)), (q, .inl (cJ, 1, .inr (.inl ou)))]) [1, 2, 3, 4, 5, 6, 7, 8, 0] rfl
  have hD := hD.sub (ws' := [(x, .inr (0, [.int (nI nD), .int (nI nR), .ref a1, .ref a2, .ref a3, .ref a4, .ref a5, .ref a6, .int (nI ec), .ref a7, .int (nI (wf_N t r ti nD)), .long t])), (a1, .inl (cJ, nD, .inr (.inl u.2.2.2.1))), (a2, .inl (cI, nD + 1, .inl (fun j => nI ((un u.1 nD (wf_K t r ti nD)) j)))), (a3, .inl (cJ, cap, .inr (.inl u.2.1))), (a4, .inl (cJ, cap, .inr (.inl u.2.2.1))), (a5, .inl (cJ, 16, .inr (.inl ev))), (a6, .inl (cJ, 16, .inr (.inl ed))), (a7, .inl (cI, nD, .inl u.2.2.2.2)), (q, .inl (cJ, 1, .inr (.inl ou)))]) [1, 2, 3, 4, 5, 6, 7, 8, 0] (by decide) rfl
  obtain rfl : v_1 = nI (wf_N t r ti nD) := hw.1
  refine lv_i2l hx hb dL_advance_7 rfl ?_
  refine xa_last hx hb hK hP hD hS 8 1 rfl rfl (by omega) (by omega) dL_advance_8 (fun H locs hP hD hS => ?_)
  have hP : va_P (dC, dI) vwCl [(x, .inr (0, [.int (nI nD), .int (nI nR), .ref a1, .ref a2, .ref a3, .ref a4, .ref a5, .ref a6, .int (nI ec), .ref a7, .int (nI (wf_N t r ti nD)), .long t])), (a1, .inl (cJ, nD, .inr (.inl u.2.2.2.1))), (a2, .inl (cI, nD + 1, .inl (fun j => nI ((un u.1 nD (wf_K t r ti nD)) j)))), (a3, .inl (cJ, cap, .inr (.inl u.2.1))), (a4, .inl (cJ, cap, .inr (.inl u.2.2.1))), (a5, .inl (cJ, 16, .inr (.inl ev))), (a6, .inl (cJ, 16, .inr (.inl ed))), (a7, .inl (cI, nD, .inl u.2.2.2.2)), (q, .inl (cJ, 1, .inr (.inl (vp_updL ou 0 ((nI (wf_N t r ti nD)).toInt64)))))] H := hP
  have hD : va_D A [(x, .inr (0, [.int (nI nD), .int (nI nR), .ref a1, .ref a2, .ref a3, .ref a4, .ref a5, .ref a6, .int (nI ec), .ref a7, .int (nI (wf_N t r ti nD)), .long t])), (a1, .inl (cJ, nD, .inr (.inl u.2.2.2.1))), (a2, .inl (cI, nD + 1, .inl (fun j => nI ((un u.1 nD (wf_K t r ti nD)) j)))), (a3, .inl (cJ, cap, .inr (.inl u.2.1))), (a4, .inl (cJ, cap, .inr (.inl u.2.2.1))), (a5, .inl (cJ, 16, .inr (.inl ev))), (a6, .inl (cJ, 16, .inr (.inl ed))), (a7, .inl (cI, nD, .inl u.2.2.2.2)), (q, .inl (cJ, 1, .inr (.inl (vp_updL ou 0 ((nI (wf_N t r ti nD)).toInt64)))))] := hD
  refine lv_goto (tgt := 16) hx hb dL_advance_9 (by decide) ?_
  refine lv_iconst (v := 0) hx hb dL_advance_16 (by decide) ?_
  exact W.iret (v := 0) hx hb hr (fun t9 ht hW => ⟨⟨0, u, rfl, ⟨rfl, hw.2⟩, by rw [ht]; exact hP, va_K.moved hW.alike hK, hD⟩, hS.F ht⟩) hS.2.2 dL_advance_17
set_option maxHeartbeats 4000000 in
set_option maxRecDepth 100000 in
theorem h_assign0 (l : Launch) (dC : Nat → ClassId) (dI : Nat → Nat → Nat) (x a1 a2 a3 a4 a5 a6 a7 : Nat) (cI cJ : ClassId) (nD nR : Nat) (dv : Nat → Int64) (r : Nat → Nat) (cap : Nat) (ti va ev ed : Nat → Int64) (ec : Nat) (ad : Nat → Int32) (ac : Nat) (now : Int64) (q : Nat) (ou : Nat → Int64) (sz : Nat) (hI : wf_R nD nR cap ec ac r) (d : Nat) (mo : Int32) (t : Int64) (hd : d < nD) (hz0 : 0 < ec) (hg : wf_lg mo (ed 0) t ∧ wf_dg ed now ec 0 (-1)) (cut pl sm : Nat) (hcut : cut = wf_fb ti (now + ed 0 - 1) (r (d + 1) - r d) (r d)) (hpl : pl = wf_fb ti (now + ed 0 - wf_lim mo (ed 0) t - 1) (cut - r d) (r d)) (hsm : sm = wf_ss va (ev 0) pl (cut - pl)) (hroom : r nD - (sm - pl + (r (d + 1) - cut)) + ec ≤ nR) (hq : r nD + (pl + cut - sm + ec) - r (d + 1) ≤ cap) : Met l yL_assign wsL_assign ({ frames := 4, cells := 0, slots := 0, locals := 142 }) (va_Pc [.ref x, .int (nI d), .int mo, .long t, .ref q] (fun U => U.heap.size = sz ∧ va_P (dC, dI) vwCl [(x, .inr (0, [.int (nI nD), .int (nI nR), .ref a1, .ref a2, .ref a3, .ref a4, .ref a5, .ref a6, .int (nI ec), .ref a7, .int (nI ac), .long now])), (a1, .inl (cJ, nD, .inr (.inl dv))), (a2, .inl (cI, nD + 1, .inl (fun j => nI (r j)))), (a3, .inl (cJ, cap, .inr (.inl ti))), (a4, .inl (cJ, cap, .inr (.inl va))), (a5, .inl (cJ, 16, .inr (.inl ev))), (a6, .inl (cJ, 16, .inr (.inl ed))), (a7, .inl (cI, nD, .inl ad)), (q, .inl (cJ, 1, .inr (.inl ou)))] U.heap ∧ va_K (dC, dI) vwCl [(cI, .int), (cJ, .long)] U ∧ va_D (fun _ => True) [(x, .inr (0, [.int (nI nD), .int (nI nR), .ref a1, .ref a2, .ref a3, .ref a4, .ref a5, .ref a6, .int (nI ec), .ref a7, .int (nI ac), .long now])), (a1, .inl (cJ, nD, .inr (.inl dv))), (a2, .inl (cI, nD + 1, .inl (fun j => nI (r j)))), (a3, .inl (cJ, cap, .inr (.inl ti))), (a4, .inl (cJ, cap, .inr (.inl va))), (a5, .inl (cJ, 16, .inr (.inl ev))), (a6, .inl (cJ, 16, .inr (.inl ed))), (a7, .inl (cI, nD, .inl ad)), (q, .inl (cJ, 1, .inr (.inl ou)))])) (va_Qi (fun (v : Int32) (_ : Unit) => v = 0) (fun _ t9 => va_P (dC, dI) vwCl [(x, .inr (0, [.int (nI nD), .int (nI nR), .ref a1, .ref a2, .ref a3, .ref a4, .ref a5, .ref a6, .int (nI 0), .ref a7, .int (nI ac), .long now])), (a1, .inl (cJ, nD, .inr (.inl dv))), (a2, .inl (cI, nD + 1, .inl (fun j => nI ((wf_sh r d (pl + cut - sm + ec) (r (d + 1)) (nD + 1)) j)))), (a3, .inl (cJ, cap, .inr (.inl (wf_pt (va_cpy (va_cpy ti ti sm pl (cut - sm)) (va_cpy ti ti sm pl (cut - sm)) (r (d + 1)) (pl + cut - sm + ec) (r nD - r (d + 1))) (pl + cut - sm) (fun i => now + ed i) ec)))), (a4, .inl (cJ, cap, .inr (.inl (wf_pt (va_cpy (va_cpy va va sm pl (cut - sm)) (va_cpy va va sm pl (cut - sm)) (r (d + 1)) (pl + cut - sm + ec) (r nD - r (d + 1))) (pl + cut - sm) ev ec)))), (a5, .inl (cJ, 16, .inr (.inl ev))), (a6, .inl (cJ, 16, .inr (.inl ed))), (a7, .inl (cI, nD, .inl ad)), (q, .inl (cJ, 1, .inr (.inl (vp_updL ou 0 ((nI (sm - pl + (r (d + 1) - cut))).toInt64)))))] t9.heap ∧ va_K (dC, dI) vwCl [(cI, .int), (cJ, .long)] t9 ∧ va_D (va_A [(x, .inr (0, [.int (nI nD), .int (nI nR), .ref a1, .ref a2, .ref a3, .ref a4, .ref a5, .ref a6, .int (nI ec), .ref a7, .int (nI ac), .long now])), (a1, .inl (cJ, nD, .inr (.inl dv))), (a2, .inl (cI, nD + 1, .inl (fun j => nI (r j)))), (a3, .inl (cJ, cap, .inr (.inl ti))), (a4, .inl (cJ, cap, .inr (.inl va))), (a5, .inl (cJ, 16, .inr (.inl ev))), (a6, .inl (cJ, 16, .inr (.inl ed))), (a7, .inl (cI, nD, .inl ad)), (q, .inl (cJ, 1, .inr (.inl ou)))] sz) [(x, .inr (0, [.int (nI nD), .int (nI nR), .ref a1, .ref a2, .ref a3, .ref a4, .ref a5, .ref a6, .int (nI 0), .ref a7, .int (nI ac), .long now])), (a1, .inl (cJ, nD, .inr (.inl dv))), (a2, .inl (cI, nD + 1, .inl (fun j => nI ((wf_sh r d (pl + cut - sm + ec) (r (d + 1)) (nD + 1)) j)))), (a3, .inl (cJ, cap, .inr (.inl (wf_pt (va_cpy (va_cpy ti ti sm pl (cut - sm)) (va_cpy ti ti sm pl (cut - sm)) (r (d + 1)) (pl + cut - sm + ec) (r nD - r (d + 1))) (pl + cut - sm) (fun i => now + ed i) ec)))), (a4, .inl (cJ, cap, .inr (.inl (wf_pt (va_cpy (va_cpy va va sm pl (cut - sm)) (va_cpy va va sm pl (cut - sm)) (r (d + 1)) (pl + cut - sm + ec) (r nD - r (d + 1))) (pl + cut - sm) ev ec)))), (a5, .inl (cJ, 16, .inr (.inl ev))), (a6, .inl (cJ, 16, .inr (.inl ed))), (a7, .inl (cI, nD, .inl ad)), (q, .inl (cJ, 1, .inr (.inl (vp_updL ou 0 ((nI (sm - pl + (r (d + 1) - cut))).toInt64)))))]) (va_A [(x, .inr (0, [.int (nI nD), .int (nI nR), .ref a1, .ref a2, .ref a3, .ref a4, .ref a5, .ref a6, .int (nI ec), .ref a7, .int (nI ac), .long now])), (a1, .inl (cJ, nD, .inr (.inl dv))), (a2, .inl (cI, nD + 1, .inl (fun j => nI (r j)))), (a3, .inl (cJ, cap, .inr (.inl ti))), (a4, .inl (cJ, cap, .inr (.inl va))), (a5, .inl (cJ, 16, .inr (.inl ev))), (a6, .inl (cJ, 16, .inr (.inl ed))), (a7, .inl (cI, nD, .inl ad)), (q, .inl (cJ, 1, .inr (.inl ou)))] sz)) 0 0 (va_A [(x, .inr (0, [.int (nI nD), .int (nI nR), .ref a1, .ref a2, .ref a3, .ref a4, .ref a5, .ref a6, .int (nI ec), .ref a7, .int (nI ac), .long now])), (a1, .inl (cJ, nD, .inr (.inl dv))), (a2, .inl (cI, nD + 1, .inl (fun j => nI (r j)))), (a3, .inl (cJ, cap, .inr (.inl ti))), (a4, .inl (cJ, cap, .inr (.inl va))), (a5, .inl (cJ, 16, .inr (.inl ev))), (a6, .inl (cJ, 16, .inr (.inl ed))), (a7, .inl (cI, nD, .inl ad)), (q, .inl (cJ, 1, .inr (.inl ou)))] sz) := by
  refine va_MetW (cc := cL_assign) (maxL := 7) (ret := (some .int)) (hh := hhL_assign) (by decide) rfl ?_
  intro p e s m args below meth c s₁ B hml hv
  obtain ⟨rfl, hsz, hP, hK, hD0⟩ := hv
  subst hsz
  have hD := hD0.self (sz := s.heap.size)
  generalize hAe : va_A [(x, .inr (0, [.int (nI nD), .int (nI nR), .ref a1, .ref a2, .ref a3, .ref a4, .ref a5, .ref a6, .int (nI ec), .ref a7, .int (nI ac), .long now])), (a1, .inl (cJ, nD, .inr (.inl dv))), (a2, .inl (cI, nD + 1, .inl (fun j => nI (r j)))), (a3, .inl (cJ, cap, .inr (.inl ti))), (a4, .inl (cJ, cap, .inr (.inl va))), (a5, .inl (cJ, 16, .inr (.inl ev))), (a6, .inl (cJ, 16, .inr (.inl ed))), (a7, .inl (cI, nD, .inl ad)), (q, .inl (cJ, 1, .inr (.inl ou)))] s.heap.size = A at hD ⊢
  have hA : ∀ q : Nat, s.heap.size ≤ q → A q := fun q h => by rw [← hAe]; exact Or.inr h
  have hS : va_S A s.heap s.heap [] := va_S.rf
  have hx := B.exec
  have hb := B.bytes
  have hr := B.returns
  have hts := atoms_spec (ws := wsL_assign) B.pre
  have hown : s.vm.findClass RL = some m.cls := findClass_of_methodNamed B.named
  have hlocks := B.notSynchronized
  have hall := fun (w : Cond) (h : w ∈ allw) => hts w (List.mem_cons_of_mem _ h)
  have hl := lv_entry ([.ref x, .int (nI d), .int mo, .long t, .ref q]) (n := 7) (Nat.le_of_ble_eq_true rfl)
  rw [lg_entry_eq]
  generalize (lg_sl ([.ref x, .int (nI d), .int mo, .long t, .ref q]) ++ List.replicate (7 - (lg_sl ([.ref x, .int (nI d), .int mo, .long t, .ref q])).length) Slot.unset).toArray = ls at hl ⊢
  have hl : lv_has ls 7 [(0, .ref x), (1, .int (nI d)), (2, .int mo), (3, .long t), (5, .ref q)] := hl
  refine lv_aload hx hb dL_assign_0 (lv_at hl 4 rfl) ?_
  refine lv_iconst (v := 0) hx hb dL_assign_2 (by decide) ?_
  refine tp_i (y := nI 0) nI_0.symm ?_
  refine lv_aload_n hx hb dL_assign_3 rfl (lv_at hl 0 rfl) ?_
  refine lv_iload_n hx hb dL_assign_4 rfl (lv_at hl 1 rfl) ?_
  refine lv_iload_n hx hb dL_assign_5 rfl (lv_at hl 2 rfl) ?_
  refine lv_lload_n hx hb dL_assign_6 rfl (lv_at hl 3 rfl) ?_
  have hPc := hP.sub (ws' := [(x, .inr (0, [.int (nI nD), .int (nI nR), .ref a1, .ref a2, .ref a3, .ref a4, .ref a5, .ref a6, .int (nI ec), .ref a7, .int (nI ac), .long now])), (a1, .inl (cJ, nD, .inr (.inl dv))), (a2, .inl (cI, nD + 1, .inl (fun j => nI (r j)))), (a3, .inl (cJ, cap, .inr (.inl ti))), (a4, .inl (cJ, cap, .inr (.inl va))), (a5, .inl (cJ, 16, .inr (.inl ev))), (a6, .inl (cJ, 16, .inr (.inl ed))), (a7, .inl (cI, nD, .inl ad))]) [0, 1, 2, 3, 4, 5, 6, 7] rfl
  have hDc := hD.sub (ws' := [(x, .inr (0, [.int (nI nD), .int (nI nR), .ref a1, .ref a2, .ref a3, .ref a4, .ref a5, .ref a6, .int (nI ec), .ref a7, .int (nI ac), .long now])), (a1, .inl (cJ, nD, .inr (.inl dv))), (a2, .inl (cI, nD + 1, .inl (fun j => nI (r j)))), (a3, .inl (cJ, cap, .inr (.inl ti))), (a4, .inl (cJ, cap, .inr (.inl va))), (a5, .inl (cJ, 16, .inr (.inl ev))), (a6, .inl (cJ, 16, .inr (.inl ed))), (a7, .inl (cI, nD, .inl ad))]) [0, 1, 2, 3, 4, 5, 6, 7] (by decide) rfl
  have hFc := va_free (wc := [(x, .inr (0, [.int (nI nD), .int (nI nR), .ref a1, .ref a2, .ref a3, .ref a4, .ref a5, .ref a6, .int (nI ec), .ref a7, .int (nI ac), .long now])), (a1, .inl (cJ, nD, .inr (.inl dv))), (a2, .inl (cI, nD + 1, .inl (fun j => nI (r j)))), (a3, .inl (cJ, cap, .inr (.inl ti))), (a4, .inl (cJ, cap, .inr (.inl va))), (a5, .inl (cJ, 16, .inr (.inl ev))), (a6, .inl (cJ, 16, .inr (.inl ed))), (a7, .inl (cI, nD, .inl ad))]) hD hS hA [0, 1, 2, 3, 4, 5, 6, 7] rfl
  refine va_calli (va_runV (As := [.int (nI d), .int mo, .long t]) (rest := [.int (nI 0), .ref q]) ⟨hx, hb, hml, hown, hall⟩ (c_assign l dC dI x a1 a2 a3 a4 a5 a6 a7 cI cJ nD nR dv r cap ti va ev ed ec ad ac now s.heap.size hI d mo t hd hz0 hg cut pl sm hcut hpl hsm hroom hq) (cwV 3 hall gL_17 rfl rfl rfl (by decide +kernel) ⟨Nat.le_of_ble_eq_true rfl, Nat.le_of_ble_eq_true rfl⟩) ⟨xu_blind, va_recv hK hPc (ci := 0) (q0 := 0) rfl rfl, fun U hU hW => ⟨rfl, by rw [hU], by rw [hU]; exact hPc, va_K.moved hW.alike hK, hDc.weaken (fun _ _ _ _ => trivial)⟩⟩ rfl rfl hl.1 rfl (lv_room (Nat.le_of_ble_eq_true rfl)) dL_assign_7 ⟨Nat.le_of_ble_eq_true rfl, Nat.le_of_ble_eq_true rfl⟩) hS (fun q _ h => hFc q h) hFc (fun v_1 u t9 H1 locs ht9 hvm hw hB hz1 hk1 hS => ?_)
  obtain ⟨hP1, hK1, hD1⟩ := hB
  rw [ht9] at hP1
  obtain ⟨hP, hD⟩ := va_join (wr := [(q, .inl (cJ, 1, .inr (.inl ou)))]) (w1 := [(x, .inr (0, [.int (nI nD), .int (nI nR), .ref a1, .ref a2, .ref a3, .ref a4, .ref a5, .ref a6, .int (nI 0), .ref a7, .int (nI ac), .long now])), (a1, .inl (cJ, nD, .inr (.inl dv))), (a2, .inl (cI, nD + 1, .inl (fun j => nI ((wf_sh r d (pl + cut - sm + ec) (r (d + 1)) (nD + 1)) j)))), (a3, .inl (cJ, cap, .inr (.inl (wf_pt (va_cpy (va_cpy ti ti sm pl (cut - sm)) (va_cpy ti ti sm pl (cut - sm)) (r (d + 1)) (pl + cut - sm + ec) (r nD - r (d + 1))) (pl + cut - sm) (fun i => now + ed i) ec)))), (a4, .inl (cJ, cap, .inr (.inl (wf_pt (va_cpy (va_cpy va va sm pl (cut - sm)) (va_cpy va va sm pl (cut - sm)) (r (d + 1)) (pl + cut - sm + ec) (r nD - r (d + 1))) (pl + cut - sm) ev ec)))), (a5, .inl (cJ, 16, .inr (.inl ev))), (a6, .inl (cJ, 16, .inr (.inl ed))), (a7, .inl (cI, nD, .inl ad))]) hP hD [0, 1, 2, 3, 4, 5, 6, 7] [8] rfl rfl (by decide) (by decide) hk1 hFc hP1 hD1
  generalize H1 = H at hP hS ⊢
  have hP := hP.sub (ws' := [(x, .inr (0, [.int (nI nD), .int (nI nR), .ref a1, .ref a2, .ref a3, .ref a4, .ref a5, .ref a6, .int (nI 0), .ref a7, .int (nI ac), .long now])), (a1, .inl (cJ, nD, .inr (.inl dv))), (a2, .inl (cI, nD + 1, .inl (fun j => nI ((wf_sh r d (pl + cut - sm + ec) (r (d + 1)) (nD + 1)) j)))), (a3, .inl (cJ, cap, .inr (.inl (wf_pt (va_cpy (va_cpy ti ti sm pl (cut - sm)) (va_cpy ti ti sm pl (cut - sm)) (r (d + 1)) (pl + cut - sm + ec) (r nD - r (d + 1))) (pl + cut - sm) (fun i => now + ed i) ec)))), (a4, .inl (cJ, cap, .inr (.inl (wf_pt (va_cpy (va_cpy va va sm pl (cut - sm)) (va_cpy va va sm pl (cut - sm)) (r (d + 1)) (pl + cut - sm + ec) (r nD - r (d + 1))) (pl + cut - sm) ev ec)))), (a5, .inl (cJ, 16, .inr (.inl ev))), (a6, .inl (cJ, 16, .inr (.inl ed))), (a7, .inl (cI, nD, .inl ad)), (q, .inl (cJ, 1, .inr (.inl ou)))]) [1, 2, 3, 4, 5, 6, 7, 8, 0] rfl
  have hD := hD.sub (ws' := [(x, .inr (0, [.int (nI nD), .int (nI nR), .ref a1, .ref a2, .ref a3, .ref a4, .ref a5, .ref a6, .int (nI 0), .ref a7, .int (nI ac), .long now])), (a1, .inl (cJ, nD, .inr (.inl dv))), (a2, .inl (cI, nD + 1, .inl (fun j => nI ((wf_sh r d (pl + cut - sm + ec) (r (d + 1)) (nD + 1)) j)))), (a3, .inl (cJ, cap, .inr (.inl (wf_pt (va_cpy (va_cpy ti ti sm pl (cut - sm)) (va_cpy ti ti sm pl (cut - sm)) (r (d + 1)) (pl + cut - sm + ec) (r nD - r (d + 1))) (pl + cut - sm) (fun i => now + ed i) ec)))), (a4, .inl (cJ, cap, .inr (.inl (wf_pt (va_cpy (va_cpy va va sm pl (cut - sm)) (va_cpy va va sm pl (cut - sm)) (r (d + 1)) (pl + cut - sm + ec) (r nD - r (d + 1))) (pl + cut - sm) ev ec)))), (a5, .inl (cJ, 16, .inr (.inl ev))), (a6, .inl (cJ, 16, .inr (.inl ed))), (a7, .inl (cI, nD, .inl ad)), (q, .inl (cJ, 1, .inr (.inl ou)))]) [1, 2, 3, 4, 5, 6, 7, 8, 0] (by decide) rfl
  obtain rfl : v_1 = nI (sm - pl + (r (d + 1) - cut)) := hw
  refine lv_i2l hx hb dL_assign_10 rfl ?_
  refine xa_last hx hb hK hP hD hS 8 1 rfl rfl (by omega) (by omega) dL_assign_11 (fun H locs hP hD hS => ?_)
  have hP : va_P (dC, dI) vwCl [(x, .inr (0, [.int (nI nD), .int (nI nR), .ref a1, .ref a2, .ref a3, .ref a4, .ref a5, .ref a6, .int (nI 0), .ref a7, .int (nI ac), .long now])), (a1, .inl (cJ, nD, .inr (.inl dv))), (a2, .inl (cI, nD + 1, .inl (fun j => nI ((wf_sh r d (pl + cut - sm + ec) (r (d + 1)) (nD + 1)) j)))), (a3, .inl (cJ, cap, .inr (.inl (wf_pt (va_cpy (va_cpy ti ti sm pl (cut - sm)) (va_cpy ti ti sm pl (cut - sm)) (r (d + 1)) (pl + cut - sm + ec) (r nD - r (d + 1))) (pl + cut - sm) (fun i => now + ed i) ec)))), (a4, .inl (cJ, cap, .inr (.inl (wf_pt (va_cpy (va_cpy va va sm pl (cut - sm)) (va_cpy va va sm pl (cut - sm)) (r (d + 1)) (pl + cut - sm + ec) (r nD - r (d + 1))) (pl + cut - sm) ev ec)))), (a5, .inl (cJ, 16, .inr (.inl ev))), (a6, .inl (cJ, 16, .inr (.inl ed))), (a7, .inl (cI, nD, .inl ad)), (q, .inl (cJ, 1, .inr (.inl (vp_updL ou 0 ((nI (sm - pl + (r (d + 1) - cut))).toInt64)))))] H := hP
  have hD : va_D A [(x, .inr (0, [.int (nI nD), .int (nI nR), .ref a1, .ref a2, .ref a3, .ref a4, .ref a5, .ref a6, .int (nI 0), .ref a7, .int (nI ac), .long now])), (a1, .inl (cJ, nD, .inr (.inl dv))), (a2, .inl (cI, nD + 1, .inl (fun j => nI ((wf_sh r d (pl + cut - sm + ec) (r (d + 1)) (nD + 1)) j)))), (a3, .inl (cJ, cap, .inr (.inl (wf_pt (va_cpy (va_cpy ti ti sm pl (cut - sm)) (va_cpy ti ti sm pl (cut - sm)) (r (d + 1)) (pl + cut - sm + ec) (r nD - r (d + 1))) (pl + cut - sm) (fun i => now + ed i) ec)))), (a4, .inl (cJ, cap, .inr (.inl (wf_pt (va_cpy (va_cpy va va sm pl (cut - sm)) (va_cpy va va sm pl (cut - sm)) (r (d + 1)) (pl + cut - sm + ec) (r nD - r (d + 1))) (pl + cut - sm) ev ec)))), (a5, .inl (cJ, 16, .inr (.inl ev))), (a6, .inl (cJ, 16, .inr (.inl ed))), (a7, .inl (cI, nD, .inl ad)), (q, .inl (cJ, 1, .inr (.inl (vp_updL ou 0 ((nI (sm - pl + (r (d + 1) - cut))).toInt64)))))] := hD
  refine lv_goto (tgt := 27) hx hb dL_assign_12 (by decide) ?_
  refine lv_iconst (v := 0) hx hb dL_assign_27 (by decide) ?_
  exact W.iret (v := 0) hx hb hr (fun t9 ht hW => ⟨⟨0, (), rfl, rfl, by rw [ht]; exact hP, va_K.moved hW.alike hK, hD⟩, hS.F ht⟩) hS.2.2 dL_assign_28
set_option maxHeartbeats 4000000 in
set_option maxRecDepth 100000 in
theorem h_assign5 (l : Launch) (dC : Nat → ClassId) (dI : Nat → Nat → Nat) (x a1 a2 a3 a4 a5 a6 a7 : Nat) (cI cJ : ClassId) (nD nR : Nat) (dv : Nat → Int64) (r : Nat → Nat) (cap : Nat) (ti va ev ed : Nat → Int64) (ec : Nat) (ad : Nat → Int32) (ac : Nat) (now : Int64) (q : Nat) (ou : Nat → Int64) (sz : Nat) (hI : wf_R nD nR cap ec ac r) (d : Nat) (mo : Int32) (t : Int64) (hd : d < nD) (hz0 : 0 < ec) (hg : wf_lg mo (ed 0) t ∧ wf_dg ed now ec 0 (-1)) (cut pl sm : Nat) (hcut : cut = wf_fb ti (now + ed 0 - 1) (r (d + 1) - r d) (r d)) (hpl : pl = wf_fb ti (now + ed 0 - wf_lim mo (ed 0) t - 1) (cut - r d) (r d)) (hsm : sm = wf_ss va (ev 0) pl (cut - pl)) (hroom : r nD - (sm - pl + (r (d + 1) - cut)) + ec ≤ nR) (hq : cap < r nD + (pl + cut - sm + ec) - r (d + 1)) (np : Nat) (hnp : np = max (r nD + (pl + cut - sm + ec) - r (d + 1)) (min nR (2 * cap))) : Met l yL_assign wsL_assign ({ frames := 5, cells := 2, slots := 2 * np, locals := 163 }) (va_Pc [.ref x, .int (nI d), .int mo, .long t, .ref q] (fun U => U.heap.size = sz ∧ va_P (dC, dI) vwCl [(x, .inr (0, [.int (nI nD), .int (nI nR), .ref a1, .ref a2, .ref a3, .ref a4, .ref a5, .ref a6, .int (nI ec), .ref a7, .int (nI ac), .long now])), (a1, .inl (cJ, nD, .inr (.inl dv))), (a2, .inl (cI, nD + 1, .inl (fun j => nI (r j)))), (a3, .inl (cJ, cap, .inr (.inl ti))), (a4, .inl (cJ, cap, .inr (.inl va))), (a5, .inl (cJ, 16, .inr (.inl ev))), (a6, .inl (cJ, 16, .inr (.inl ed))), (a7, .inl (cI, nD, .inl ad)), (q, .inl (cJ, 1, .inr (.inl ou)))] U.heap ∧ va_K (dC, dI) vwCl [(cI, .int), (cJ, .long)] U ∧ va_D (fun _ => True) [(x, .inr (0, [.int (nI nD), .int (nI nR), .ref a1, .ref a2, .ref a3, .ref a4, .ref a5, .ref a6, .int (nI ec), .ref a7, .int (nI ac), .long now])), (a1, .inl (cJ, nD, .inr (.inl dv))), (a2, .inl (cI, nD + 1, .inl (fun j => nI (r j)))), (a3, .inl (cJ, cap, .inr (.inl ti))), (a4, .inl (cJ, cap, .inr (.inl va))), (a5, .inl (cJ, 16, .inr (.inl ev))), (a6, .inl (cJ, 16, .inr (.inl ed))), (a7, .inl (cI, nD, .inl ad)), (q, .inl (cJ, 1, .inr (.inl ou)))])) (va_Qi (fun (v : Int32) (_ : Unit) => v = 0) (fun _ t9 => ∃ b3 b4 : Nat, va_P (dC, dI) vwCl [(x, .inr (0, [.int (nI nD), .int (nI nR), .ref a1, .ref a2, .ref b3, .ref b4, .ref a5, .ref a6, .int (nI 0), .ref a7, .int (nI ac), .long now])), (a1, .inl (cJ, nD, .inr (.inl dv))), (a2, .inl (cI, nD + 1, .inl (fun j => nI ((wf_sh r d (pl + cut - sm + ec) (r (d + 1)) (nD + 1)) j)))), (b3, .inl (cJ, np, .inr (.inl (wf_pt (va_cpy (va_cpy (va_cpy ti ti sm pl (cut - sm)) (fun _ => 0) 0 0 cap) (va_cpy (va_cpy ti ti sm pl (cut - sm)) (fun _ => 0) 0 0 cap) (r (d + 1)) (pl + cut - sm + ec) (r nD - r (d + 1))) (pl + cut - sm) (fun i => now + ed i) ec)))), (b4, .inl (cJ, np, .inr (.inl (wf_pt (va_cpy (va_cpy (va_cpy va va sm pl (cut - sm)) (fun _ => 0) 0 0 cap) (va_cpy (va_cpy va va sm pl (cut - sm)) (fun _ => 0) 0 0 cap) (r (d + 1)) (pl + cut - sm + ec) (r nD - r (d + 1))) (pl + cut - sm) ev ec)))), (a5, .inl (cJ, 16, .inr (.inl ev))), (a6, .inl (cJ, 16, .inr (.inl ed))), (a7, .inl (cI, nD, .inl ad)), (q, .inl (cJ, 1, .inr (.inl (vp_updL ou 0 ((nI (sm - pl + (r (d + 1) - cut))).toInt64)))))] t9.heap ∧ va_K (dC, dI) vwCl [(cI, .int), (cJ, .long)] t9 ∧ va_D (va_A [(x, .inr (0, [.int (nI nD), .int (nI nR), .ref a1, .ref a2, .ref a3, .ref a4, .ref a5, .ref a6, .int (nI ec), .ref a7, .int (nI ac), .long now])), (a1, .inl (cJ, nD, .inr (.inl dv))), (a2, .inl (cI, nD + 1, .inl (fun j => nI (r j)))), (a3, .inl (cJ, cap, .inr (.inl ti))), (a4, .inl (cJ, cap, .inr (.inl va))), (a5, .inl (cJ, 16, .inr (.inl ev))), (a6, .inl (cJ, 16, .inr (.inl ed))), (a7, .inl (cI, nD, .inl ad)), (q, .inl (cJ, 1, .inr (.inl ou)))] sz) [(x, .inr (0, [.int (nI nD), .int (nI nR), .ref a1, .ref a2, .ref b3, .ref b4, .ref a5, .ref a6, .int (nI 0), .ref a7, .int (nI ac), .long now])), (a1, .inl (cJ, nD, .inr (.inl dv))), (a2, .inl (cI, nD + 1, .inl (fun j => nI ((wf_sh r d (pl + cut - sm + ec) (r (d + 1)) (nD + 1)) j)))), (b3, .inl (cJ, np, .inr (.inl (wf_pt (va_cpy (va_cpy (va_cpy ti ti sm pl (cut - sm)) (fun _ => 0) 0 0 cap) (va_cpy (va_cpy ti ti sm pl (cut - sm)) (fun _ => 0) 0 0 cap) (r (d + 1)) (pl + cut - sm + ec) (r nD - r (d + 1))) (pl + cut - sm) (fun i => now + ed i) ec)))), (b4, .inl (cJ, np, .inr (.inl (wf_pt (va_cpy (va_cpy (va_cpy va va sm pl (cut - sm)) (fun _ => 0) 0 0 cap) (va_cpy (va_cpy va va sm pl (cut - sm)) (fun _ => 0) 0 0 cap) (r (d + 1)) (pl + cut - sm + ec) (r nD - r (d + 1))) (pl + cut - sm) ev ec)))), (a5, .inl (cJ, 16, .inr (.inl ev))), (a6, .inl (cJ, 16, .inr (.inl ed))), (a7, .inl (cI, nD, .inl ad)), (q, .inl (cJ, 1, .inr (.inl (vp_updL ou 0 ((nI (sm - pl + (r (d + 1) - cut))).toInt64)))))]) (va_A [(x, .inr (0, [.int (nI nD), .int (nI nR), .ref a1, .ref a2, .ref a3, .ref a4, .ref a5, .ref a6, .int (nI ec), .ref a7, .int (nI ac), .long now])), (a1, .inl (cJ, nD, .inr (.inl dv))), (a2, .inl (cI, nD + 1, .inl (fun j => nI (r j)))), (a3, .inl (cJ, cap, .inr (.inl ti))), (a4, .inl (cJ, cap, .inr (.inl va))), (a5, .inl (cJ, 16, .inr (.inl ev))), (a6, .inl (cJ, 16, .inr (.inl ed))), (a7, .inl (cI, nD, .inl ad)), (q, .inl (cJ, 1, .inr (.inl ou)))] sz)) 2 (2 * np) (va_A [(x, .inr (0, [.int (nI nD), .int (nI nR), .ref a1, .ref a2, .ref a3, .ref a4, .ref a5, .ref a6, .int (nI ec), .ref a7, .int (nI ac), .long now])), (a1, .inl (cJ, nD, .inr (.inl dv))), (a2, .inl (cI, nD + 1, .inl (fun j => nI (r j)))), (a3, .inl (cJ, cap, .inr (.inl ti))), (a4, .inl (cJ, cap, .inr (.inl va))), (a5, .inl (cJ, 16, .inr (.inl ev))), (a6, .inl (cJ, 16, .inr (.inl ed))), (a7, .inl (cI, nD, .inl ad)), (q, .inl (cJ, 1, .inr (.inl ou)))] sz) := by
  refine va_MetW (cc := cL_assign) (maxL := 7) (ret := (some .int)) (hh := hhL_assign) (by decide) rfl ?_
  intro p e s m args below meth c s₁ B hml hv
  obtain ⟨rfl, hsz, hP, hK, hD0⟩ := hv
  subst hsz
  have hD := hD0.self (sz := s.heap.size)
  generalize hAe : va_A [(x, .inr (0, [.int (nI nD), .int (nI nR), .ref a1, .ref a2, .ref a3, .ref a4, .ref a5, .ref a6, .int (nI ec), .ref a7, .int (nI ac), .long now])), (a1, .inl (cJ, nD, .inr (.inl dv))), (a2, .inl (cI, nD + 1, .inl (fun j => nI (r j)))), (a3, .inl (cJ, cap, .inr (.inl ti))), (a4, .inl (cJ, cap, .inr (.inl va))), (a5, .inl (cJ, 16, .inr (.inl ev))), (a6, .inl (cJ, 16, .inr (.inl ed))), (a7, .inl (cI, nD, .inl ad)), (q, .inl (cJ, 1, .inr (.inl ou)))] s.heap.size = A at hD ⊢
  have hA : ∀ q : Nat, s.heap.size ≤ q → A q := fun q h => by rw [← hAe]; exact Or.inr h
  have hS : va_S A s.heap s.heap [] := va_S.rf
  have hx := B.exec
  have hb := B.bytes
  have hr := B.returns
  have hts := atoms_spec (ws := wsL_assign) B.pre
  have hown : s.vm.findClass RL = some m.cls := findClass_of_methodNamed B.named
  have hlocks := B.notSynchronized
  have hall := fun (w : Cond) (h : w ∈ allw) => hts w (List.mem_cons_of_mem _ h)
  have hl := lv_entry ([.ref x, .int (nI d), .int mo, .long t, .ref q]) (n := 7) (Nat.le_of_ble_eq_true rfl)
  rw [lg_entry_eq]
  generalize (lg_sl ([.ref x, .int (nI d), .int mo, .long t, .ref q]) ++ List.replicate (7 - (lg_sl ([.ref x, .int (nI d), .int mo, .long t, .ref q])).length) Slot.unset).toArray = ls at hl ⊢
  have hl : lv_has ls 7 [(0, .ref x), (1, .int (nI d)), (2, .int mo), (3, .long t), (5, .ref q)] := hl
  refine lv_aload hx hb dL_assign_0 (lv_at hl 4 rfl) ?_
  refine lv_iconst (v := 0) hx hb dL_assign_2 (by decide) ?_
  refine tp_i (y := nI 0) nI_0.symm ?_
  refine lv_aload_n hx hb dL_assign_3 rfl (lv_at hl 0 rfl) ?_
  refine lv_iload_n hx hb dL_assign_4 rfl (lv_at hl 1 rfl) ?_
  refine lv_iload_n hx hb dL_assign_5 rfl (lv_at hl 2 rfl) ?_
  refine lv_lload_n hx hb dL_assign_6 rfl (lv_at hl 3 rfl) ?_
  have hPc := hP.sub (ws' := [(x, .inr (0, [.int (nI nD), .int (nI nR), .ref a1, .ref a2, .ref a3, .ref a4, .ref a5, .ref a6, .int (nI ec), .ref a7, .int (nI ac), .long now])), (a1, .inl (cJ, nD, .inr (.inl dv))), (a2, .inl (cI, nD + 1, .inl (fun j => nI (r j)))), (a3, .inl (cJ, cap, .inr (.inl ti))), (a4, .inl (cJ, cap, .inr (.inl va))), (a5, .inl (cJ, 16, .inr (.inl ev))), (a6, .inl (cJ, 16, .inr (.inl ed))), (a7, .inl (cI, nD, .inl ad))]) [0, 1, 2, 3, 4, 5, 6, 7] rfl
  have hDc := hD.sub (ws' := [(x, .inr (0, [.int (nI nD), .int (nI nR), .ref a1, .ref a2, .ref a3, .ref a4, .ref a5, .ref a6, .int (nI ec), .ref a7, .int (nI ac), .long now])), (a1, .inl (cJ, nD, .inr (.inl dv))), (a2, .inl (cI, nD + 1, .inl (fun j => nI (r j)))), (a3, .inl (cJ, cap, .inr (.inl ti))), (a4, .inl (cJ, cap, .inr (.inl va))), (a5, .inl (cJ, 16, .inr (.inl ev))), (a6, .inl (cJ, 16, .inr (.inl ed))), (a7, .inl (cI, nD, .inl ad))]) [0, 1, 2, 3, 4, 5, 6, 7] (by decide) rfl
  have hFc := va_free (wc := [(x, .inr (0, [.int (nI nD), .int (nI nR), .ref a1, .ref a2, .ref a3, .ref a4, .ref a5, .ref a6, .int (nI ec), .ref a7, .int (nI ac), .long now])), (a1, .inl (cJ, nD, .inr (.inl dv))), (a2, .inl (cI, nD + 1, .inl (fun j => nI (r j)))), (a3, .inl (cJ, cap, .inr (.inl ti))), (a4, .inl (cJ, cap, .inr (.inl va))), (a5, .inl (cJ, 16, .inr (.inl ev))), (a6, .inl (cJ, 16, .inr (.inl ed))), (a7, .inl (cI, nD, .inl ad))]) hD hS hA [0, 1, 2, 3, 4, 5, 6, 7] rfl
  refine va_calli (va_runV (As := [.int (nI d), .int mo, .long t]) (rest := [.int (nI 0), .ref q]) ⟨hx, hb, hml, hown, hall⟩ (c_assign2 l dC dI x a1 a2 a3 a4 a5 a6 a7 cI cJ nD nR dv r cap ti va ev ed ec ad ac now s.heap.size hI d mo t hd hz0 hg cut pl sm hcut hpl hsm hroom hq np hnp) (cwV 3 hall gL_17 rfl rfl rfl (by decide +kernel) ⟨Nat.le_of_ble_eq_true rfl, Nat.le_of_ble_eq_true rfl⟩) ⟨xu_blind, va_recv hK hPc (ci := 0) (q0 := 0) rfl rfl, fun U hU hW => ⟨rfl, by rw [hU], by rw [hU]; exact hPc, va_K.moved hW.alike hK, hDc.weaken (fun _ _ _ _ => trivial)⟩⟩ rfl rfl hl.1 rfl (lv_room (Nat.le_of_ble_eq_true rfl)) dL_assign_7 ⟨by show _ ≤ 2; omega, by show _ ≤ 2 * np; omega⟩) hS (fun q _ h => hFc q h) hFc (fun v_1 u t9 H1 locs ht9 hvm hw hB hz1 hk1 hS => ?_)
  obtain ⟨b3, b4, hP1, hK1, hD1⟩ := hB
  rw [ht9] at hP1
  obtain ⟨hP, hD⟩ := va_join (wr := [(q, .inl (cJ, 1, .inr (.inl ou)))]) (w1 := [(x, .inr (0, [.int (nI nD), .int (nI nR), .ref a1, .ref a2, .ref b3, .ref b4, .ref a5, .ref a6, .int (nI 0), .ref a7, .int (nI ac), .long now])), (a1, .inl (cJ, nD, .inr (.inl dv))), (a2, .inl (cI, nD + 1, .inl (fun j => nI ((wf_sh r d (pl + cut - sm + ec) (r (d + 1)) (nD + 1)) j)))), (b3, .inl (cJ, np, .inr (.inl (wf_pt (va_cpy (va_cpy (va_cpy ti ti sm pl (cut - sm)) (fun _ => 0) 0 0 cap) (va_cpy (va_cpy ti ti sm pl (cut - sm)) (fun _ => 0) 0 0 cap) (r (d + 1)) (pl + cut - sm + ec) (r nD - r (d + 1))) (pl + cut - sm) (fun i => now + ed i) ec)))), (b4, .inl (cJ, np, .inr (.inl (wf_pt (va_cpy (va_cpy (va_cpy va va sm pl (cut - sm)) (fun _ => 0) 0 0 cap) (va_cpy (va_cpy va va sm pl (cut - sm)) (fun _ => 0) 0 0 cap) (r (d + 1)) (pl + cut - sm + ec) (r nD - r (d + 1))) (pl + cut - sm) ev ec)))), (a5, .inl (cJ, 16, .inr (.inl ev))), (a6, .inl (cJ, 16, .inr (.inl ed))), (a7, .inl (cI, nD, .inl ad))]) hP hD [0, 1, 2, 3, 4, 5, 6, 7] [8] rfl rfl (by decide) (by decide) hk1 hFc hP1 hD1
  generalize H1 = H at hP hS ⊢
  have hP := hP.sub (ws' := [(x, .inr (0, [.int (nI nD), .int (nI nR), .ref a1, .ref a2, .ref b3, .ref b4, .ref a5, .ref a6, .int (nI 0), .ref a7, .int (nI ac), .long now])), (a1, .inl (cJ, nD, .inr (.inl dv))), (a2, .inl (cI, nD + 1, .inl (fun j => nI ((wf_sh r d (pl + cut - sm + ec) (r (d + 1)) (nD + 1)) j)))), (b3, .inl (cJ, np, .inr (.inl (wf_pt (va_cpy (va_cpy (va_cpy ti ti sm pl (cut - sm)) (fun _ => 0) 0 0 cap) (va_cpy (va_cpy ti ti sm pl (cut - sm)) (fun _ => 0) 0 0 cap) (r (d + 1)) (pl + cut - sm + ec) (r nD - r (d + 1))) (pl + cut - sm) (fun i => now + ed i) ec)))), (b4, .inl (cJ, np, .inr (.inl (wf_pt (va_cpy (va_cpy (va_cpy va va sm pl (cut - sm)) (fun _ => 0) 0 0 cap) (va_cpy (va_cpy va va sm pl (cut - sm)) (fun _ => 0) 0 0 cap) (r (d + 1)) (pl + cut - sm + ec) (r nD - r (d + 1))) (pl + cut - sm) ev ec)))), (a5, .inl (cJ, 16, .inr (.inl ev))), (a6, .inl (cJ, 16, .inr (.inl ed))), (a7, .inl (cI, nD, .inl ad)), (q, .inl (cJ, 1, .inr (.inl ou)))]) [1, 2, 3, 4, 5, 6, 7, 8, 0] rfl
  have hD := hD.sub (ws' := [(x, .inr (0, [.int (nI nD), .int (nI nR), .ref a1, .ref a2, .ref b3, .ref b4, .ref a5, .ref a6, .int (nI 0), .ref a7, .int (nI ac), .long now])), (a1, .inl (cJ, nD, .inr (.inl dv))), (a2, .inl (cI, nD + 1, .inl (fun j => nI ((wf_sh r d (pl + cut - sm + ec) (r (d + 1)) (nD + 1)) j)))), (b3, .inl (cJ, np, .inr (.inl (wf_pt (va_cpy (va_cpy (va_cpy ti ti sm pl (cut - sm)) (fun _ => 0) 0 0 cap) (va_cpy (va_cpy ti ti sm pl (cut - sm)) (fun _ => 0) 0 0 cap) (r (d + 1)) (pl + cut - sm + ec) (r nD - r (d + 1))) (pl + cut - sm) (fun i => now + ed i) ec)))), (b4, .inl (cJ, np, .inr (.inl (wf_pt (va_cpy (va_cpy (va_cpy va va sm pl (cut - sm)) (fun _ => 0) 0 0 cap) (va_cpy (va_cpy va va sm pl (cut - sm)) (fun _ => 0) 0 0 cap) (r (d + 1)) (pl + cut - sm + ec) (r nD - r (d + 1))) (pl + cut - sm) ev ec)))), (a5, .inl (cJ, 16, .inr (.inl ev))), (a6, .inl (cJ, 16, .inr (.inl ed))), (a7, .inl (cI, nD, .inl ad)), (q, .inl (cJ, 1, .inr (.inl ou)))]) [1, 2, 3, 4, 5, 6, 7, 8, 0] (by decide) rfl
  obtain rfl : v_1 = nI (sm - pl + (r (d + 1) - cut)) := hw
  refine lv_i2l hx hb dL_assign_10 rfl ?_
  refine xa_last hx hb hK hP hD hS 8 1 rfl rfl (by omega) (by omega) dL_assign_11 (fun H locs hP hD hS => ?_)
  have hP : va_P (dC, dI) vwCl [(x, .inr (0, [.int (nI nD), .int (nI nR), .ref a1, .ref a2, .ref b3, .ref b4, .ref a5, .ref a6, .int (nI 0), .ref a7, .int (nI ac), .long now])), (a1, .inl (cJ, nD, .inr (.inl dv))), (a2, .inl (cI, nD + 1, .inl (fun j => nI ((wf_sh r d (pl + cut - sm + ec) (r (d + 1)) (nD + 1)) j)))), (b3, .inl (cJ, np, .inr (.inl (wf_pt (va_cpy (va_cpy (va_cpy ti ti sm pl (cut - sm)) (fun _ => 0) 0 0 cap) (va_cpy (va_cpy ti ti sm pl (cut - sm)) (fun _ => 0) 0 0 cap) (r (d + 1)) (pl + cut - sm + ec) (r nD - r (d + 1))) (pl + cut - sm) (fun i => now + ed i) ec)))), (b4, .inl (cJ, np, .inr (.inl (wf_pt (va_cpy (va_cpy (va_cpy va va sm pl (cut - sm)) (fun _ => 0) 0 0 cap) (va_cpy (va_cpy va va sm pl (cut - sm)) (fun _ => 0) 0 0 cap) (r (d + 1)) (pl + cut - sm + ec) (r nD - r (d + 1))) (pl + cut - sm) ev ec)))), (a5, .inl (cJ, 16, .inr (.inl ev))), (a6, .inl (cJ, 16, .inr (.inl ed))), (a7, .inl (cI, nD, .inl ad)), (q, .inl (cJ, 1, .inr (.inl (vp_updL ou 0 ((nI (sm - pl + (r (d + 1) - cut))).toInt64)))))] H := hP
  have hD : va_D A [(x, .inr (0, [.int (nI nD), .int (nI nR), .ref a1, .ref a2, .ref b3, .ref b4, .ref a5, .ref a6, .int (nI 0), .ref a7, .int (nI ac), .long now])), (a1, .inl (cJ, nD, .inr (.inl dv))), (a2, .inl (cI, nD + 1, .inl (fun j => nI ((wf_sh r d (pl + cut - sm + ec) (r (d + 1)) (nD + 1)) j)))), (b3, .inl (cJ, np, .inr (.inl (wf_pt (va_cpy (va_cpy (va_cpy ti ti sm pl (cut - sm)) (fun _ => 0) 0 0 cap) (va_cpy (va_cpy ti ti sm pl (cut - sm)) (fun _ => 0) 0 0 cap) (r (d + 1)) (pl + cut - sm + ec) (r nD - r (d + 1))) (pl + cut - sm) (fun i => now + ed i) ec)))), (b4, .inl (cJ, np, .inr (.inl (wf_pt (va_cpy (va_cpy (va_cpy va va sm pl (cut - sm)) (fun _ => 0) 0 0 cap) (va_cpy (va_cpy va va sm pl (cut - sm)) (fun _ => 0) 0 0 cap) (r (d + 1)) (pl + cut - sm + ec) (r nD - r (d + 1))) (pl + cut - sm) ev ec)))), (a5, .inl (cJ, 16, .inr (.inl ev))), (a6, .inl (cJ, 16, .inr (.inl ed))), (a7, .inl (cI, nD, .inl ad)), (q, .inl (cJ, 1, .inr (.inl (vp_updL ou 0 ((nI (sm - pl + (r (d + 1) - cut))).toInt64)))))] := hD
  refine lv_goto (tgt := 27) hx hb dL_assign_12 (by decide) ?_
  refine lv_iconst (v := 0) hx hb dL_assign_27 (by decide) ?_
  refine W.widen (k := 2) (n := 2 * np) (by omega) (by omega) ?_
  exact W.iret (v := 0) hx hb hr (fun t9 ht hW => ⟨⟨0, (), rfl, rfl, b3, b4, by rw [ht]; exact hP, va_K.moved hW.alike hK, hD⟩, hS.F ht⟩) hS.2.2 dL_assign_28
