set_option maxHeartbeats 4000000 in
set_option maxRecDepth 100000 in
theorem c_copyOf (l : Launch) (dC : Nat → ClassId) (dI : Nat → Nat → Nat) (a : Nat) (cJ : ClassId) (N q : Nat) (f : Nat → Int64) (sz : Nat) (h1 : N < q) (h2 : q ≤ 8192) : Met l yJ7_copyOf wsJ7_copyOf ({ frames := 1, cells := 1, slots := q, locals := 60 }) (va_Pc [.ref a, .int (nI q)] (fun U => U.heap.size = sz ∧ va_P (dC, dI) vwCl [(a, .inl (cJ, N, .inr (.inl f)))] U.heap ∧ va_K (dC, dI) vwCl [(cJ, .long)] U ∧ va_D (fun _ => True) [(a, .inl (cJ, N, .inr (.inl f)))])) (va_Qr (fun _ : Unit => True) (fun _ b t9 => va_P (dC, dI) vwCl [(a, .inl (cJ, N, .inr (.inl f))), (b, .inl (cJ, q, .inr (.inl (va_cpy f (fun _ => 0) 0 0 N))))] t9.heap ∧ va_K (dC, dI) vwCl [(cJ, .long)] t9 ∧ va_D (va_A [(a, .inl (cJ, N, .inr (.inl f)))] sz) [(a, .inl (cJ, N, .inr (.inl f))), (b, .inl (cJ, q, .inr (.inl (va_cpy f (fun _ => 0) 0 0 N))))]) (va_A [(a, .inl (cJ, N, .inr (.inl f)))] sz)) 1 q (va_A [(a, .inl (cJ, N, .inr (.inl f)))] sz) := by
  refine Met.ofW (cc := cJ7_copyOf) (maxL := 3) (ret := (some (.array .long))) (by decide) rfl ?_
  intro p e s m args below meth c s₁ B hml hv
  obtain ⟨rfl, hsz, hP, hK, hD0⟩ := hv
  subst hsz
  have hD := hD0.self (sz := s.heap.size)
  generalize hAe : va_A [(a, .inl (cJ, N, .inr (.inl f)))] s.heap.size = A at hD ⊢
  have hA : ∀ q : Nat, s.heap.size ≤ q → A q := fun q h => by rw [← hAe]; exact Or.inr h
  have hS : va_S A s.heap s.heap [] := va_S.rf
  have hx := B.exec
  have hb := B.bytes
  have hr := B.returns
  have hts := atoms_spec (ws := wsJ7_copyOf) B.pre
  have hown : s.vm.findClass RJ7 = some m.cls := findClass_of_methodNamed B.named
  have hlocks := B.notSynchronized
  have hall := fun (w : Cond) (h : w ∈ allw) => hts w (List.mem_cons_of_mem _ h)
  have hl := lv_entry ([.ref a, .int (nI q)]) (n := 3) (Nat.le_of_ble_eq_true rfl)
  rw [lg_entry_eq]
  generalize (lg_sl ([.ref a, .int (nI q)]) ++ List.replicate (3 - (lg_sl ([.ref a, .int (nI q)])).length) Slot.unset).toArray = ls at hl ⊢
  have hl : lv_has ls 3 [(0, .ref a), (1, .int (nI q))] := hl
  refine lv_iload_n hx hb dJ7_copyOf_0 rfl (lv_at hl 1 rfl) ?_
  refine lv_aload_n hx hb dJ7_copyOf_1 rfl (lv_at hl 0 rfl) ?_
  refine va_alen (v := nI N) hx hb hK hP 0 0 rfl rfl rfl dJ7_copyOf_2 ?_
  refine lv_icmp_ne (tgt := 14) hx hb dJ7_copyOf_3 (by decide) (fun c_1 => ?_) (fun c_1 => ?_)
  · refine lv_iload_n hx hb dJ7_copyOf_14 rfl (lv_at hl 1 rfl) ?_
    refine xa_newl hx hb (hall _ kw_60) hK hP hD hS hA (by omega) (Nat.le_of_ble_eq_true rfl) (by show 0 + q ≤ q; omega) dJ7_copyOf_15 (fun b cA H hK hP hD hS => ?_)
    obtain rfl : cJ = cA := xk_sameL hK (t1 := 0) (t2 := 1) rfl rfl
    have hP : va_P (dC, dI) vwCl [(a, .inl (cJ, N, .inr (.inl f))), (b, .inl (cJ, q, .inr (.inl (fun _ => 0))))] H := hP
    have hD : va_D A [(a, .inl (cJ, N, .inr (.inl f))), (b, .inl (cJ, q, .inr (.inl (fun _ => 0))))] := hD
    refine W.widen (k := 1) (n := q) (by omega) (by omega) ?_
    refine lv_astore_n (lv' := [(2, .ref b), (0, .ref a), (1, .int (nI q))]) hx hb dJ7_copyOf_17 rfl hl (by decide) rfl (fun ls hl => ?_)
    refine lv_aload_n hx hb dJ7_copyOf_18 rfl (lv_at hl 1 rfl) ?_
    refine lv_iconst (v := 0) hx hb dJ7_copyOf_19 (by decide) ?_
    refine tp_i (y := nI 0) nI_0.symm ?_
    refine lv_aload_n hx hb dJ7_copyOf_20 rfl (lv_at hl 0 rfl) ?_
    refine lv_iconst (v := 0) hx hb dJ7_copyOf_21 (by decide) ?_
    refine tp_i (y := nI 0) nI_0.symm ?_
    refine lv_aload_n hx hb dJ7_copyOf_22 rfl (lv_at hl 1 rfl) ?_
    refine va_alen (v := nI N) hx hb hK hP 0 0 rfl rfl rfl dJ7_copyOf_23 ?_
    refine lv_iload_n hx hb dJ7_copyOf_24 rfl (lv_at hl 2 rfl) ?_
    refine va_mmin hx hb (hml.trans hl.1.symm) hown (hall _ kw_266) (hall _ kw_21) (hall _ kw_2) (hall _ kw_22) (Nat.le_of_ble_eq_true rfl) (Nat.le_of_ble_eq_true rfl) (Nat.le_refl _) (Nat.le_refl _) dJ7_copyOf_25 ?_
    refine tp_i (y := nI N) ((xm_min (by omega) (by omega)).trans (by rw [Nat.min_eq_left (by omega)])) ?_
    refine xa_copyl2 (sp := 0) (dp := 0) (n := N) hx hb (hml.trans hl.1.symm) hown (hall _ kw_267) (hall _ kw_244) (hall _ kw_243) (hall _ kw_10) hK hP hD hS 0 1 0 rfl rfl rfl (by omega) (by omega) (by omega) (by omega) (Nat.le_of_ble_eq_true rfl) (Nat.le_of_ble_eq_true rfl) dJ7_copyOf_28 (fun H locs hP hD hS => ?_)
    have hP : va_P (dC, dI) vwCl [(a, .inl (cJ, N, .inr (.inl f))), (b, .inl (cJ, q, .inr (.inl (va_cpy f (fun _ => 0) 0 0 N))))] H := hP
    have hD : va_D A [(a, .inl (cJ, N, .inr (.inl f))), (b, .inl (cJ, q, .inr (.inl (va_cpy f (fun _ => 0) 0 0 N))))] := hD
    refine lv_aload_n hx hb dJ7_copyOf_31 rfl (lv_at hl 0 rfl) ?_
    exact W.aret (v := .ref b) hx hb hr (Or.inr ⟨_, rfl⟩) (Or.inr ⟨_, rfl⟩) (fun t9 ht hW => ⟨⟨(), b, rfl, trivial, by rw [ht]; exact hP, (va_K.moved hW.alike hK).sub [0] rfl, hD⟩, hS.F ht⟩) hS.2.2 dJ7_copyOf_32
  · exact absurd ((nI_eq (by omega) (by omega)).mp c_1) (by omega)
set_option maxHeartbeats 4000000 in
set_option maxRecDepth 100000 in
theorem c_makePlaces2 (l : Launch) (dC : Nat → ClassId) (dI : Nat → Nat → Nat) (x a1 a2 a3 a4 a5 a6 a7 : Nat) (cI cJ : ClassId) (nD nR : Nat) (dv : Nat → Int64) (r : Nat → Nat) (cap : Nat) (ti va ev ed : Nat → Int64) (ec : Nat) (ad : Nat → Int32) (ac : Nat) (now : Int64) (sz : Nat) (q : Nat) (hq : cap < q) (hqR : q ≤ nR) (hnR : nR ≤ 8192) (np : Nat) (hnp : np = max q (min nR (2 * cap))) : Met l yX0_makePlaces wsX0_makePlaces ({ frames := 2, cells := 2, slots := 2 * np, locals := 82 }) (va_Pc [.ref x, .int (nI q)] (fun U => U.heap.size = sz ∧ va_P (dC, dI) vwCl (wr x a1 a2 a3 a4 a5 a6 a7 cI cJ nD nR dv r cap ti va ev ed ec ad ac now) U.heap ∧ va_K (dC, dI) vwCl [(cI, .int), (cJ, .long)] U ∧ va_D (fun _ => True) (wr x a1 a2 a3 a4 a5 a6 a7 cI cJ nD nR dv r cap ti va ev ed ec ad ac now))) (va_Qv (fun _ : Unit => True) (fun _ t9 => ∃ b3 b4 : Nat, va_P (dC, dI) vwCl (wr x a1 a2 b3 b4 a5 a6 a7 cI cJ nD nR dv r np (va_cpy ti (fun _ => 0) 0 0 cap) (va_cpy va (fun _ => 0) 0 0 cap) ev ed ec ad ac now) t9.heap ∧ va_K (dC, dI) vwCl [(cI, .int), (cJ, .long)] t9 ∧ va_D (va_A (wr x a1 a2 a3 a4 a5 a6 a7 cI cJ nD nR dv r cap ti va ev ed ec ad ac now) sz) (wr x a1 a2 b3 b4 a5 a6 a7 cI cJ nD nR dv r np (va_cpy ti (fun _ => 0) 0 0 cap) (va_cpy va (fun _ => 0) 0 0 cap) ev ed ec ad ac now)) (va_A (wr x a1 a2 a3 a4 a5 a6 a7 cI cJ nD nR dv r cap ti va ev ed ec ad ac now) sz)) 2 (2 * np) (va_A (wr x a1 a2 a3 a4 a5 a6 a7 cI cJ nD nR dv r cap ti va ev ed ec ad ac now) sz) := by
  refine Met.ofW (cc := cX0_makePlaces) (maxL := 3) (ret := none) (by decide) rfl ?_
  intro p e s m args below meth c s₁ B hml hv
  obtain ⟨rfl, hsz, hP, hK, hD0⟩ := hv
  subst hsz
  have hD := hD0.self (sz := s.heap.size)
  generalize hAe : va_A (wr x a1 a2 a3 a4 a5 a6 a7 cI cJ nD nR dv r cap ti va ev ed ec ad ac now) s.heap.size = A at hD ⊢
  have hA : ∀ q : Nat, s.heap.size ≤ q → A q := fun q h => by rw [← hAe]; exact Or.inr h
  have hS : va_S A s.heap s.heap [] := va_S.rf
  have hx := B.exec
  have hb := B.bytes
  have hr := B.returns
  have hts := atoms_spec (ws := wsX0_makePlaces) B.pre
  have hown : s.vm.findClass RX0 = some m.cls := findClass_of_methodNamed B.named
  have hlocks := B.notSynchronized
  have hall := fun (w : Cond) (h : w ∈ allw) => hts w (List.mem_cons_of_mem _ h)
  have hl := lv_entry ([.ref x, .int (nI q)]) (n := 3) (Nat.le_of_ble_eq_true rfl)
  rw [lg_entry_eq]
  generalize (lg_sl ([.ref x, .int (nI q)]) ++ List.replicate (3 - (lg_sl ([.ref x, .int (nI q)])).length) Slot.unset).toArray = ls at hl ⊢
  have hl : lv_has ls 3 [(0, .ref x), (1, .int (nI q))] := hl
  have hnp1 : cap < np := by omega
  have hnp2 : np ≤ 8192 := by omega
  refine lv_iload_n hx hb dX0_makePlaces_0 rfl (lv_at hl 1 rfl) ?_
  refine lv_aload_n hx hb dX0_makePlaces_1 rfl (lv_at hl 0 rfl) ?_
  refine va_get (D := (dC, dI)) (ci := 0) (v := .ref a3) (C := RX0) (T := TX0) (N := 12) hx hb hall inX0 hown hK hP 0 rfl rfl 4 (by decide) (hall _ kw_27) (fun _ h9 => h9) rfl dX0_makePlaces_2 ?_
  refine va_alen (v := nI cap) hx hb hK hP 3 1 rfl rfl rfl dX0_makePlaces_5 ?_
  refine xc_gt (tgt := 10) hx hb (by omega) (by omega) dX0_makePlaces_6 (by decide) (fun c_1 => ?_) (fun c_1 => ?_)
  · refine lv_iload_n hx hb dX0_makePlaces_10 rfl (lv_at hl 1 rfl) ?_
    refine lv_aload_n hx hb dX0_makePlaces_11 rfl (lv_at hl 0 rfl) ?_
    refine va_get (D := (dC, dI)) (ci := 0) (v := .int (nI nR)) (C := RX0) (T := TX0) (N := 12) hx hb hall inX0 hown hK hP 0 rfl rfl 1 (by decide) (hall _ kw_24) (fun _ h9 => h9) rfl dX0_makePlaces_12 ?_
    refine lv_iconst (v := 2) hx hb dX0_makePlaces_15 (by decide) ?_
    refine tp_i (y := nI 2) (by decide) ?_
    refine lv_aload_n hx hb dX0_makePlaces_16 rfl (lv_at hl 0 rfl) ?_
    refine va_get (D := (dC, dI)) (ci := 0) (v := .ref a3) (C := RX0) (T := TX0) (N := 12) hx hb hall inX0 hown hK hP 0 rfl rfl 4 (by decide) (hall _ kw_27) (fun _ h9 => h9) rfl dX0_makePlaces_17 ?_
    refine va_alen (v := nI cap) hx hb hK hP 3 1 rfl rfl rfl dX0_makePlaces_20 ?_
    refine lv_imul hx hb dX0_makePlaces_21 ?_
    refine tp_i (y := nI (2 * cap)) (pk_mul 2 cap) ?_
    refine va_mmin hx hb (hml.trans hl.1.symm) hown (hall _ kw_20) (hall _ kw_21) (hall _ kw_2) (hall _ kw_22) (Nat.le_of_ble_eq_true rfl) (Nat.le_of_ble_eq_true rfl) (Nat.zero_le _) (Nat.zero_le _) dX0_makePlaces_22 ?_
    refine tp_i (y := nI (min nR (2 * cap))) (xm_min (by omega) (by omega)) ?_
    refine va_mmax hx hb (hml.trans hl.1.symm) hown (hall _ kw_253) (hall _ kw_254) (hall _ kw_2) (hall _ kw_255) (Nat.le_of_ble_eq_true rfl) (Nat.le_of_ble_eq_true rfl) (Nat.zero_le _) (Nat.zero_le _) dX0_makePlaces_25 ?_
    refine tp_i (y := nI np) ((xm_max (by omega) (by omega)).trans (by rw [hnp])) ?_
    refine lv_istore_n (lv' := [(2, .int (nI np)), (0, .ref x), (1, .int (nI q))]) hx hb dX0_makePlaces_28 rfl hl (by decide) rfl (fun ls hl => ?_)
    refine lv_aload_n hx hb dX0_makePlaces_29 rfl (lv_at hl 1 rfl) ?_
    refine lv_aload_n hx hb dX0_makePlaces_30 rfl (lv_at hl 1 rfl) ?_
    refine va_get (D := (dC, dI)) (ci := 0) (v := .ref a3) (C := RX0) (T := TX0) (N := 12) hx hb hall inX0 hown hK hP 0 rfl rfl 4 (by decide) (hall _ kw_27) (fun _ h9 => h9) rfl dX0_makePlaces_31 ?_
    refine lv_iload_n hx hb dX0_makePlaces_34 rfl (lv_at hl 0 rfl) ?_
    have hPc := hP.sub (ws' := [(a3, .inl (cJ, cap, .inr (.inl ti)))]) [3] rfl
    have hDc := hD.sub (ws' := [(a3, .inl (cJ, cap, .inr (.inl ti)))]) [3] (by decide) rfl
    have hKc := hK.sub (tys' := [(cJ, .long)]) [1] rfl
    have hFc := va_free (wc := [(a3, .inl (cJ, cap, .inr (.inl ti)))]) hD hS hA [3] rfl
    refine va_callr (va_runS (As := [.ref a3, .int (nI np)]) (rest := [.ref x]) ⟨hx, hb, hml, hown, hall⟩ (c_copyOf l dC dI a3 cJ cap np ti s.heap.size hnp1 hnp2) (va_cwS 2 hall gX0_141 rfl rfl rfl (by decide +kernel) ⟨Nat.le_of_ble_eq_true rfl, Nat.le_of_ble_eq_true rfl⟩) ⟨xu_blind, fun U hU hW => ⟨rfl, by rw [hU], by rw [hU]; exact hPc, va_K.moved hW.alike hKc, hDc.weaken (fun _ _ _ _ => trivial)⟩⟩ rfl rfl hl.1 rfl (lv_room (Nat.le_of_ble_eq_true rfl)) dX0_makePlaces_35 ⟨by show _ ≤ 2; omega, by show _ ≤ 2 * np; omega⟩) hS (fun q _ h => hFc q h) hFc (fun u9 b3 t9 H1 locs ht hvm hw hB hz1 hk1 hS => ?_)
    obtain ⟨hP1, hK1, hD1⟩ := hB
    rw [ht] at hP1
    obtain ⟨hP, hD⟩ := va_join (wr := [(x, .inr (0, [.int (nI nD), .int (nI nR), .ref a1, .ref a2, .ref a3, .ref a4, .ref a5, .ref a6, .int (nI ec), .ref a7, .int (nI ac), .long now])), (a1, .inl (cJ, nD, .inr (.inl dv))), (a2, .inl (cI, nD + 1, .inl (fun j => nI (r j)))), (a4, .inl (cJ, cap, .inr (.inl va))), (a5, .inl (cJ, 16, .inr (.inl ev))), (a6, .inl (cJ, 16, .inr (.inl ed))), (a7, .inl (cI, nD, .inl ad))]) (w1 := [(a3, .inl (cJ, cap, .inr (.inl ti))), (b3, .inl (cJ, np, .inr (.inl (va_cpy ti (fun _ => 0) 0 0 cap))))]) hP hD [3] [0, 1, 2, 4, 5, 6, 7] rfl rfl (by decide) (by decide) hk1 hFc hP1 hD1
    generalize H1 = H at hP hS ⊢
    have hP : va_P (dC, dI) vwCl [(x, .inr (0, [.int (nI nD), .int (nI nR), .ref a1, .ref a2, .ref a3, .ref a4, .ref a5, .ref a6, .int (nI ec), .ref a7, .int (nI ac), .long now])), (a1, .inl (cJ, nD, .inr (.inl dv))), (a2, .inl (cI, nD + 1, .inl (fun j => nI (r j)))), (a4, .inl (cJ, cap, .inr (.inl va))), (a5, .inl (cJ, 16, .inr (.inl ev))), (a6, .inl (cJ, 16, .inr (.inl ed))), (a7, .inl (cI, nD, .inl ad)), (a3, .inl (cJ, cap, .inr (.inl ti))), (b3, .inl (cJ, np, .inr (.inl (va_cpy ti (fun _ => 0) 0 0 cap))))] H := hP
    have hD : va_D A [(x, .inr (0, [.int (nI nD), .int (nI nR), .ref a1, .ref a2, .ref a3, .ref a4, .ref a5, .ref a6, .int (nI ec), .ref a7, .int (nI ac), .long now])), (a1, .inl (cJ, nD, .inr (.inl dv))), (a2, .inl (cI, nD + 1, .inl (fun j => nI (r j)))), (a4, .inl (cJ, cap, .inr (.inl va))), (a5, .inl (cJ, 16, .inr (.inl ev))), (a6, .inl (cJ, 16, .inr (.inl ed))), (a7, .inl (cI, nD, .inl ad)), (a3, .inl (cJ, cap, .inr (.inl ti))), (b3, .inl (cJ, np, .inr (.inl (va_cpy ti (fun _ => 0) 0 0 cap))))] := hD
    refine va_put (D := (dC, dI)) (ci := 0) (v := .ref b3) (ty := (.array .long)) (C := RX0) (T := TX0) (N := 12) hx hb hall inX0 tyX0 tyX0_ok nmX0 hown hK hP hD hS 0 rfl rfl 4 (by decide) (hall _ kw_27) (fun _ h9 => h9) rfl (by decide +kernel) rfl rfl (Nat.le_of_ble_eq_true rfl) dX0_makePlaces_38 (fun H locs hP hD hS => ?_)
    have hP : va_P (dC, dI) vwCl [(x, .inr (0, [.int (nI nD), .int (nI nR), .ref a1, .ref a2, .ref b3, .ref a4, .ref a5, .ref a6, .int (nI ec), .ref a7, .int (nI ac), .long now])), (a1, .inl (cJ, nD, .inr (.inl dv))), (a2, .inl (cI, nD + 1, .inl (fun j => nI (r j)))), (a4, .inl (cJ, cap, .inr (.inl va))), (a5, .inl (cJ, 16, .inr (.inl ev))), (a6, .inl (cJ, 16, .inr (.inl ed))), (a7, .inl (cI, nD, .inl ad)), (a3, .inl (cJ, cap, .inr (.inl ti))), (b3, .inl (cJ, np, .inr (.inl (va_cpy ti (fun _ => 0) 0 0 cap))))] H := hP
    have hD : va_D A [(x, .inr (0, [.int (nI nD), .int (nI nR), .ref a1, .ref a2, .ref b3, .ref a4, .ref a5, .ref a6, .int (nI ec), .ref a7, .int (nI ac), .long now])), (a1, .inl (cJ, nD, .inr (.inl dv))), (a2, .inl (cI, nD + 1, .inl (fun j => nI (r j)))), (a4, .inl (cJ, cap, .inr (.inl va))), (a5, .inl (cJ, 16, .inr (.inl ev))), (a6, .inl (cJ, 16, .inr (.inl ed))), (a7, .inl (cI, nD, .inl ad)), (a3, .inl (cJ, cap, .inr (.inl ti))), (b3, .inl (cJ, np, .inr (.inl (va_cpy ti (fun _ => 0) 0 0 cap))))] := hD
    refine lv_aload_n hx hb dX0_makePlaces_41 rfl (lv_at hl 1 rfl) ?_
    refine lv_aload_n hx hb dX0_makePlaces_42 rfl (lv_at hl 1 rfl) ?_
    refine va_get (D := (dC, dI)) (ci := 0) (v := .ref a4) (C := RX0) (T := TX0) (N := 12) hx hb hall inX0 hown hK hP 0 rfl rfl 5 (by decide) (hall _ kw_28) (fun _ h9 => h9) rfl dX0_makePlaces_43 ?_
    refine lv_iload_n hx hb dX0_makePlaces_46 rfl (lv_at hl 0 rfl) ?_
    have hPc := hP.sub (ws' := [(a4, .inl (cJ, cap, .inr (.inl va)))]) [3] rfl
    have hDc := hD.sub (ws' := [(a4, .inl (cJ, cap, .inr (.inl va)))]) [3] (by decide) rfl
    have hKc := hK.sub (tys' := [(cJ, .long)]) [1] rfl
    have hFc := va_free (wc := [(a4, .inl (cJ, cap, .inr (.inl va)))]) hD hS hA [3] rfl
    refine va_callr (va_runS (As := [.ref a4, .int (nI np)]) (rest := [.ref x]) ⟨hx, hb, hml, hown, hall⟩ (c_copyOf l dC dI a4 cJ cap np va H.size hnp1 hnp2) (va_cwS 2 hall gX0_141 rfl rfl rfl (by decide +kernel) ⟨Nat.le_of_ble_eq_true rfl, Nat.le_of_ble_eq_true rfl⟩) ⟨xu_blind, fun U hU hW => ⟨rfl, by rw [hU], by rw [hU]; exact hPc, va_K.moved hW.alike hKc, hDc.weaken (fun _ _ _ _ => trivial)⟩⟩ rfl rfl hl.1 rfl (lv_room (Nat.le_of_ble_eq_true rfl)) dX0_makePlaces_47 ⟨by show _ ≤ 2; omega, by show _ ≤ 2 * np; omega⟩) hS (fun q _ h => hFc q h) hFc (fun u9 b4 t9 H1 locs ht hvm hw hB hz1 hk1 hS => ?_)
    obtain ⟨hP1, hK1, hD1⟩ := hB
    rw [ht] at hP1
    obtain ⟨hP, hD⟩ := va_join (wr := [(x, .inr (0, [.int (nI nD), .int (nI nR), .ref a1, .ref a2, .ref b3, .ref a4, .ref a5, .ref a6, .int (nI ec), .ref a7, .int (nI ac), .long now])), (a1, .inl (cJ, nD, .inr (.inl dv))), (a2, .inl (cI, nD + 1, .inl (fun j => nI (r j)))), (a5, .inl (cJ, 16, .inr (.inl ev))), (a6, .inl (cJ, 16, .inr (.inl ed))), (a7, .inl (cI, nD, .inl ad)), (a3, .inl (cJ, cap, .inr (.inl ti))), (b3, .inl (cJ, np, .inr (.inl (va_cpy ti (fun _ => 0) 0 0 cap))))]) (w1 := [(a4, .inl (cJ, cap, .inr (.inl va))), (b4, .inl (cJ, np, .inr (.inl (va_cpy va (fun _ => 0) 0 0 cap))))]) hP hD [3] [0, 1, 2, 4, 5, 6, 7, 8] rfl rfl (by decide) (by decide) hk1 hFc hP1 hD1
    generalize H1 = H at hP hS ⊢
    have hP : va_P (dC, dI) vwCl [(x, .inr (0, [.int (nI nD), .int (nI nR), .ref a1, .ref a2, .ref b3, .ref a4, .ref a5, .ref a6, .int (nI ec), .ref a7, .int (nI ac), .long now])), (a1, .inl (cJ, nD, .inr (.inl dv))), (a2, .inl (cI, nD + 1, .inl (fun j => nI (r j)))), (a5, .inl (cJ, 16, .inr (.inl ev))), (a6, .inl (cJ, 16, .inr (.inl ed))), (a7, .inl (cI, nD, .inl ad)), (a3, .inl (cJ, cap, .inr (.inl ti))), (b3, .inl (cJ, np, .inr (.inl (va_cpy ti (fun _ => 0) 0 0 cap)))), (a4, .inl (cJ, cap, .inr (.inl va))), (b4, .inl (cJ, np, .inr (.inl (va_cpy va (fun _ => 0) 0 0 cap))))] H := hP
    have hD : va_D A [(x, .inr (0, [.int (nI nD), .int (nI nR), .ref a1, .ref a2, .ref b3, .ref a4, .ref a5, .ref a6, .int (nI ec), .ref a7, .int (nI ac), .long now])), (a1, .inl (cJ, nD, .inr (.inl dv))), (a2, .inl (cI, nD + 1, .inl (fun j => nI (r j)))), (a5, .inl (cJ, 16, .inr (.inl ev))), (a6, .inl (cJ, 16, .inr (.inl ed))), (a7, .inl (cI, nD, .inl ad)), (a3, .inl (cJ, cap, .inr (.inl ti))), (b3, .inl (cJ, np, .inr (.inl (va_cpy ti (fun _ => 0) 0 0 cap)))), (a4, .inl (cJ, cap, .inr (.inl va))), (b4, .inl (cJ, np, .inr (.inl (va_cpy va (fun _ => 0) 0 0 cap))))] := hD
    refine va_put (D := (dC, dI)) (ci := 0) (v := .ref b4) (ty := (.array .long)) (C := RX0) (T := TX0) (N := 12) hx hb hall inX0 tyX0 tyX0_ok nmX0 hown hK hP hD hS 0 rfl rfl 5 (by decide) (hall _ kw_28) (fun _ h9 => h9) rfl (by decide +kernel) rfl rfl (Nat.le_of_ble_eq_true rfl) dX0_makePlaces_50 (fun H locs hP hD hS => ?_)
    have hP : va_P (dC, dI) vwCl [(x, .inr (0, [.int (nI nD), .int (nI nR), .ref a1, .ref a2, .ref b3, .ref b4, .ref a5, .ref a6, .int (nI ec), .ref a7, .int (nI ac), .long now])), (a1, .inl (cJ, nD, .inr (.inl dv))), (a2, .inl (cI, nD + 1, .inl (fun j => nI (r j)))), (a5, .inl (cJ, 16, .inr (.inl ev))), (a6, .inl (cJ, 16, .inr (.inl ed))), (a7, .inl (cI, nD, .inl ad)), (a3, .inl (cJ, cap, .inr (.inl ti))), (b3, .inl (cJ, np, .inr (.inl (va_cpy ti (fun _ => 0) 0 0 cap)))), (a4, .inl (cJ, cap, .inr (.inl va))), (b4, .inl (cJ, np, .inr (.inl (va_cpy va (fun _ => 0) 0 0 cap))))] H := hP
    have hD : va_D A [(x, .inr (0, [.int (nI nD), .int (nI nR), .ref a1, .ref a2, .ref b3, .ref b4, .ref a5, .ref a6, .int (nI ec), .ref a7, .int (nI ac), .long now])), (a1, .inl (cJ, nD, .inr (.inl dv))), (a2, .inl (cI, nD + 1, .inl (fun j => nI (r j)))), (a5, .inl (cJ, 16, .inr (.inl ev))), (a6, .inl (cJ, 16, .inr (.inl ed))), (a7, .inl (cI, nD, .inl ad)), (a3, .inl (cJ, cap, .inr (.inl ti))), (b3, .inl (cJ, np, .inr (.inl (va_cpy ti (fun _ => 0) 0 0 cap)))), (a4, .inl (cJ, cap, .inr (.inl va))), (b4, .inl (cJ, np, .inr (.inl (va_cpy va (fun _ => 0) 0 0 cap))))] := hD
    have hP := hP.sub (ws' := [(x, .inr (0, [.int (nI nD), .int (nI nR), .ref a1, .ref a2, .ref b3, .ref b4, .ref a5, .ref a6, .int (nI ec), .ref a7, .int (nI ac), .long now])), (a1, .inl (cJ, nD, .inr (.inl dv))), (a2, .inl (cI, nD + 1, .inl (fun j => nI (r j)))), (b3, .inl (cJ, np, .inr (.inl (va_cpy ti (fun _ => 0) 0 0 cap)))), (b4, .inl (cJ, np, .inr (.inl (va_cpy va (fun _ => 0) 0 0 cap)))), (a5, .inl (cJ, 16, .inr (.inl ev))), (a6, .inl (cJ, 16, .inr (.inl ed))), (a7, .inl (cI, nD, .inl ad))]) [0, 1, 2, 7, 9, 3, 4, 5] rfl
    have hD := hD.sub (ws' := [(x, .inr (0, [.int (nI nD), .int (nI nR), .ref a1, .ref a2, .ref b3, .ref b4, .ref a5, .ref a6, .int (nI ec), .ref a7, .int (nI ac), .long now])), (a1, .inl (cJ, nD, .inr (.inl dv))), (a2, .inl (cI, nD + 1, .inl (fun j => nI (r j)))), (b3, .inl (cJ, np, .inr (.inl (va_cpy ti (fun _ => 0) 0 0 cap)))), (b4, .inl (cJ, np, .inr (.inl (va_cpy va (fun _ => 0) 0 0 cap)))), (a5, .inl (cJ, 16, .inr (.inl ev))), (a6, .inl (cJ, 16, .inr (.inl ed))), (a7, .inl (cI, nD, .inl ad))]) [0, 1, 2, 7, 9, 3, 4, 5] (by decide) rfl
    refine W.widen (k := 2) (n := 2 * np) (by omega) (by omega) ?_
    exact W.vret hx hb hr (fun t9 ht hW => ⟨⟨(), rfl, trivial, b3, b4, by rw [ht]; exact hP, va_K.moved hW.alike hK, hD⟩, hS.F ht⟩) hS.2.2 dX0_makePlaces_53
  · exact absurd c_1 (by omega)
set_option maxHeartbeats 4000000 in
set_option maxRecDepth 100000 in
theorem c_endRowAt2 (l : Launch) (dC : Nat → ClassId) (dI : Nat → Nat → Nat) (x a1 a2 a3 a4 a5 a6 a7 : Nat) (cI cJ : ClassId) (nD nR : Nat) (dv : Nat → Int64) (r : Nat → Nat) (cap : Nat) (ti va ev ed : Nat → Int64) (ec : Nat) (ad : Nat → Int32) (ac : Nat) (now : Int64) (sz : Nat) (hI : wf_R nD nR cap ec ac r) (d en : Nat) (hd : d < nD) (hq : cap < r nD + en - r (d + 1)) (hqR : r nD + en - r (d + 1) ≤ nR) (np : Nat) (hnp : np = max (r nD + en - r (d + 1)) (min nR (2 * cap))) : Met l yX0_endRowAt wsX0_endRowAt ({ frames := 3, cells := 2, slots := 2 * np, locals := 104 }) (va_Pc [.ref x, .int (nI d), .int (nI en)] (fun U => U.heap.size = sz ∧ va_P (dC, dI) vwCl (wr x a1 a2 a3 a4 a5 a6 a7 cI cJ nD nR dv r cap ti va ev ed ec ad ac now) U.heap ∧ va_K (dC, dI) vwCl [(cI, .int), (cJ, .long)] U ∧ va_D (fun _ => True) (wr x a1 a2 a3 a4 a5 a6 a7 cI cJ nD nR dv r cap ti va ev ed ec ad ac now))) (va_Qv (fun _ : Unit => True) (fun _ t9 => ∃ b3 b4 : Nat, va_P (dC, dI) vwCl (wr x a1 a2 b3 b4 a5 a6 a7 cI cJ nD nR dv (wf_sh r d en (r (d + 1)) (nD + 1)) np (va_cpy (va_cpy ti (fun _ => 0) 0 0 cap) (va_cpy ti (fun _ => 0) 0 0 cap) (r (d + 1)) en (r nD - r (d + 1))) (va_cpy (va_cpy va (fun _ => 0) 0 0 cap) (va_cpy va (fun _ => 0) 0 0 cap) (r (d + 1)) en (r nD - r (d + 1))) ev ed ec ad ac now) t9.heap ∧ va_K (dC, dI) vwCl [(cI, .int), (cJ, .long)] t9 ∧ va_D (va_A (wr x a1 a2 a3 a4 a5 a6 a7 cI cJ nD nR dv r cap ti va ev ed ec ad ac now) sz) (wr x a1 a2 b3 b4 a5 a6 a7 cI cJ nD nR dv (wf_sh r d en (r (d + 1)) (nD + 1)) np (va_cpy (va_cpy ti (fun _ => 0) 0 0 cap) (va_cpy ti (fun _ => 0) 0 0 cap) (r (d + 1)) en (r nD - r (d + 1))) (va_cpy (va_cpy va (fun _ => 0) 0 0 cap) (va_cpy va (fun _ => 0) 0 0 cap) (r (d + 1)) en (r nD - r (d + 1))) ev ed ec ad ac now)) (va_A (wr x a1 a2 a3 a4 a5 a6 a7 cI cJ nD nR dv r cap ti va ev ed ec ad ac now) sz)) 2 (2 * np) (va_A (wr x a1 a2 a3 a4 a5 a6 a7 cI cJ nD nR dv r cap ti va ev ed ec ad ac now) sz) := by
  refine Met.ofW (cc := cX0_endRowAt) (maxL := 7) (ret := none) (by decide) rfl ?_
  intro p e s m args below meth c s₁ B hml hv
  obtain ⟨rfl, hsz, hP, hK, hD0⟩ := hv
  subst hsz
  have hD := hD0.self (sz := s.heap.size)
  generalize hAe : va_A (wr x a1 a2 a3 a4 a5 a6 a7 cI cJ nD nR dv r cap ti va ev ed ec ad ac now) s.heap.size = A at hD ⊢
  have hA : ∀ q : Nat, s.heap.size ≤ q → A q := fun q h => by rw [← hAe]; exact Or.inr h
  have hS : va_S A s.heap s.heap [] := va_S.rf
  have hx := B.exec
  have hb := B.bytes
  have hr := B.returns
  have hts := atoms_spec (ws := wsX0_endRowAt) B.pre
  have hown : s.vm.findClass RX0 = some m.cls := findClass_of_methodNamed B.named
  have hlocks := B.notSynchronized
  have hall := fun (w : Cond) (h : w ∈ allw) => hts w (List.mem_cons_of_mem _ h)
  have hl := lv_entry ([.ref x, .int (nI d), .int (nI en)]) (n := 7) (Nat.le_of_ble_eq_true rfl)
  rw [lg_entry_eq]
  generalize (lg_sl ([.ref x, .int (nI d), .int (nI en)]) ++ List.replicate (7 - (lg_sl ([.ref x, .int (nI d), .int (nI en)])).length) Slot.unset).toArray = ls at hl ⊢
  have hl : lv_has ls 7 [(0, .ref x), (1, .int (nI d)), (2, .int (nI en))] := hl
  have hI0 := hI
  obtain ⟨hnD1, hnD, hnR1, hnR, hcap, hrc, hrR, hr0, hmo, hec, hac⟩ := hI
  have hle := wf_le hmo (show d + 1 ≤ nD by omega) (Nat.le_refl nD)
  have hnp1 : cap < np := by omega
  have hnp2 : np ≤ 8192 := by omega
  refine lv_aload_n hx hb dX0_endRowAt_0 rfl (lv_at hl 0 rfl) ?_
  refine va_get (D := (dC, dI)) (ci := 0) (v := .ref a2) (C := RX0) (T := TX0) (N := 12) hx hb hall inX0 hown hK hP 0 rfl rfl 3 (by decide) (hall _ kw_26) (fun _ h9 => h9) rfl dX0_endRowAt_1 ?_
  refine lv_iload_n hx hb dX0_endRowAt_4 rfl (lv_at hl 1 rfl) ?_
  refine lv_iconst (v := 1) hx hb dX0_endRowAt_5 (by decide) ?_
  refine lv_iadd hx hb dX0_endRowAt_6 ?_
  refine tp_i (y := nI (d + 1)) (nI_1 d) ?_
  refine xa_iald hx hb hK hP 2 0 rfl rfl (by omega) (by omega) dX0_endRowAt_7 ?_
  refine lv_istore_n (lv' := [(3, .int (nI (r (d + 1)))), (0, .ref x), (1, .int (nI d)), (2, .int (nI en))]) hx hb dX0_endRowAt_8 rfl hl (by decide) rfl (fun ls hl => ?_)
  refine lv_aload_n hx hb dX0_endRowAt_9 rfl (lv_at hl 1 rfl) ?_
  refine va_get (D := (dC, dI)) (ci := 0) (v := .ref a2) (C := RX0) (T := TX0) (N := 12) hx hb hall inX0 hown hK hP 0 rfl rfl 3 (by decide) (hall _ kw_26) (fun _ h9 => h9) rfl dX0_endRowAt_10 ?_
  refine lv_aload_n hx hb dX0_endRowAt_13 rfl (lv_at hl 1 rfl) ?_
  refine va_get (D := (dC, dI)) (ci := 0) (v := .int (nI nD)) (C := RX0) (T := TX0) (N := 12) hx hb hall inX0 hown hK hP 0 rfl rfl 0 (by decide) (hall _ kw_23) (fun _ h9 => h9) rfl dX0_endRowAt_14 ?_
  refine xa_iald hx hb hK hP 2 0 rfl rfl (by omega) (by omega) dX0_endRowAt_17 ?_
  refine lv_istore (lv' := [(4, .int (nI (r nD))), (3, .int (nI (r (d + 1)))), (0, .ref x), (1, .int (nI d)), (2, .int (nI en))]) hx hb dX0_endRowAt_18 hl (by decide) rfl (fun ls hl => ?_)
  refine lv_iload_n hx hb dX0_endRowAt_20 rfl (lv_at hl 4 rfl) ?_
  refine lv_iload_n hx hb dX0_endRowAt_21 rfl (lv_at hl 1 rfl) ?_
  refine lv_isub hx hb dX0_endRowAt_22 ?_
  refine lv_istore (lv' := [(5, .int ((nI en) - (nI (r (d + 1))))), (4, .int (nI (r nD))), (3, .int (nI (r (d + 1)))), (0, .ref x), (1, .int (nI d)), (2, .int (nI en))]) hx hb dX0_endRowAt_23 hl (by decide) rfl (fun ls hl => ?_)
  refine lv_aload_n hx hb dX0_endRowAt_25 rfl (lv_at hl 3 rfl) ?_
  refine lv_iload hx hb dX0_endRowAt_26 (lv_at hl 1 rfl) ?_
  refine lv_iload hx hb dX0_endRowAt_28 (lv_at hl 0 rfl) ?_
  refine lv_iadd hx hb dX0_endRowAt_30 ?_
  refine tp_i (y := nI (r nD + en - r (d + 1))) (xs_i (by omega)) ?_
  have hFc := va_free (wc := [(x, .inr (0, [.int (nI nD), .int (nI nR), .ref a1, .ref a2, .ref a3, .ref a4, .ref a5, .ref a6, .int (nI ec), .ref a7, .int (nI ac), .long now])), (a1, .inl (cJ, nD, .inr (.inl dv))), (a2, .inl (cI, nD + 1, .inl (fun j => nI (r j)))), (a3, .inl (cJ, cap, .inr (.inl ti))), (a4, .inl (cJ, cap, .inr (.inl va))), (a5, .inl (cJ, 16, .inr (.inl ev))), (a6, .inl (cJ, 16, .inr (.inl ed))), (a7, .inl (cI, nD, .inl ad))]) hD hS hA [0, 1, 2, 3, 4, 5, 6, 7] rfl
  refine va_callv (va_runV (As := [.int (nI (r nD + en - r (d + 1)))]) (rest := []) ⟨hx, hb, hml, hown, hall⟩ (c_makePlaces2 l dC dI x a1 a2 a3 a4 a5 a6 a7 cI cJ nD nR dv r cap ti va ev ed ec ad ac now s.heap.size (r nD + en - r (d + 1)) hq hqR hnR np hnp) (cwV 1 hall gX0_135 rfl rfl rfl (by decide +kernel) ⟨Nat.le_of_ble_eq_true rfl, Nat.le_of_ble_eq_true rfl⟩) ⟨xu_blind, va_recv hK hP (ci := 0) (q0 := 0) rfl rfl, fun U hU hW => ⟨rfl, by rw [hU], by rw [hU]; exact hP, va_K.moved hW.alike hK, hD.weaken (fun _ _ _ _ => trivial)⟩⟩ rfl rfl hl.1 rfl (lv_room (Nat.le_of_ble_eq_true rfl)) dX0_endRowAt_31 ⟨by show _ ≤ 2; omega, by show _ ≤ 2 * np; omega⟩) hS (fun q _ h => hFc q h) hFc (fun u9 t9 H1 locs ht hvm hw hB hz1 hk1 hS => ?_)
  obtain ⟨b3, b4, hP1, hK1, hD1⟩ := hB
  rw [ht] at hP1
  obtain ⟨hP, hD⟩ := va_join (wr := []) (w1 := [(x, .inr (0, [.int (nI nD), .int (nI nR), .ref a1, .ref a2, .ref b3, .ref b4, .ref a5, .ref a6, .int (nI ec), .ref a7, .int (nI ac), .long now])), (a1, .inl (cJ, nD, .inr (.inl dv))), (a2, .inl (cI, nD + 1, .inl (fun j => nI (r j)))), (b3, .inl (cJ, np, .inr (.inl (va_cpy ti (fun _ => 0) 0 0 cap)))), (b4, .inl (cJ, np, .inr (.inl (va_cpy va (fun _ => 0) 0 0 cap)))), (a5, .inl (cJ, 16, .inr (.inl ev))), (a6, .inl (cJ, 16, .inr (.inl ed))), (a7, .inl (cI, nD, .inl ad))]) hP hD [0, 1, 2, 3, 4, 5, 6, 7] [] rfl rfl (by decide) (by decide) hk1 hFc hP1 hD1
  generalize H1 = H at hP hS ⊢
  have hP : va_P (dC, dI) vwCl [(x, .inr (0, [.int (nI nD), .int (nI nR), .ref a1, .ref a2, .ref b3, .ref b4, .ref a5, .ref a6, .int (nI ec), .ref a7, .int (nI ac), .long now])), (a1, .inl (cJ, nD, .inr (.inl dv))), (a2, .inl (cI, nD + 1, .inl (fun j => nI (r j)))), (b3, .inl (cJ, np, .inr (.inl (va_cpy ti (fun _ => 0) 0 0 cap)))), (b4, .inl (cJ, np, .inr (.inl (va_cpy va (fun _ => 0) 0 0 cap)))), (a5, .inl (cJ, 16, .inr (.inl ev))), (a6, .inl (cJ, 16, .inr (.inl ed))), (a7, .inl (cI, nD, .inl ad))] H := hP
  have hD : va_D A [(x, .inr (0, [.int (nI nD), .int (nI nR), .ref a1, .ref a2, .ref b3, .ref b4, .ref a5, .ref a6, .int (nI ec), .ref a7, .int (nI ac), .long now])), (a1, .inl (cJ, nD, .inr (.inl dv))), (a2, .inl (cI, nD + 1, .inl (fun j => nI (r j)))), (b3, .inl (cJ, np, .inr (.inl (va_cpy ti (fun _ => 0) 0 0 cap)))), (b4, .inl (cJ, np, .inr (.inl (va_cpy va (fun _ => 0) 0 0 cap)))), (a5, .inl (cJ, 16, .inr (.inl ev))), (a6, .inl (cJ, 16, .inr (.inl ed))), (a7, .inl (cI, nD, .inl ad))] := hD
  refine W.widen (k := 2) (n := 2 * np) (by omega) (by omega) ?_
  refine lv_aload_n hx hb dX0_endRowAt_34 rfl (lv_at hl 3 rfl) ?_
  refine lv_iload_n hx hb dX0_endRowAt_35 rfl (lv_at hl 2 rfl) ?_
  refine lv_iload_n hx hb dX0_endRowAt_36 rfl (lv_at hl 5 rfl) ?_
  refine lv_iload hx hb dX0_endRowAt_37 (lv_at hl 1 rfl) ?_
  refine lv_iload_n hx hb dX0_endRowAt_39 rfl (lv_at hl 2 rfl) ?_
  refine lv_isub hx hb dX0_endRowAt_40 ?_
  refine tp_i (y := nI (r nD - r (d + 1))) (pk_sub hle) ?_
  have hFc := va_free (wc := [(x, .inr (0, [.int (nI nD), .int (nI nR), .ref a1, .ref a2, .ref b3, .ref b4, .ref a5, .ref a6, .int (nI ec), .ref a7, .int (nI ac), .long now])), (a1, .inl (cJ, nD, .inr (.inl dv))), (a2, .inl (cI, nD + 1, .inl (fun j => nI (r j)))), (b3, .inl (cJ, np, .inr (.inl (va_cpy ti (fun _ => 0) 0 0 cap)))), (b4, .inl (cJ, np, .inr (.inl (va_cpy va (fun _ => 0) 0 0 cap)))), (a5, .inl (cJ, 16, .inr (.inl ev))), (a6, .inl (cJ, 16, .inr (.inl ed))), (a7, .inl (cI, nD, .inl ad))]) hD hS hA [0, 1, 2, 3, 4, 5, 6, 7] rfl
  refine va_callv (va_runV (As := [.int (nI (r (d + 1))), .int (nI en), .int (nI (r nD - r (d + 1)))]) (rest := []) ⟨hx, hb, hml, hown, hall⟩ (c_moveTransactions l dC dI x a1 a2 b3 b4 a5 a6 a7 cI cJ nD nR dv r np (va_cpy ti (fun _ => 0) 0 0 cap) (va_cpy va (fun _ => 0) 0 0 cap) ev ed ec ad ac now H.size (r (d + 1)) en (r nD - r (d + 1)) (by omega) (by omega) hnp2) (cwV 3 hall gX0_95 rfl rfl rfl (by decide +kernel) ⟨Nat.le_of_ble_eq_true rfl, Nat.le_of_ble_eq_true rfl⟩) ⟨xu_blind, va_recv hK hP (ci := 0) (q0 := 0) rfl rfl, fun U hU hW => ⟨rfl, by rw [hU], by rw [hU]; exact hP, va_K.moved hW.alike hK, hD.weaken (fun _ _ _ _ => trivial)⟩⟩ rfl rfl hl.1 rfl (lv_room (Nat.le_of_ble_eq_true rfl)) dX0_endRowAt_41 ⟨by show _ ≤ 2; omega, by show _ ≤ 2 * np; omega⟩) hS (fun q _ h => hFc q h) hFc (fun u9 t9 H1 locs ht hvm hw hB hz1 hk1 hS => ?_)
  obtain ⟨hP1, hK1, hD1⟩ := hB
  rw [ht] at hP1
  obtain ⟨hP, hD⟩ := va_join (wr := []) (w1 := [(x, .inr (0, [.int (nI nD), .int (nI nR), .ref a1, .ref a2, .ref b3, .ref b4, .ref a5, .ref a6, .int (nI ec), .ref a7, .int (nI ac), .long now])), (a1, .inl (cJ, nD, .inr (.inl dv))), (a2, .inl (cI, nD + 1, .inl (fun j => nI (r j)))), (b3, .inl (cJ, np, .inr (.inl (va_cpy (va_cpy ti (fun _ => 0) 0 0 cap) (va_cpy ti (fun _ => 0) 0 0 cap) (r (d + 1)) en (r nD - r (d + 1)))))), (b4, .inl (cJ, np, .inr (.inl (va_cpy (va_cpy va (fun _ => 0) 0 0 cap) (va_cpy va (fun _ => 0) 0 0 cap) (r (d + 1)) en (r nD - r (d + 1)))))), (a5, .inl (cJ, 16, .inr (.inl ev))), (a6, .inl (cJ, 16, .inr (.inl ed))), (a7, .inl (cI, nD, .inl ad))]) hP hD [0, 1, 2, 3, 4, 5, 6, 7] [] rfl rfl (by decide) (by decide) hk1 hFc hP1 hD1
  generalize H1 = H at hP hS ⊢
  have hP : va_P (dC, dI) vwCl [(x, .inr (0, [.int (nI nD), .int (nI nR), .ref a1, .ref a2, .ref b3, .ref b4, .ref a5, .ref a6, .int (nI ec), .ref a7, .int (nI ac), .long now])), (a1, .inl (cJ, nD, .inr (.inl dv))), (a2, .inl (cI, nD + 1, .inl (fun j => nI (r j)))), (b3, .inl (cJ, np, .inr (.inl (va_cpy (va_cpy ti (fun _ => 0) 0 0 cap) (va_cpy ti (fun _ => 0) 0 0 cap) (r (d + 1)) en (r nD - r (d + 1)))))), (b4, .inl (cJ, np, .inr (.inl (va_cpy (va_cpy va (fun _ => 0) 0 0 cap) (va_cpy va (fun _ => 0) 0 0 cap) (r (d + 1)) en (r nD - r (d + 1)))))), (a5, .inl (cJ, 16, .inr (.inl ev))), (a6, .inl (cJ, 16, .inr (.inl ed))), (a7, .inl (cI, nD, .inl ad))] H := hP
  have hD : va_D A [(x, .inr (0, [.int (nI nD), .int (nI nR), .ref a1, .ref a2, .ref b3, .ref b4, .ref a5, .ref a6, .int (nI ec), .ref a7, .int (nI ac), .long now])), (a1, .inl (cJ, nD, .inr (.inl dv))), (a2, .inl (cI, nD + 1, .inl (fun j => nI (r j)))), (b3, .inl (cJ, np, .inr (.inl (va_cpy (va_cpy ti (fun _ => 0) 0 0 cap) (va_cpy ti (fun _ => 0) 0 0 cap) (r (d + 1)) en (r nD - r (d + 1)))))), (b4, .inl (cJ, np, .inr (.inl (va_cpy (va_cpy va (fun _ => 0) 0 0 cap) (va_cpy va (fun _ => 0) 0 0 cap) (r (d + 1)) en (r nD - r (d + 1)))))), (a5, .inl (cJ, 16, .inr (.inl ev))), (a6, .inl (cJ, 16, .inr (.inl ed))), (a7, .inl (cI, nD, .inl ad))] := hD
  refine lv_iload_n hx hb dX0_endRowAt_44 rfl (lv_at hl 4 rfl) ?_
  refine lv_iconst (v := 1) hx hb dX0_endRowAt_45 (by decide) ?_
  refine lv_iadd hx hb dX0_endRowAt_46 ?_
  refine tp_i (y := nI (d + 1)) (nI_1 d) ?_
  refine lv_istore (lv' := [(6, .int (nI (d + 1))), (5, .int ((nI en) - (nI (r (d + 1))))), (4, .int (nI (r nD))), (3, .int (nI (r (d + 1)))), (0, .ref x), (1, .int (nI d)), (2, .int (nI en))]) hx hb dX0_endRowAt_47 hl (by decide) rfl (fun ls hl => ?_)
  have hloop : ∀ (n k : Nat) (H : Heap) (locs : List Loc) (ls : Array Slot), k + n = nD + 1 → d < k → va_P (dC, dI) vwCl [(x, .inr (0, [.int (nI nD), .int (nI nR), .ref a1, .ref a2, .ref b3, .ref b4, .ref a5, .ref a6, .int (nI ec), .ref a7, .int (nI ac), .long now])), (a1, .inl (cJ, nD, .inr (.inl dv))), (a2, .inl (cI, nD + 1, .inl (fun j => nI ((wf_sh r d en (r (d + 1)) k) j)))), (b3, .inl (cJ, np, .inr (.inl (va_cpy (va_cpy ti (fun _ => 0) 0 0 cap) (va_cpy ti (fun _ => 0) 0 0 cap) (r (d + 1)) en (r nD - r (d + 1)))))), (b4, .inl (cJ, np, .inr (.inl (va_cpy (va_cpy va (fun _ => 0) 0 0 cap) (va_cpy va (fun _ => 0) 0 0 cap) (r (d + 1)) en (r nD - r (d + 1)))))), (a5, .inl (cJ, 16, .inr (.inl ev))), (a6, .inl (cJ, 16, .inr (.inl ed))), (a7, .inl (cI, nD, .inl ad))] H → va_D A [(x, .inr (0, [.int (nI nD), .int (nI nR), .ref a1, .ref a2, .ref b3, .ref b4, .ref a5, .ref a6, .int (nI ec), .ref a7, .int (nI ac), .long now])), (a1, .inl (cJ, nD, .inr (.inl dv))), (a2, .inl (cI, nD + 1, .inl (fun j => nI ((wf_sh r d en (r (d + 1)) k) j)))), (b3, .inl (cJ, np, .inr (.inl (va_cpy (va_cpy ti (fun _ => 0) 0 0 cap) (va_cpy ti (fun _ => 0) 0 0 cap) (r (d + 1)) en (r nD - r (d + 1)))))), (b4, .inl (cJ, np, .inr (.inl (va_cpy (va_cpy va (fun _ => 0) 0 0 cap) (va_cpy va (fun _ => 0) 0 0 cap) (r (d + 1)) en (r nD - r (d + 1)))))), (a5, .inl (cJ, 16, .inr (.inl ev))), (a6, .inl (cJ, 16, .inr (.inl ed))), (a7, .inl (cI, nD, .inl ad))] → va_S A s.heap H locs → lv_has ls 7 [(0, .ref x), (5, .int (nI en - nI (r (d + 1)))), (6, .int (nI k))] → W p l e (headSpec wsX0_endRowAt ({ frames := 3, cells := 2, slots := 2 * np, locals := 104 })).room s m (([.ref x, .int (nI d), .int (nI en)] : List Value).toArray) below meth c H locs 2 (2 * np) (MQ below (va_Qv (fun _ : Unit => True) (fun _ t9 => ∃ b3 b4 : Nat, va_P (dC, dI) vwCl (wr x a1 a2 b3 b4 a5 a6 a7 cI cJ nD nR dv (wf_sh r d en (r (d + 1)) (nD + 1)) np (va_cpy (va_cpy ti (fun _ => 0) 0 0 cap) (va_cpy ti (fun _ => 0) 0 0 cap) (r (d + 1)) en (r nD - r (d + 1))) (va_cpy (va_cpy va (fun _ => 0) 0 0 cap) (va_cpy va (fun _ => 0) 0 0 cap) (r (d + 1)) en (r nD - r (d + 1))) ev ed ec ad ac now) t9.heap ∧ va_K (dC, dI) vwCl [(cI, .int), (cJ, .long)] t9 ∧ va_D A (wr x a1 a2 b3 b4 a5 a6 a7 cI cJ nD nR dv (wf_sh r d en (r (d + 1)) (nD + 1)) np (va_cpy (va_cpy ti (fun _ => 0) 0 0 cap) (va_cpy ti (fun _ => 0) 0 0 cap) (r (d + 1)) en (r nD - r (d + 1))) (va_cpy (va_cpy va (fun _ => 0) 0 0 cap) (va_cpy va (fun _ => 0) 0 0 cap) (r (d + 1)) en (r nD - r (d + 1))) ev ed ec ad ac now)) A) (([.ref x, .int (nI d), .int (nI en)] : List Value).toArray) s 2 (2 * np) A) (F0 m 49 ls []) := by
    intro n
    induction n with
    | zero =>
      intro k H locs ls hk hdk hP hD hS hl
      obtain rfl : k = nD + 1 := by omega
      refine lv_iload hx hb dX0_endRowAt_49 (lv_at hl 2 rfl) ?_
      refine lv_aload_n hx hb dX0_endRowAt_51 rfl (lv_at hl 0 rfl) ?_
      refine va_get (D := (dC, dI)) (ci := 0) (v := .int (nI nD)) (C := RX0) (T := TX0) (N := 12) hx hb hall inX0 hown hK hP 0 rfl rfl 0 (by decide) (hall _ kw_23) (fun _ h9 => h9) rfl dX0_endRowAt_52 ?_
      refine xc_gt (tgt := 76) hx hb (by omega) (by omega) dX0_endRowAt_55 (by decide) (fun c_3 => ?_) (fun c_3 => ?_)
      · exact W.vret hx hb hr (fun t9 ht hW => ⟨⟨(), rfl, trivial, b3, b4, by rw [ht]; exact hP, va_K.moved hW.alike hK, hD⟩, hS.F ht⟩) hS.2.2 dX0_endRowAt_76
      · exact absurd c_3 (by omega)
    | succ n ih =>
      intro k H locs ls hk hdk hP hD hS hl
      have hkr := wf_le hmo (show d + 1 ≤ k by omega) (show k ≤ nD by omega)
      have hkn := wf_le hmo (show k ≤ nD by omega) (Nat.le_refl nD)
      refine lv_iload hx hb dX0_endRowAt_49 (lv_at hl 2 rfl) ?_
      refine lv_aload_n hx hb dX0_endRowAt_51 rfl (lv_at hl 0 rfl) ?_
      refine va_get (D := (dC, dI)) (ci := 0) (v := .int (nI nD)) (C := RX0) (T := TX0) (N := 12) hx hb hall inX0 hown hK hP 0 rfl rfl 0 (by decide) (hall _ kw_23) (fun _ h9 => h9) rfl dX0_endRowAt_52 ?_
      refine xc_gt (tgt := 76) hx hb (by omega) (by omega) dX0_endRowAt_55 (by decide) (fun c_4 => ?_) (fun c_4 => ?_)
      · exact absurd c_4 (by omega)
      · refine lv_aload_n hx hb dX0_endRowAt_58 rfl (lv_at hl 0 rfl) ?_
        refine va_get (D := (dC, dI)) (ci := 0) (v := .ref a2) (C := RX0) (T := TX0) (N := 12) hx hb hall inX0 hown hK hP 0 rfl rfl 3 (by decide) (hall _ kw_26) (fun _ h9 => h9) rfl dX0_endRowAt_59 ?_
        refine lv_iload hx hb dX0_endRowAt_62 (lv_at hl 2 rfl) ?_
        refine lv_dup2_11 hx hb dX0_endRowAt_64 rfl rfl ?_
        refine xa_iald hx hb hK hP 2 0 rfl rfl (by omega) (by omega) dX0_endRowAt_65 ?_
        refine tp_i (y := nI (r k)) (by rw [wf_sh_at]) ?_
        refine lv_iload hx hb dX0_endRowAt_66 (lv_at hl 1 rfl) ?_
        refine lv_iadd hx hb dX0_endRowAt_68 ?_
        refine tp_i (y := nI (r k + en - r (d + 1))) (xs_i (by omega)) ?_
        refine xa_iast hx hb hK hP hD hS 2 0 rfl rfl (by omega) (by omega) dX0_endRowAt_69 (fun H locs hP hD hS => ?_)
        have hP : va_P (dC, dI) vwCl [(x, .inr (0, [.int (nI nD), .int (nI nR), .ref a1, .ref a2, .ref b3, .ref b4, .ref a5, .ref a6, .int (nI ec), .ref a7, .int (nI ac), .long now])), (a1, .inl (cJ, nD, .inr (.inl dv))), (a2, .inl (cI, nD + 1, .inl (upd (fun j => nI ((wf_sh r d en (r (d + 1)) k) j)) k (nI (r k + en - r (d + 1)))))), (b3, .inl (cJ, np, .inr (.inl (va_cpy (va_cpy ti (fun _ => 0) 0 0 cap) (va_cpy ti (fun _ => 0) 0 0 cap) (r (d + 1)) en (r nD - r (d + 1)))))), (b4, .inl (cJ, np, .inr (.inl (va_cpy (va_cpy va (fun _ => 0) 0 0 cap) (va_cpy va (fun _ => 0) 0 0 cap) (r (d + 1)) en (r nD - r (d + 1)))))), (a5, .inl (cJ, 16, .inr (.inl ev))), (a6, .inl (cJ, 16, .inr (.inl ed))), (a7, .inl (cI, nD, .inl ad))] H := hP
        have hD : va_D A [(x, .inr (0, [.int (nI nD), .int (nI nR), .ref a1, .ref a2, .ref b3, .ref b4, .ref a5, .ref a6, .int (nI ec), .ref a7, .int (nI ac), .long now])), (a1, .inl (cJ, nD, .inr (.inl dv))), (a2, .inl (cI, nD + 1, .inl (upd (fun j => nI ((wf_sh r d en (r (d + 1)) k) j)) k (nI (r k + en - r (d + 1)))))), (b3, .inl (cJ, np, .inr (.inl (va_cpy (va_cpy ti (fun _ => 0) 0 0 cap) (va_cpy ti (fun _ => 0) 0 0 cap) (r (d + 1)) en (r nD - r (d + 1)))))), (b4, .inl (cJ, np, .inr (.inl (va_cpy (va_cpy va (fun _ => 0) 0 0 cap) (va_cpy va (fun _ => 0) 0 0 cap) (r (d + 1)) en (r nD - r (d + 1)))))), (a5, .inl (cJ, 16, .inr (.inl ev))), (a6, .inl (cJ, 16, .inr (.inl ed))), (a7, .inl (cI, nD, .inl ad))] := hD
        rw [un_nI, wf_sh_s r d en (r (d + 1)) k hdk] at hP hD
        refine lv_iinc (v := nI (k + 1)) (lv' := [(6, .int (nI (k + 1))), (0, .ref x), (5, .int (nI en - nI (r (d + 1))))]) hx hb dX0_endRowAt_70 hl (k := 2) rfl (nI_1 k) (by decide) rfl (fun ls hl => ?_)
        refine lv_goto (tgt := 49) hx hb dX0_endRowAt_73 (by decide) ?_
        exact ih (k + 1) H locs ls (by omega) (by omega) hP hD hS (lv_sub hl [1, 2, 0] rfl)
  exact hloop (nD - d) (d + 1) H locs ls (by omega) (by omega) (by rw [wf_sh_0]; exact hP) (by rw [wf_sh_0]; exact hD) hS (lv_sub hl [4, 1, 0] rfl)
set_option maxHeartbeats 4000000 in
set_option maxRecDepth 100000 in
theorem c_assign2 (l : Launch) (dC : Nat → ClassId) (dI : Nat → Nat → Nat) (x a1 a2 a3 a4 a5 a6 a7 : Nat) (cI cJ : ClassId) (nD nR : Nat) (dv : Nat → Int64) (r : Nat → Nat) (cap : Nat) (ti va ev ed : Nat → Int64) (ec : Nat) (ad : Nat → Int32) (ac : Nat) (now : Int64) (sz : Nat) (hI : wf_R nD nR cap ec ac r) (d : Nat) (mo : Int32) (t : Int64) (hd : d < nD) (hz : 0 < ec) (hg : wf_lg mo (ed 0) t ∧ wf_dg ed now ec 0 (-1)) (cut pl sm : Nat) (hcut : cut = wf_fb ti (now + ed 0 - 1) (r (d + 1) - r d) (r d)) (hpl : pl = wf_fb ti (now + ed 0 - wf_lim mo (ed 0) t - 1) (cut - r d) (r d)) (hsm : sm = wf_ss va (ev 0) pl (cut - pl)) (hroom : r nD - (sm - pl + (r (d + 1) - cut)) + ec ≤ nR) (hq : cap < r nD + (pl + cut - sm + ec) - r (d + 1)) (np : Nat) (hnp : np = max (r nD + (pl + cut - sm + ec) - r (d + 1)) (min nR (2 * cap))) : Met l yX0_assign wsX0_assign ({ frames := 4, cells := 2, slots := 2 * np, locals := 130 }) (va_Pc [.ref x, .int (nI d), .int mo, .long t] (fun U => U.heap.size = sz ∧ va_P (dC, dI) vwCl (wr x a1 a2 a3 a4 a5 a6 a7 cI cJ nD nR dv r cap ti va ev ed ec ad ac now) U.heap ∧ va_K (dC, dI) vwCl [(cI, .int), (cJ, .long)] U ∧ va_D (fun _ => True) (wr x a1 a2 a3 a4 a5 a6 a7 cI cJ nD nR dv r cap ti va ev ed ec ad ac now))) (va_Qi (fun (v : Int32) (_ : Unit) => v = nI (sm - pl + (r (d + 1) - cut))) (fun _ t9 => ∃ b3 b4 : Nat, va_P (dC, dI) vwCl (wr x a1 a2 b3 b4 a5 a6 a7 cI cJ nD nR dv (wf_sh r d (pl + cut - sm + ec) (r (d + 1)) (nD + 1)) np (wf_pt (va_cpy (va_cpy (va_cpy ti ti sm pl (cut - sm)) (fun _ => 0) 0 0 cap) (va_cpy (va_cpy ti ti sm pl (cut - sm)) (fun _ => 0) 0 0 cap) (r (d + 1)) (pl + cut - sm + ec) (r nD - r (d + 1))) (pl + cut - sm) (fun i => now + ed i) ec) (wf_pt (va_cpy (va_cpy (va_cpy va va sm pl (cut - sm)) (fun _ => 0) 0 0 cap) (va_cpy (va_cpy va va sm pl (cut - sm)) (fun _ => 0) 0 0 cap) (r (d + 1)) (pl + cut - sm + ec) (r nD - r (d + 1))) (pl + cut - sm) ev ec) ev ed 0 ad ac now) t9.heap ∧ va_K (dC, dI) vwCl [(cI, .int), (cJ, .long)] t9 ∧ va_D (va_A (wr x a1 a2 a3 a4 a5 a6 a7 cI cJ nD nR dv r cap ti va ev ed ec ad ac now) sz) (wr x a1 a2 b3 b4 a5 a6 a7 cI cJ nD nR dv (wf_sh r d (pl + cut - sm + ec) (r (d + 1)) (nD + 1)) np (wf_pt (va_cpy (va_cpy (va_cpy ti ti sm pl (cut - sm)) (fun _ => 0) 0 0 cap) (va_cpy (va_cpy ti ti sm pl (cut - sm)) (fun _ => 0) 0 0 cap) (r (d + 1)) (pl + cut - sm + ec) (r nD - r (d + 1))) (pl + cut - sm) (fun i => now + ed i) ec) (wf_pt (va_cpy (va_cpy (va_cpy va va sm pl (cut - sm)) (fun _ => 0) 0 0 cap) (va_cpy (va_cpy va va sm pl (cut - sm)) (fun _ => 0) 0 0 cap) (r (d + 1)) (pl + cut - sm + ec) (r nD - r (d + 1))) (pl + cut - sm) ev ec) ev ed 0 ad ac now)) (va_A (wr x a1 a2 a3 a4 a5 a6 a7 cI cJ nD nR dv r cap ti va ev ed ec ad ac now) sz)) 2 (2 * np) (va_A (wr x a1 a2 a3 a4 a5 a6 a7 cI cJ nD nR dv r cap ti va ev ed ec ad ac now) sz) := by
  refine Met.ofW (cc := cX0_assign) (maxL := 14) (ret := (some .int)) (by decide) rfl ?_
  intro p e s m args below meth c s₁ B hml hv
  obtain ⟨rfl, hsz, hP, hK, hD0⟩ := hv
  subst hsz
  have hD := hD0.self (sz := s.heap.size)
  generalize hAe : va_A (wr x a1 a2 a3 a4 a5 a6 a7 cI cJ nD nR dv r cap ti va ev ed ec ad ac now) s.heap.size = A at hD ⊢
  have hA : ∀ q : Nat, s.heap.size ≤ q → A q := fun q h => by rw [← hAe]; exact Or.inr h
  have hS : va_S A s.heap s.heap [] := va_S.rf
  have hx := B.exec
  have hb := B.bytes
  have hr := B.returns
  have hts := atoms_spec (ws := wsX0_assign) B.pre
  have hown : s.vm.findClass RX0 = some m.cls := findClass_of_methodNamed B.named
  have hlocks := B.notSynchronized
  have hall := fun (w : Cond) (h : w ∈ allw) => hts w (List.mem_cons_of_mem _ h)
  have hl := lv_entry ([.ref x, .int (nI d), .int mo, .long t]) (n := 14) (Nat.le_of_ble_eq_true rfl)
  rw [lg_entry_eq]
  generalize (lg_sl ([.ref x, .int (nI d), .int mo, .long t]) ++ List.replicate (14 - (lg_sl ([.ref x, .int (nI d), .int mo, .long t])).length) Slot.unset).toArray = ls at hl ⊢
  have hl : lv_has ls 14 [(0, .ref x), (1, .int (nI d)), (2, .int mo), (3, .long t)] := hl
  have hI0 := hI
  obtain ⟨hnD1, hnD, hnR1, hnR, hcap, hrc, hrR, hr0, hmo, hec, hac⟩ := hI
  have hle := wf_le hmo (show d + 1 ≤ nD by omega) (Nat.le_refl nD)
  have hmd := hmo d hd
  have hc := wf_fb_le ti (now + ed 0 - 1) (r (d + 1) - r d) (r d)
  rw [← hcut] at hc
  have hp := wf_fb_le ti (now + ed 0 - wf_lim mo (ed 0) t - 1) (cut - r d) (r d)
  rw [← hpl] at hp
  have hs := wf_ss_le va (ev 0) pl (cut - pl)
  rw [← hsm] at hs
  have hm3 : mo = 0 ∨ mo = 1 ∨ mo = 2 := hg.1.elim (fun q => Or.inr (Or.inr q.1)) (fun q => q.elim Or.inl (fun q => Or.inr (Or.inl q)))
  have hnp1 : cap < np := by omega
  have hnp2 : np ≤ 8192 := by omega
  refine lv_aload_n hx hb dX0_assign_0 rfl (lv_at hl 0 rfl) ?_
  refine lv_iload_n hx hb dX0_assign_1 rfl (lv_at hl 1 rfl) ?_
  refine xv_call (W.runV (As := [.int (nI d)]) (rest := []) ⟨hx, hb, hml, hown, hall⟩ (c_requireDriver l dC dI x a1 a2 a3 a4 a5 a6 a7 cI cJ nD nR dv r cap ti va ev ed ec ad ac now hI0 d hd) (cwV 1 hall gX0_62 rfl rfl rfl (by decide +kernel) ⟨Nat.le_of_ble_eq_true rfl, Nat.le_of_ble_eq_true rfl⟩) ⟨xr_blind, va_recv hK hP (ci := 0) (q0 := 0) rfl rfl, fun U hU hW => ⟨rfl, by rw [hU]; exact hP, va_K.moved hW.alike hK⟩⟩ rfl rfl hl.1 rfl (lv_room (Nat.le_of_ble_eq_true rfl)) dX0_assign_2 ⟨by first | exact Nat.zero_le _ | omega, by first | exact Nat.zero_le _ | omega⟩) (fun hv_2 => ?_)
  refine lv_aload_n hx hb dX0_assign_5 rfl (lv_at hl 0 rfl) ?_
  refine va_get (D := (dC, dI)) (ci := 0) (v := .int (nI ec)) (C := RX0) (T := TX0) (N := 12) hx hb hall inX0 hown hK hP 0 rfl rfl 8 (by decide) (hall _ kw_31) (fun _ h9 => h9) rfl dX0_assign_6 ?_
  refine xz_ne (tgt := 22) hx hb (by omega) dX0_assign_9 (by decide) (fun c_3 => ?_) (fun c_3 => ?_)
  · refine lv_aload_n hx hb dX0_assign_22 rfl (lv_at hl 0 rfl) ?_
    refine lv_iload_n hx hb dX0_assign_23 rfl (lv_at hl 2 rfl) ?_
    refine lv_lload_n hx hb dX0_assign_24 rfl (lv_at hl 3 rfl) ?_
    refine vp_callSi (W.runV (As := [.int mo, .long t]) (rest := []) ⟨hx, hb, hml, hown, hall⟩ (c_isLimitGood l dC dI x a1 a2 a3 a4 a5 a6 a7 cI cJ nD nR dv r cap ti va ev ed ec ad ac now mo t) (cwV 2 hall gX0_68 rfl rfl rfl (by decide +kernel) ⟨Nat.le_of_ble_eq_true rfl, Nat.le_of_ble_eq_true rfl⟩) ⟨xr_blind, va_recv hK hP (ci := 0) (q0 := 0) rfl rfl, fun U hU hW => ⟨rfl, by rw [hU]; exact hP, va_K.moved hW.alike hK⟩⟩ rfl rfl hl.1 rfl (lv_room (Nat.le_of_ble_eq_true rfl)) dX0_assign_25 ⟨by first | exact Nat.zero_le _ | omega, by first | exact Nat.zero_le _ | omega⟩) (fun v_4 hv_5 => ?_)
    obtain rfl : v_4 = 1 := hv_5.elim (fun q => q.1) (fun q => absurd hg.1 q.2)
    refine lv_if_eq (tgt := 38) hx hb dX0_assign_28 (by decide) (fun c_6 => ?_) (fun c_6 => ?_)
    · exact absurd c_6 (by decide)
    · refine lv_aload_n hx hb dX0_assign_31 rfl (lv_at hl 0 rfl) ?_
      refine vp_callSi (W.runV (As := []) (rest := []) ⟨hx, hb, hml, hown, hall⟩ (c_areDelaysGood l dC dI x a1 a2 a3 a4 a5 a6 a7 cI cJ nD nR dv r cap ti va ev ed ec ad ac now hI0) (cwV 0 hall gX0_72 rfl rfl rfl (by decide +kernel) ⟨Nat.le_of_ble_eq_true rfl, Nat.le_of_ble_eq_true rfl⟩) ⟨xr_blind, va_recv hK hP (ci := 0) (q0 := 0) rfl rfl, fun U hU hW => ⟨rfl, by rw [hU]; exact hP, va_K.moved hW.alike hK⟩⟩ rfl rfl hl.1 rfl (lv_room (Nat.le_of_ble_eq_true rfl)) dX0_assign_32 ⟨by first | exact Nat.zero_le _ | omega, by first | exact Nat.zero_le _ | omega⟩) (fun v_7 hv_8 => ?_)
      obtain rfl : v_7 = 1 := hv_8.elim (fun q => q.1) (fun q => absurd hg.2 q.2)
      refine lv_if_ne (tgt := 48) hx hb dX0_assign_35 (by decide) (fun c_9 => ?_) (fun c_9 => ?_)
      · refine lv_aload_n hx hb dX0_assign_48 rfl (lv_at hl 0 rfl) ?_
        refine va_get (D := (dC, dI)) (ci := 0) (v := .long now) (C := RX0) (T := TX0) (N := 12) hx hb hall inX0 hown hK hP 0 rfl rfl 11 (by decide) (hall _ kw_34) (fun _ h9 => h9) rfl dX0_assign_49 ?_
        refine lv_aload_n hx hb dX0_assign_52 rfl (lv_at hl 0 rfl) ?_
        refine va_get (D := (dC, dI)) (ci := 0) (v := .ref a6) (C := RX0) (T := TX0) (N := 12) hx hb hall inX0 hown hK hP 0 rfl rfl 7 (by decide) (hall _ kw_30) (fun _ h9 => h9) rfl dX0_assign_53 ?_
        refine lv_iconst (v := 0) hx hb dX0_assign_56 (by decide) ?_
        refine tp_i (y := nI 0) nI_0.symm ?_
        refine xa_lald hx hb hK hP 6 1 rfl rfl (by omega) (by omega) dX0_assign_57 ?_
        refine lv_ladd hx hb dX0_assign_58 ?_
        refine lv_lstore (lv' := [(5, .long (now + (ed 0))), (0, .ref x), (1, .int (nI d)), (2, .int mo), (3, .long t)]) hx hb dX0_assign_59 hl (by decide) rfl (fun ls hl => ?_)
        refine lv_aload_n hx hb dX0_assign_61 rfl (lv_at hl 1 rfl) ?_
        refine va_get (D := (dC, dI)) (ci := 0) (v := .ref a2) (C := RX0) (T := TX0) (N := 12) hx hb hall inX0 hown hK hP 0 rfl rfl 3 (by decide) (hall _ kw_26) (fun _ h9 => h9) rfl dX0_assign_62 ?_
        refine lv_iload_n hx hb dX0_assign_65 rfl (lv_at hl 2 rfl) ?_
        refine xa_iald hx hb hK hP 2 0 rfl rfl (by omega) (by omega) dX0_assign_66 ?_
        refine lv_istore (lv' := [(7, .int (nI (r d))), (5, .long (now + (ed 0))), (0, .ref x), (1, .int (nI d)), (2, .int mo), (3, .long t)]) hx hb dX0_assign_67 hl (by decide) rfl (fun ls hl => ?_)
        refine lv_aload_n hx hb dX0_assign_69 rfl (lv_at hl 2 rfl) ?_
        refine va_get (D := (dC, dI)) (ci := 0) (v := .ref a2) (C := RX0) (T := TX0) (N := 12) hx hb hall inX0 hown hK hP 0 rfl rfl 3 (by decide) (hall _ kw_26) (fun _ h9 => h9) rfl dX0_assign_70 ?_
        refine lv_iload_n hx hb dX0_assign_73 rfl (lv_at hl 3 rfl) ?_
        refine lv_iconst (v := 1) hx hb dX0_assign_74 (by decide) ?_
        refine lv_iadd hx hb dX0_assign_75 ?_
        refine tp_i (y := nI (d + 1)) (nI_1 d) ?_
        refine xa_iald hx hb hK hP 2 0 rfl rfl (by omega) (by omega) dX0_assign_76 ?_
        refine lv_istore (lv' := [(8, .int (nI (r (d + 1)))), (7, .int (nI (r d))), (5, .long (now + (ed 0))), (0, .ref x), (1, .int (nI d)), (2, .int mo), (3, .long t)]) hx hb dX0_assign_77 hl (by decide) rfl (fun ls hl => ?_)
        refine lv_aload_n hx hb dX0_assign_79 rfl (lv_at hl 3 rfl) ?_
        refine lv_iload hx hb dX0_assign_80 (lv_at hl 1 rfl) ?_
        refine lv_iload hx hb dX0_assign_82 (lv_at hl 0 rfl) ?_
        refine lv_lload hx hb dX0_assign_84 (lv_at hl 2 rfl) ?_
        refine lv_lconst (v := 1) hx hb dX0_assign_86 (by decide) ?_
        refine lv_lsub hx hb dX0_assign_87 ?_
        refine vp_callSi (W.runV (As := [.int (nI (r d)), .int (nI (r (d + 1))), .long ((now + (ed 0)) - 1)]) (rest := []) ⟨hx, hb, hml, hown, hall⟩ (c_firstBehind l dC dI x a1 a2 a3 a4 a5 a6 a7 cI cJ nD nR dv r cap ti va ev ed ec ad ac now (r d) (r (d + 1)) (now + ed 0 - 1) hmd (by omega) hcap) (cwV 3 hall gX0_82 rfl rfl rfl (by decide +kernel) ⟨Nat.le_of_ble_eq_true rfl, Nat.le_of_ble_eq_true rfl⟩) ⟨xr_blind, va_recv hK hP (ci := 0) (q0 := 0) rfl rfl, fun U hU hW => ⟨rfl, by rw [hU]; exact hP, va_K.moved hW.alike hK⟩⟩ rfl rfl hl.1 rfl (lv_room (Nat.le_of_ble_eq_true rfl)) dX0_assign_88 ⟨by first | exact Nat.zero_le _ | omega, by first | exact Nat.zero_le _ | omega⟩) (fun v_10 hv_11 => ?_)
        obtain rfl : v_10 = nI cut := hv_11.trans (by rw [← hcut])
        refine lv_istore (lv' := [(9, .int (nI cut)), (8, .int (nI (r (d + 1)))), (7, .int (nI (r d))), (5, .long (now + (ed 0))), (0, .ref x), (1, .int (nI d)), (2, .int mo), (3, .long t)]) hx hb dX0_assign_91 hl (by decide) rfl (fun ls hl => ?_)
        refine lv_aload_n hx hb dX0_assign_93 rfl (lv_at hl 4 rfl) ?_
        refine lv_iload hx hb dX0_assign_94 (lv_at hl 2 rfl) ?_
        refine lv_iload hx hb dX0_assign_96 (lv_at hl 0 rfl) ?_
        refine lv_lload hx hb dX0_assign_98 (lv_at hl 3 rfl) ?_
        refine lv_aload_n hx hb dX0_assign_100 rfl (lv_at hl 4 rfl) ?_
        refine lv_iload_n hx hb dX0_assign_101 rfl (lv_at hl 6 rfl) ?_
        refine lv_lload_n hx hb dX0_assign_102 rfl (lv_at hl 7 rfl) ?_
        refine vp_callSl (W.runV (As := [.int mo, .long t]) (rest := [.long (now + (ed 0)), .int (nI cut), .int (nI (r d)), .ref x]) ⟨hx, hb, hml, hown, hall⟩ (c_limitOf l dC dI x a1 a2 a3 a4 a5 a6 a7 cI cJ nD nR dv r cap ti va ev ed ec ad ac now mo t hm3) (cwV 2 hall gX0_86 rfl rfl rfl (by decide +kernel) ⟨Nat.le_of_ble_eq_true rfl, Nat.le_of_ble_eq_true rfl⟩) ⟨xr_blind, va_recv hK hP (ci := 0) (q0 := 0) rfl rfl, fun U hU hW => ⟨rfl, by rw [hU]; exact hP, va_K.moved hW.alike hK⟩⟩ rfl rfl hl.1 rfl (lv_room (Nat.le_of_ble_eq_true rfl)) dX0_assign_103 ⟨by first | exact Nat.zero_le _ | omega, by first | exact Nat.zero_le _ | omega⟩) (fun v_12 hv_13 => ?_)
        subst hv_13
        refine lv_lsub hx hb dX0_assign_106 ?_
        refine lv_lconst (v := 1) hx hb dX0_assign_107 (by decide) ?_
        refine lv_lsub hx hb dX0_assign_108 ?_
        refine vp_callSi (W.runV (As := [.int (nI (r d)), .int (nI cut), .long (((now + (ed 0)) - (wf_lim mo (ed 0) t)) - 1)]) (rest := []) ⟨hx, hb, hml, hown, hall⟩ (c_firstBehind l dC dI x a1 a2 a3 a4 a5 a6 a7 cI cJ nD nR dv r cap ti va ev ed ec ad ac now (r d) cut (now + ed 0 - wf_lim mo (ed 0) t - 1) hc.1 (by omega) hcap) (cwV 3 hall gX0_82 rfl rfl rfl (by decide +kernel) ⟨Nat.le_of_ble_eq_true rfl, Nat.le_of_ble_eq_true rfl⟩) ⟨xr_blind, va_recv hK hP (ci := 0) (q0 := 0) rfl rfl, fun U hU hW => ⟨rfl, by rw [hU]; exact hP, va_K.moved hW.alike hK⟩⟩ rfl rfl hl.1 rfl (lv_room (Nat.le_of_ble_eq_true rfl)) dX0_assign_109 ⟨by first | exact Nat.zero_le _ | omega, by first | exact Nat.zero_le _ | omega⟩) (fun v_14 hv_15 => ?_)
        obtain rfl : v_14 = nI pl := hv_15.trans (by rw [← hpl])
        refine lv_istore (lv' := [(10, .int (nI pl)), (9, .int (nI cut)), (8, .int (nI (r (d + 1)))), (7, .int (nI (r d))), (5, .long (now + (ed 0))), (0, .ref x), (1, .int (nI d)), (2, .int mo), (3, .long t)]) hx hb dX0_assign_112 hl (by decide) rfl (fun ls hl => ?_)
        refine lv_aload_n hx hb dX0_assign_114 rfl (lv_at hl 5 rfl) ?_
        refine lv_iload hx hb dX0_assign_115 (lv_at hl 0 rfl) ?_
        refine lv_iload hx hb dX0_assign_117 (lv_at hl 1 rfl) ?_
        refine lv_aload_n hx hb dX0_assign_119 rfl (lv_at hl 5 rfl) ?_
        refine va_get (D := (dC, dI)) (ci := 0) (v := .ref a5) (C := RX0) (T := TX0) (N := 12) hx hb hall inX0 hown hK hP 0 rfl rfl 6 (by decide) (hall _ kw_29) (fun _ h9 => h9) rfl dX0_assign_120 ?_
        refine lv_iconst (v := 0) hx hb dX0_assign_123 (by decide) ?_
        refine tp_i (y := nI 0) nI_0.symm ?_
        refine xa_lald hx hb hK hP 5 1 rfl rfl (by omega) (by omega) dX0_assign_124 ?_
        refine vp_callSi (W.runV (As := [.int (nI pl), .int (nI cut), .long (ev 0)]) (rest := []) ⟨hx, hb, hml, hown, hall⟩ (c_startOfSameValues l dC dI x a1 a2 a3 a4 a5 a6 a7 cI cJ nD nR dv r cap ti va ev ed ec ad ac now pl cut (ev 0) (by omega) (by omega) hcap) (cwV 3 hall gX0_90 rfl rfl rfl (by decide +kernel) ⟨Nat.le_of_ble_eq_true rfl, Nat.le_of_ble_eq_true rfl⟩) ⟨xr_blind, va_recv hK hP (ci := 0) (q0 := 0) rfl rfl, fun U hU hW => ⟨rfl, by rw [hU]; exact hP, va_K.moved hW.alike hK⟩⟩ rfl rfl hl.1 rfl (lv_room (Nat.le_of_ble_eq_true rfl)) dX0_assign_125 ⟨by first | exact Nat.zero_le _ | omega, by first | exact Nat.zero_le _ | omega⟩) (fun v_16 hv_17 => ?_)
        obtain rfl : v_16 = nI sm := hv_17.trans (by rw [← hsm])
        refine lv_istore (lv' := [(11, .int (nI sm)), (10, .int (nI pl)), (9, .int (nI cut)), (8, .int (nI (r (d + 1)))), (7, .int (nI (r d))), (5, .long (now + (ed 0))), (0, .ref x), (1, .int (nI d)), (2, .int mo), (3, .long t)]) hx hb dX0_assign_128 hl (by decide) rfl (fun ls hl => ?_)
        refine lv_iload hx hb dX0_assign_130 (lv_at hl 0 rfl) ?_
        refine lv_iload hx hb dX0_assign_132 (lv_at hl 1 rfl) ?_
        refine lv_isub hx hb dX0_assign_134 ?_
        refine tp_i (y := nI (sm - pl)) (pk_sub (by omega)) ?_
        refine lv_iload hx hb dX0_assign_135 (lv_at hl 3 rfl) ?_
        refine lv_iload hx hb dX0_assign_137 (lv_at hl 2 rfl) ?_
        refine lv_isub hx hb dX0_assign_139 ?_
        refine tp_i (y := nI (r (d + 1) - cut)) (pk_sub (by omega)) ?_
        refine lv_iadd hx hb dX0_assign_140 ?_
        refine tp_i (y := nI (sm - pl + (r (d + 1) - cut))) (nI_add _ _) ?_
        refine lv_istore (lv' := [(12, .int (nI (sm - pl + (r (d + 1) - cut)))), (11, .int (nI sm)), (10, .int (nI pl)), (9, .int (nI cut)), (8, .int (nI (r (d + 1)))), (7, .int (nI (r d))), (5, .long (now + (ed 0))), (0, .ref x), (1, .int (nI d)), (2, .int mo), (3, .long t)]) hx hb dX0_assign_141 hl (by decide) rfl (fun ls hl => ?_)
        refine lv_aload_n hx hb dX0_assign_143 rfl (lv_at hl 7 rfl) ?_
        refine va_get (D := (dC, dI)) (ci := 0) (v := .ref a2) (C := RX0) (T := TX0) (N := 12) hx hb hall inX0 hown hK hP 0 rfl rfl 3 (by decide) (hall _ kw_26) (fun _ h9 => h9) rfl dX0_assign_144 ?_
        refine lv_aload_n hx hb dX0_assign_147 rfl (lv_at hl 7 rfl) ?_
        refine va_get (D := (dC, dI)) (ci := 0) (v := .int (nI nD)) (C := RX0) (T := TX0) (N := 12) hx hb hall inX0 hown hK hP 0 rfl rfl 0 (by decide) (hall _ kw_23) (fun _ h9 => h9) rfl dX0_assign_148 ?_
        refine xa_iald hx hb hK hP 2 0 rfl rfl (by omega) (by omega) dX0_assign_151 ?_
        refine lv_iload hx hb dX0_assign_152 (lv_at hl 0 rfl) ?_
        refine lv_isub hx hb dX0_assign_154 ?_
        refine tp_i (y := nI (r nD - (sm - pl + (r (d + 1) - cut)))) (pk_sub (by omega)) ?_
        refine lv_aload_n hx hb dX0_assign_155 rfl (lv_at hl 7 rfl) ?_
        refine va_get (D := (dC, dI)) (ci := 0) (v := .int (nI ec)) (C := RX0) (T := TX0) (N := 12) hx hb hall inX0 hown hK hP 0 rfl rfl 8 (by decide) (hall _ kw_31) (fun _ h9 => h9) rfl dX0_assign_156 ?_
        refine lv_iadd hx hb dX0_assign_159 ?_
        refine tp_i (y := nI (r nD - (sm - pl + (r (d + 1) - cut)) + ec)) (nI_add _ _) ?_
        refine lv_aload_n hx hb dX0_assign_160 rfl (lv_at hl 7 rfl) ?_
        refine va_get (D := (dC, dI)) (ci := 0) (v := .int (nI nR)) (C := RX0) (T := TX0) (N := 12) hx hb hall inX0 hown hK hP 0 rfl rfl 1 (by decide) (hall _ kw_24) (fun _ h9 => h9) rfl dX0_assign_161 ?_
        refine xc_le (tgt := 177) hx hb (by omega) (by omega) dX0_assign_164 (by decide) (fun c_18 => ?_) (fun c_18 => ?_)
        · refine lv_iload hx hb dX0_assign_177 (lv_at hl 2 rfl) ?_
          refine lv_iload hx hb dX0_assign_179 (lv_at hl 3 rfl) ?_
          refine lv_iadd hx hb dX0_assign_181 ?_
          refine tp_i (y := nI (pl + cut)) (nI_add _ _) ?_
          refine lv_iload hx hb dX0_assign_182 (lv_at hl 1 rfl) ?_
          refine lv_isub hx hb dX0_assign_184 ?_
          refine tp_i (y := nI (pl + cut - sm)) (pk_sub (by omega)) ?_
          refine lv_istore (lv' := [(13, .int (nI (pl + cut - sm))), (12, .int (nI (sm - pl + (r (d + 1) - cut)))), (11, .int (nI sm)), (10, .int (nI pl)), (9, .int (nI cut)), (8, .int (nI (r (d + 1)))), (7, .int (nI (r d))), (5, .long (now + (ed 0))), (0, .ref x), (1, .int (nI d)), (2, .int mo), (3, .long t)]) hx hb dX0_assign_185 hl (by decide) rfl (fun ls hl => ?_)
          refine lv_aload_n hx hb dX0_assign_187 rfl (lv_at hl 8 rfl) ?_
          refine lv_iload hx hb dX0_assign_188 (lv_at hl 2 rfl) ?_
          refine lv_iload hx hb dX0_assign_190 (lv_at hl 3 rfl) ?_
          refine lv_iload hx hb dX0_assign_192 (lv_at hl 4 rfl) ?_
          refine lv_iload hx hb dX0_assign_194 (lv_at hl 2 rfl) ?_
          refine lv_isub hx hb dX0_assign_196 ?_
          refine tp_i (y := nI (cut - sm)) (pk_sub (by omega)) ?_
          have hFc := va_free (wc := [(x, .inr (0, [.int (nI nD), .int (nI nR), .ref a1, .ref a2, .ref a3, .ref a4, .ref a5, .ref a6, .int (nI ec), .ref a7, .int (nI ac), .long now])), (a1, .inl (cJ, nD, .inr (.inl dv))), (a2, .inl (cI, nD + 1, .inl (fun j => nI (r j)))), (a3, .inl (cJ, cap, .inr (.inl ti))), (a4, .inl (cJ, cap, .inr (.inl va))), (a5, .inl (cJ, 16, .inr (.inl ev))), (a6, .inl (cJ, 16, .inr (.inl ed))), (a7, .inl (cI, nD, .inl ad))]) hD hS hA [0, 1, 2, 3, 4, 5, 6, 7] rfl
          refine va_callv (va_runV (As := [.int (nI sm), .int (nI pl), .int (nI (cut - sm))]) (rest := []) ⟨hx, hb, hml, hown, hall⟩ (c_moveTransactions l dC dI x a1 a2 a3 a4 a5 a6 a7 cI cJ nD nR dv r cap ti va ev ed ec ad ac now s.heap.size sm pl (cut - sm) (by omega) (by omega) hcap) (cwV 3 hall gX0_95 rfl rfl rfl (by decide +kernel) ⟨Nat.le_of_ble_eq_true rfl, Nat.le_of_ble_eq_true rfl⟩) ⟨xu_blind, va_recv hK hP (ci := 0) (q0 := 0) rfl rfl, fun U hU hW => ⟨rfl, by rw [hU], by rw [hU]; exact hP, va_K.moved hW.alike hK, hD.weaken (fun _ _ _ _ => trivial)⟩⟩ rfl rfl hl.1 rfl (lv_room (Nat.le_of_ble_eq_true rfl)) dX0_assign_197 ⟨by show _ ≤ 2; omega, by show _ ≤ 2 * np; omega⟩) hS (fun q _ h => hFc q h) hFc (fun u9 t9 H1 locs ht hvm hw hB hz1 hk1 hS => ?_)
          obtain ⟨hP1, hK1, hD1⟩ := hB
          rw [ht] at hP1
          obtain ⟨hP, hD⟩ := va_join (wr := []) (w1 := [(x, .inr (0, [.int (nI nD), .int (nI nR), .ref a1, .ref a2, .ref a3, .ref a4, .ref a5, .ref a6, .int (nI ec), .ref a7, .int (nI ac), .long now])), (a1, .inl (cJ, nD, .inr (.inl dv))), (a2, .inl (cI, nD + 1, .inl (fun j => nI (r j)))), (a3, .inl (cJ, cap, .inr (.inl (va_cpy ti ti sm pl (cut - sm))))), (a4, .inl (cJ, cap, .inr (.inl (va_cpy va va sm pl (cut - sm))))), (a5, .inl (cJ, 16, .inr (.inl ev))), (a6, .inl (cJ, 16, .inr (.inl ed))), (a7, .inl (cI, nD, .inl ad))]) hP hD [0, 1, 2, 3, 4, 5, 6, 7] [] rfl rfl (by decide) (by decide) hk1 hFc hP1 hD1
          generalize H1 = H at hP hS ⊢
          have hP : va_P (dC, dI) vwCl [(x, .inr (0, [.int (nI nD), .int (nI nR), .ref a1, .ref a2, .ref a3, .ref a4, .ref a5, .ref a6, .int (nI ec), .ref a7, .int (nI ac), .long now])), (a1, .inl (cJ, nD, .inr (.inl dv))), (a2, .inl (cI, nD + 1, .inl (fun j => nI (r j)))), (a3, .inl (cJ, cap, .inr (.inl (va_cpy ti ti sm pl (cut - sm))))), (a4, .inl (cJ, cap, .inr (.inl (va_cpy va va sm pl (cut - sm))))), (a5, .inl (cJ, 16, .inr (.inl ev))), (a6, .inl (cJ, 16, .inr (.inl ed))), (a7, .inl (cI, nD, .inl ad))] H := hP
          have hD : va_D A [(x, .inr (0, [.int (nI nD), .int (nI nR), .ref a1, .ref a2, .ref a3, .ref a4, .ref a5, .ref a6, .int (nI ec), .ref a7, .int (nI ac), .long now])), (a1, .inl (cJ, nD, .inr (.inl dv))), (a2, .inl (cI, nD + 1, .inl (fun j => nI (r j)))), (a3, .inl (cJ, cap, .inr (.inl (va_cpy ti ti sm pl (cut - sm))))), (a4, .inl (cJ, cap, .inr (.inl (va_cpy va va sm pl (cut - sm))))), (a5, .inl (cJ, 16, .inr (.inl ev))), (a6, .inl (cJ, 16, .inr (.inl ed))), (a7, .inl (cI, nD, .inl ad))] := hD
          refine lv_aload_n hx hb dX0_assign_200 rfl (lv_at hl 8 rfl) ?_
          refine lv_iload_n hx hb dX0_assign_201 rfl (lv_at hl 9 rfl) ?_
          refine lv_iload hx hb dX0_assign_202 (lv_at hl 0 rfl) ?_
          refine lv_aload_n hx hb dX0_assign_204 rfl (lv_at hl 8 rfl) ?_
          refine va_get (D := (dC, dI)) (ci := 0) (v := .int (nI ec)) (C := RX0) (T := TX0) (N := 12) hx hb hall inX0 hown hK hP 0 rfl rfl 8 (by decide) (hall _ kw_31) (fun _ h9 => h9) rfl dX0_assign_205 ?_
          refine lv_iadd hx hb dX0_assign_208 ?_
          refine tp_i (y := nI (pl + cut - sm + ec)) (nI_add _ _) ?_
          have hFc := va_free (wc := [(x, .inr (0, [.int (nI nD), .int (nI nR), .ref a1, .ref a2, .ref a3, .ref a4, .ref a5, .ref a6, .int (nI ec), .ref a7, .int (nI ac), .long now])), (a1, .inl (cJ, nD, .inr (.inl dv))), (a2, .inl (cI, nD + 1, .inl (fun j => nI (r j)))), (a3, .inl (cJ, cap, .inr (.inl (va_cpy ti ti sm pl (cut - sm))))), (a4, .inl (cJ, cap, .inr (.inl (va_cpy va va sm pl (cut - sm))))), (a5, .inl (cJ, 16, .inr (.inl ev))), (a6, .inl (cJ, 16, .inr (.inl ed))), (a7, .inl (cI, nD, .inl ad))]) hD hS hA [0, 1, 2, 3, 4, 5, 6, 7] rfl
          refine va_callv (va_runV (As := [.int (nI d), .int (nI (pl + cut - sm + ec))]) (rest := []) ⟨hx, hb, hml, hown, hall⟩ (c_endRowAt2 l dC dI x a1 a2 a3 a4 a5 a6 a7 cI cJ nD nR dv r cap (va_cpy ti ti sm pl (cut - sm)) (va_cpy va va sm pl (cut - sm)) ev ed ec ad ac now H.size hI0 d (pl + cut - sm + ec) hd hq (by omega) np hnp) (cwV 2 hall gX0_99 rfl rfl rfl (by decide +kernel) ⟨Nat.le_of_ble_eq_true rfl, Nat.le_of_ble_eq_true rfl⟩) ⟨xu_blind, va_recv hK hP (ci := 0) (q0 := 0) rfl rfl, fun U hU hW => ⟨rfl, by rw [hU], by rw [hU]; exact hP, va_K.moved hW.alike hK, hD.weaken (fun _ _ _ _ => trivial)⟩⟩ rfl rfl hl.1 rfl (lv_room (Nat.le_of_ble_eq_true rfl)) dX0_assign_209 ⟨by show _ ≤ 2; omega, by show _ ≤ 2 * np; omega⟩) hS (fun q _ h => hFc q h) hFc (fun u9 t9 H1 locs ht hvm hw hB hz1 hk1 hS => ?_)
          obtain ⟨b3, b4, hP1, hK1, hD1⟩ := hB
          rw [ht] at hP1
          obtain ⟨hP, hD⟩ := va_join (wr := []) (w1 := [(x, .inr (0, [.int (nI nD), .int (nI nR), .ref a1, .ref a2, .ref b3, .ref b4, .ref a5, .ref a6, .int (nI ec), .ref a7, .int (nI ac), .long now])), (a1, .inl (cJ, nD, .inr (.inl dv))), (a2, .inl (cI, nD + 1, .inl (fun j => nI ((wf_sh r d (pl + cut - sm + ec) (r (d + 1)) (nD + 1)) j)))), (b3, .inl (cJ, np, .inr (.inl (va_cpy (va_cpy (va_cpy ti ti sm pl (cut - sm)) (fun _ => 0) 0 0 cap) (va_cpy (va_cpy ti ti sm pl (cut - sm)) (fun _ => 0) 0 0 cap) (r (d + 1)) (pl + cut - sm + ec) (r nD - r (d + 1)))))), (b4, .inl (cJ, np, .inr (.inl (va_cpy (va_cpy (va_cpy va va sm pl (cut - sm)) (fun _ => 0) 0 0 cap) (va_cpy (va_cpy va va sm pl (cut - sm)) (fun _ => 0) 0 0 cap) (r (d + 1)) (pl + cut - sm + ec) (r nD - r (d + 1)))))), (a5, .inl (cJ, 16, .inr (.inl ev))), (a6, .inl (cJ, 16, .inr (.inl ed))), (a7, .inl (cI, nD, .inl ad))]) hP hD [0, 1, 2, 3, 4, 5, 6, 7] [] rfl rfl (by decide) (by decide) hk1 hFc hP1 hD1
          generalize H1 = H at hP hS ⊢
          have hP : va_P (dC, dI) vwCl [(x, .inr (0, [.int (nI nD), .int (nI nR), .ref a1, .ref a2, .ref b3, .ref b4, .ref a5, .ref a6, .int (nI ec), .ref a7, .int (nI ac), .long now])), (a1, .inl (cJ, nD, .inr (.inl dv))), (a2, .inl (cI, nD + 1, .inl (fun j => nI ((wf_sh r d (pl + cut - sm + ec) (r (d + 1)) (nD + 1)) j)))), (b3, .inl (cJ, np, .inr (.inl (va_cpy (va_cpy (va_cpy ti ti sm pl (cut - sm)) (fun _ => 0) 0 0 cap) (va_cpy (va_cpy ti ti sm pl (cut - sm)) (fun _ => 0) 0 0 cap) (r (d + 1)) (pl + cut - sm + ec) (r nD - r (d + 1)))))), (b4, .inl (cJ, np, .inr (.inl (va_cpy (va_cpy (va_cpy va va sm pl (cut - sm)) (fun _ => 0) 0 0 cap) (va_cpy (va_cpy va va sm pl (cut - sm)) (fun _ => 0) 0 0 cap) (r (d + 1)) (pl + cut - sm + ec) (r nD - r (d + 1)))))), (a5, .inl (cJ, 16, .inr (.inl ev))), (a6, .inl (cJ, 16, .inr (.inl ed))), (a7, .inl (cI, nD, .inl ad))] H := hP
          have hD : va_D A [(x, .inr (0, [.int (nI nD), .int (nI nR), .ref a1, .ref a2, .ref b3, .ref b4, .ref a5, .ref a6, .int (nI ec), .ref a7, .int (nI ac), .long now])), (a1, .inl (cJ, nD, .inr (.inl dv))), (a2, .inl (cI, nD + 1, .inl (fun j => nI ((wf_sh r d (pl + cut - sm + ec) (r (d + 1)) (nD + 1)) j)))), (b3, .inl (cJ, np, .inr (.inl (va_cpy (va_cpy (va_cpy ti ti sm pl (cut - sm)) (fun _ => 0) 0 0 cap) (va_cpy (va_cpy ti ti sm pl (cut - sm)) (fun _ => 0) 0 0 cap) (r (d + 1)) (pl + cut - sm + ec) (r nD - r (d + 1)))))), (b4, .inl (cJ, np, .inr (.inl (va_cpy (va_cpy (va_cpy va va sm pl (cut - sm)) (fun _ => 0) 0 0 cap) (va_cpy (va_cpy va va sm pl (cut - sm)) (fun _ => 0) 0 0 cap) (r (d + 1)) (pl + cut - sm + ec) (r nD - r (d + 1)))))), (a5, .inl (cJ, 16, .inr (.inl ev))), (a6, .inl (cJ, 16, .inr (.inl ed))), (a7, .inl (cI, nD, .inl ad))] := hD
          refine W.widen (k := 2) (n := 2 * np) (by omega) (by omega) ?_
          refine lv_aload_n hx hb dX0_assign_212 rfl (lv_at hl 8 rfl) ?_
          refine lv_iload hx hb dX0_assign_213 (lv_at hl 0 rfl) ?_
          have hFc := va_free (wc := [(x, .inr (0, [.int (nI nD), .int (nI nR), .ref a1, .ref a2, .ref b3, .ref b4, .ref a5, .ref a6, .int (nI ec), .ref a7, .int (nI ac), .long now])), (a1, .inl (cJ, nD, .inr (.inl dv))), (a2, .inl (cI, nD + 1, .inl (fun j => nI ((wf_sh r d (pl + cut - sm + ec) (r (d + 1)) (nD + 1)) j)))), (b3, .inl (cJ, np, .inr (.inl (va_cpy (va_cpy (va_cpy ti ti sm pl (cut - sm)) (fun _ => 0) 0 0 cap) (va_cpy (va_cpy ti ti sm pl (cut - sm)) (fun _ => 0) 0 0 cap) (r (d + 1)) (pl + cut - sm + ec) (r nD - r (d + 1)))))), (b4, .inl (cJ, np, .inr (.inl (va_cpy (va_cpy (va_cpy va va sm pl (cut - sm)) (fun _ => 0) 0 0 cap) (va_cpy (va_cpy va va sm pl (cut - sm)) (fun _ => 0) 0 0 cap) (r (d + 1)) (pl + cut - sm + ec) (r nD - r (d + 1)))))), (a5, .inl (cJ, 16, .inr (.inl ev))), (a6, .inl (cJ, 16, .inr (.inl ed))), (a7, .inl (cI, nD, .inl ad))]) hD hS hA [0, 1, 2, 3, 4, 5, 6, 7] rfl
          refine va_callv (va_runV (As := [.int (nI (pl + cut - sm))]) (rest := []) ⟨hx, hb, hml, hown, hall⟩ (c_writeElements l dC dI x a1 a2 b3 b4 a5 a6 a7 cI cJ nD nR dv (wf_sh r d (pl + cut - sm + ec) (r (d + 1)) (nD + 1)) np (va_cpy (va_cpy (va_cpy ti ti sm pl (cut - sm)) (fun _ => 0) 0 0 cap) (va_cpy (va_cpy ti ti sm pl (cut - sm)) (fun _ => 0) 0 0 cap) (r (d + 1)) (pl + cut - sm + ec) (r nD - r (d + 1))) (va_cpy (va_cpy (va_cpy va va sm pl (cut - sm)) (fun _ => 0) 0 0 cap) (va_cpy (va_cpy va va sm pl (cut - sm)) (fun _ => 0) 0 0 cap) (r (d + 1)) (pl + cut - sm + ec) (r nD - r (d + 1))) ev ed ec ad ac now H.size (pl + cut - sm) (by omega) hnp2 hec) (cwV 1 hall gX0_103 rfl rfl rfl (by decide +kernel) ⟨Nat.le_of_ble_eq_true rfl, Nat.le_of_ble_eq_true rfl⟩) ⟨xu_blind, va_recv hK hP (ci := 0) (q0 := 0) rfl rfl, fun U hU hW => ⟨rfl, by rw [hU], by rw [hU]; exact hP, va_K.moved hW.alike hK, hD.weaken (fun _ _ _ _ => trivial)⟩⟩ rfl rfl hl.1 rfl (lv_room (Nat.le_of_ble_eq_true rfl)) dX0_assign_215 ⟨by show _ ≤ 2; omega, by show _ ≤ 2 * np; omega⟩) hS (fun q _ h => hFc q h) hFc (fun u9 t9 H1 locs ht hvm hw hB hz1 hk1 hS => ?_)
          obtain ⟨hP1, hK1, hD1⟩ := hB
          rw [ht] at hP1
          obtain ⟨hP, hD⟩ := va_join (wr := []) (w1 := [(x, .inr (0, [.int (nI nD), .int (nI nR), .ref a1, .ref a2, .ref b3, .ref b4, .ref a5, .ref a6, .int (nI ec), .ref a7, .int (nI ac), .long now])), (a1, .inl (cJ, nD, .inr (.inl dv))), (a2, .inl (cI, nD + 1, .inl (fun j => nI ((wf_sh r d (pl + cut - sm + ec) (r (d + 1)) (nD + 1)) j)))), (b3, .inl (cJ, np, .inr (.inl (wf_pt (va_cpy (va_cpy (va_cpy ti ti sm pl (cut - sm)) (fun _ => 0) 0 0 cap) (va_cpy (va_cpy ti ti sm pl (cut - sm)) (fun _ => 0) 0 0 cap) (r (d + 1)) (pl + cut - sm + ec) (r nD - r (d + 1))) (pl + cut - sm) (fun i => now + ed i) ec)))), (b4, .inl (cJ, np, .inr (.inl (wf_pt (va_cpy (va_cpy (va_cpy va va sm pl (cut - sm)) (fun _ => 0) 0 0 cap) (va_cpy (va_cpy va va sm pl (cut - sm)) (fun _ => 0) 0 0 cap) (r (d + 1)) (pl + cut - sm + ec) (r nD - r (d + 1))) (pl + cut - sm) ev ec)))), (a5, .inl (cJ, 16, .inr (.inl ev))), (a6, .inl (cJ, 16, .inr (.inl ed))), (a7, .inl (cI, nD, .inl ad))]) hP hD [0, 1, 2, 3, 4, 5, 6, 7] [] rfl rfl (by decide) (by decide) hk1 hFc hP1 hD1
          generalize H1 = H at hP hS ⊢
          have hP : va_P (dC, dI) vwCl [(x, .inr (0, [.int (nI nD), .int (nI nR), .ref a1, .ref a2, .ref b3, .ref b4, .ref a5, .ref a6, .int (nI ec), .ref a7, .int (nI ac), .long now])), (a1, .inl (cJ, nD, .inr (.inl dv))), (a2, .inl (cI, nD + 1, .inl (fun j => nI ((wf_sh r d (pl + cut - sm + ec) (r (d + 1)) (nD + 1)) j)))), (b3, .inl (cJ, np, .inr (.inl (wf_pt (va_cpy (va_cpy (va_cpy ti ti sm pl (cut - sm)) (fun _ => 0) 0 0 cap) (va_cpy (va_cpy ti ti sm pl (cut - sm)) (fun _ => 0) 0 0 cap) (r (d + 1)) (pl + cut - sm + ec) (r nD - r (d + 1))) (pl + cut - sm) (fun i => now + ed i) ec)))), (b4, .inl (cJ, np, .inr (.inl (wf_pt (va_cpy (va_cpy (va_cpy va va sm pl (cut - sm)) (fun _ => 0) 0 0 cap) (va_cpy (va_cpy va va sm pl (cut - sm)) (fun _ => 0) 0 0 cap) (r (d + 1)) (pl + cut - sm + ec) (r nD - r (d + 1))) (pl + cut - sm) ev ec)))), (a5, .inl (cJ, 16, .inr (.inl ev))), (a6, .inl (cJ, 16, .inr (.inl ed))), (a7, .inl (cI, nD, .inl ad))] H := hP
          have hD : va_D A [(x, .inr (0, [.int (nI nD), .int (nI nR), .ref a1, .ref a2, .ref b3, .ref b4, .ref a5, .ref a6, .int (nI ec), .ref a7, .int (nI ac), .long now])), (a1, .inl (cJ, nD, .inr (.inl dv))), (a2, .inl (cI, nD + 1, .inl (fun j => nI ((wf_sh r d (pl + cut - sm + ec) (r (d + 1)) (nD + 1)) j)))), (b3, .inl (cJ, np, .inr (.inl (wf_pt (va_cpy (va_cpy (va_cpy ti ti sm pl (cut - sm)) (fun _ => 0) 0 0 cap) (va_cpy (va_cpy ti ti sm pl (cut - sm)) (fun _ => 0) 0 0 cap) (r (d + 1)) (pl + cut - sm + ec) (r nD - r (d + 1))) (pl + cut - sm) (fun i => now + ed i) ec)))), (b4, .inl (cJ, np, .inr (.inl (wf_pt (va_cpy (va_cpy (va_cpy va va sm pl (cut - sm)) (fun _ => 0) 0 0 cap) (va_cpy (va_cpy va va sm pl (cut - sm)) (fun _ => 0) 0 0 cap) (r (d + 1)) (pl + cut - sm + ec) (r nD - r (d + 1))) (pl + cut - sm) ev ec)))), (a5, .inl (cJ, 16, .inr (.inl ev))), (a6, .inl (cJ, 16, .inr (.inl ed))), (a7, .inl (cI, nD, .inl ad))] := hD
          refine lv_aload_n hx hb dX0_assign_218 rfl (lv_at hl 8 rfl) ?_
          refine lv_iconst (v := 0) hx hb dX0_assign_219 (by decide) ?_
          refine tp_i (y := nI 0) nI_0.symm ?_
          refine va_put (D := (dC, dI)) (ci := 0) (v := .int (nI 0)) (ty := .int) (C := RX0) (T := TX0) (N := 12) hx hb hall inX0 tyX0 tyX0_ok nmX0 hown hK hP hD hS 0 rfl rfl 8 (by decide) (hall _ kw_31) (fun _ h9 => h9) rfl (by decide +kernel) rfl rfl (Nat.le_of_ble_eq_true rfl) dX0_assign_220 (fun H locs hP hD hS => ?_)
          have hP : va_P (dC, dI) vwCl [(x, .inr (0, [.int (nI nD), .int (nI nR), .ref a1, .ref a2, .ref b3, .ref b4, .ref a5, .ref a6, .int (nI 0), .ref a7, .int (nI ac), .long now])), (a1, .inl (cJ, nD, .inr (.inl dv))), (a2, .inl (cI, nD + 1, .inl (fun j => nI ((wf_sh r d (pl + cut - sm + ec) (r (d + 1)) (nD + 1)) j)))), (b3, .inl (cJ, np, .inr (.inl (wf_pt (va_cpy (va_cpy (va_cpy ti ti sm pl (cut - sm)) (fun _ => 0) 0 0 cap) (va_cpy (va_cpy ti ti sm pl (cut - sm)) (fun _ => 0) 0 0 cap) (r (d + 1)) (pl + cut - sm + ec) (r nD - r (d + 1))) (pl + cut - sm) (fun i => now + ed i) ec)))), (b4, .inl (cJ, np, .inr (.inl (wf_pt (va_cpy (va_cpy (va_cpy va va sm pl (cut - sm)) (fun _ => 0) 0 0 cap) (va_cpy (va_cpy va va sm pl (cut - sm)) (fun _ => 0) 0 0 cap) (r (d + 1)) (pl + cut - sm + ec) (r nD - r (d + 1))) (pl + cut - sm) ev ec)))), (a5, .inl (cJ, 16, .inr (.inl ev))), (a6, .inl (cJ, 16, .inr (.inl ed))), (a7, .inl (cI, nD, .inl ad))] H := hP
          have hD : va_D A [(x, .inr (0, [.int (nI nD), .int (nI nR), .ref a1, .ref a2, .ref b3, .ref b4, .ref a5, .ref a6, .int (nI 0), .ref a7, .int (nI ac), .long now])), (a1, .inl (cJ, nD, .inr (.inl dv))), (a2, .inl (cI, nD + 1, .inl (fun j => nI ((wf_sh r d (pl + cut - sm + ec) (r (d + 1)) (nD + 1)) j)))), (b3, .inl (cJ, np, .inr (.inl (wf_pt (va_cpy (va_cpy (va_cpy ti ti sm pl (cut - sm)) (fun _ => 0) 0 0 cap) (va_cpy (va_cpy ti ti sm pl (cut - sm)) (fun _ => 0) 0 0 cap) (r (d + 1)) (pl + cut - sm + ec) (r nD - r (d + 1))) (pl + cut - sm) (fun i => now + ed i) ec)))), (b4, .inl (cJ, np, .inr (.inl (wf_pt (va_cpy (va_cpy (va_cpy va va sm pl (cut - sm)) (fun _ => 0) 0 0 cap) (va_cpy (va_cpy va va sm pl (cut - sm)) (fun _ => 0) 0 0 cap) (r (d + 1)) (pl + cut - sm + ec) (r nD - r (d + 1))) (pl + cut - sm) ev ec)))), (a5, .inl (cJ, 16, .inr (.inl ev))), (a6, .inl (cJ, 16, .inr (.inl ed))), (a7, .inl (cI, nD, .inl ad))] := hD
          refine lv_iload hx hb dX0_assign_223 (lv_at hl 1 rfl) ?_
          exact W.iret (v := nI (sm - pl + (r (d + 1) - cut))) hx hb hr (fun t9 ht hW => ⟨⟨nI (sm - pl + (r (d + 1) - cut)), (), rfl, rfl, b3, b4, by rw [ht]; exact hP, va_K.moved hW.alike hK, hD⟩, hS.F ht⟩) hS.2.2 dX0_assign_225
        · exact absurd c_18 (by omega)
      · exact absurd c_9 (by decide)
  · exact absurd c_3 (by omega)
