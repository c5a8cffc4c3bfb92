set_option maxHeartbeats 4000000 in
set_option maxRecDepth 100000 in
theorem c_init (l : Launch) (dC : Nat → ClassId) (dI : Nat → Nat → Nat) (x : Nat) (sz : Nat) (i j : Int32) (nD nR pl : Nat) (hi : wf_in i 512 512 64 nD) (hj : wf_in j 8192 8192 1024 nR) (hpl : pl = min nR 64) : Met l yX0_init wsX0_init ({ frames := 1, cells := 7, slots := nD + (nD + 1) + nD + pl + pl + 16 + 16, locals := 60 }) (va_Pc [.ref x, .int i, .int j] (fun U => U.heap.size = sz ∧ va_P (dC, dI) vwCl [(x, .inr (0, [.int 0, .int 0, .null, .null, .null, .null, .null, .null, .int (nI 0), .null, .int (nI 0), .long 0]))] U.heap ∧ va_K (dC, dI) vwCl [] U ∧ va_D (fun _ => True) [(x, .inr (0, [.int 0, .int 0, .null, .null, .null, .null, .null, .null, .int (nI 0), .null, .int (nI 0), .long 0]))])) (va_Qv (fun _ : Unit => True) (fun _ t9 => ∃ (a1 a2 a3 a4 a5 a6 a7 : Nat) (cI cJ : ClassId), va_P (dC, dI) vwCl (wr x a1 a2 a3 a4 a5 a6 a7 cI cJ nD nR (fun _ => 0) (fun _ => 0) pl (fun _ => 0) (fun _ => 0) (fun _ => 0) (fun _ => 0) 0 (fun _ => nI 0) 0 0) t9.heap ∧ va_K (dC, dI) vwCl [(cI, .int), (cJ, .long)] t9 ∧ va_D (va_A [(x, .inr (0, [.int 0, .int 0, .null, .null, .null, .null, .null, .null, .int (nI 0), .null, .int (nI 0), .long 0]))] sz) (wr x a1 a2 a3 a4 a5 a6 a7 cI cJ nD nR (fun _ => 0) (fun _ => 0) pl (fun _ => 0) (fun _ => 0) (fun _ => 0) (fun _ => 0) 0 (fun _ => nI 0) 0 0)) (va_A [(x, .inr (0, [.int 0, .int 0, .null, .null, .null, .null, .null, .null, .int (nI 0), .null, .int (nI 0), .long 0]))] sz)) 7 (nD + (nD + 1) + nD + pl + pl + 16 + 16) (va_A [(x, .inr (0, [.int 0, .int 0, .null, .null, .null, .null, .null, .null, .int (nI 0), .null, .int (nI 0), .long 0]))] sz) := by
  refine Met.ofW (cc := cX0_init) (maxL := 4) (ret := none) (by decide) rfl ?_
  intro p e s m args below meth c s₁ B hml hv
  obtain ⟨rfl, hsz, hP, hK, hD0⟩ := hv
  subst hsz
  have hD := hD0.self (sz := s.heap.size)
  generalize hAe : va_A [(x, .inr (0, [.int 0, .int 0, .null, .null, .null, .null, .null, .null, .int (nI 0), .null, .int (nI 0), .long 0]))] s.heap.size = A at hD ⊢
  have hA : ∀ q : Nat, s.heap.size ≤ q → A q := fun q h => by rw [← hAe]; exact Or.inr h
  have hS : va_S A s.heap s.heap [] := va_S.rf
  have hx := B.exec
  have hb := B.bytes
  have hr := B.returns
  have hts := atoms_spec (ws := wsX0_init) B.pre
  have hown : s.vm.findClass RX0 = some m.cls := findClass_of_methodNamed B.named
  have hlocks := B.notSynchronized
  have hall := fun (w : Cond) (h : w ∈ allw) => hts w (List.mem_cons_of_mem _ h)
  have hl := lv_entry ([.ref x, .int i, .int j]) (n := 4) (Nat.le_of_ble_eq_true rfl)
  rw [lg_entry_eq]
  generalize (lg_sl ([.ref x, .int i, .int j]) ++ List.replicate (4 - (lg_sl ([.ref x, .int i, .int j])).length) Slot.unset).toArray = ls at hl ⊢
  have hl : lv_has ls 4 [(0, .ref x), (1, .int i), (2, .int j)] := hl
  have hin9 : meth.name = "<init>" := (name_of_methodNamed B.named B.method).1
  have hnD : 1 ≤ nD ∧ nD ≤ 512 := hi.elim (fun q => q.2.2.2) (fun q => by omega)
  have hnR : 1 ≤ nR ∧ nR ≤ 8192 := hj.elim (fun q => q.2.2.2) (fun q => by omega)
  refine lv_aload_n hx hb dX0_init_0 rfl (lv_at hl 0 rfl) ?_
  refine W.objInit hx hb hown (hall _ kw_17) (hall _ kw_18) (hall _ kw_19) rfl (by rw [hml]; exact hl.1) rfl dX0_init_1 (Nat.le_of_ble_eq_true rfl) (Nat.le_of_ble_eq_true rfl) ?_
  refine W.eq (g2 := F0 m 4 ls []) rfl ?_
  have h46 : ∀ (H : Heap) (locs : List Loc), va_P (dC, dI) vwCl [(x, .inr (0, [.int (nI nD), .int 0, .null, .null, .null, .null, .null, .null, .int (nI 0), .null, .int (nI 0), .long 0]))] H → va_D A [(x, .inr (0, [.int (nI nD), .int 0, .null, .null, .null, .null, .null, .null, .int (nI 0), .null, .int (nI 0), .long 0]))] → va_S A s.heap H locs → W p l e (headSpec wsX0_init ({ frames := 1, cells := 7, slots := nD + (nD + 1) + nD + pl + pl + 16 + 16, locals := 60 })).room s m (([.ref x, .int i, .int j] : List Value).toArray) below meth c H locs 0 0 (MQ below (va_Qv (fun _ : Unit => True) (fun _ t9 => ∃ (a1 a2 a3 a4 a5 a6 a7 : Nat) (cI cJ : ClassId), va_P (dC, dI) vwCl (wr x a1 a2 a3 a4 a5 a6 a7 cI cJ nD nR (fun _ => 0) (fun _ => 0) pl (fun _ => 0) (fun _ => 0) (fun _ => 0) (fun _ => 0) 0 (fun _ => nI 0) 0 0) t9.heap ∧ va_K (dC, dI) vwCl [(cI, .int), (cJ, .long)] t9 ∧ va_D A (wr x a1 a2 a3 a4 a5 a6 a7 cI cJ nD nR (fun _ => 0) (fun _ => 0) pl (fun _ => 0) (fun _ => 0) (fun _ => 0) (fun _ => 0) 0 (fun _ => nI 0) 0 0)) A) (([.ref x, .int i, .int j] : List Value).toArray) s 7 (nD + (nD + 1) + nD + pl + pl + 16 + 16) A) (F0 m 46 ls [.int (nI nR), .ref x]) := by
    intro H locs hP hD hS
    refine va_putF (D := (dC, dI)) (ci := 0) (v := .int (nI nR)) (ty := .int) (C := RX0) (T := TX0) (N := 12) hx hb hall inX0 tyX0 tyX0_ok nmX0 hown hK hP hD hS 0 rfl rfl 1 (by decide) (hall _ kw_24) (fun _ h9 => h9) rfl hin9 rfl (by decide +kernel) rfl rfl (Nat.le_of_ble_eq_true rfl) dX0_init_46 (fun H locs hP hD hS => ?_)
    have hP : va_P (dC, dI) vwCl [(x, .inr (0, [.int (nI nD), .int (nI nR), .null, .null, .null, .null, .null, .null, .int (nI 0), .null, .int (nI 0), .long 0]))] H := hP
    have hD : va_D A [(x, .inr (0, [.int (nI nD), .int (nI nR), .null, .null, .null, .null, .null, .null, .int (nI 0), .null, .int (nI 0), .long 0]))] := hD
    refine lv_aload_n hx hb dX0_init_49 rfl (lv_at hl 0 rfl) ?_
    refine lv_aload_n hx hb dX0_init_50 rfl (lv_at hl 0 rfl) ?_
    refine va_get (D := (dC, dI)) (ci := 0) (v := .int (nI nD)) (C := RX0) (T := TX0) (N := 12) hx hb hall inX0 hown hK hP 0 rfl rfl 0 (by decide) (hall _ kw_23) (fun _ h9 => h9) rfl dX0_init_51 ?_
    refine xa_newl (N := nD) hx hb (hall _ kw_60) hK hP hD hS hA (by omega) (by show _ ≤ 7; omega) (by show _ ≤ nD + (nD + 1) + nD + pl + pl + 16 + 16; omega) dX0_init_54 (fun a1 cJ H hK hP hD hS => ?_)
    have hP : va_P (dC, dI) vwCl [(x, .inr (0, [.int (nI nD), .int (nI nR), .null, .null, .null, .null, .null, .null, .int (nI 0), .null, .int (nI 0), .long 0])), (a1, .inl (cJ, nD, .inr (.inl (fun _ => 0))))] H := hP
    have hD : va_D A [(x, .inr (0, [.int (nI nD), .int (nI nR), .null, .null, .null, .null, .null, .null, .int (nI 0), .null, .int (nI 0), .long 0])), (a1, .inl (cJ, nD, .inr (.inl (fun _ => 0))))] := hD
    refine va_putF (D := (dC, dI)) (ci := 0) (v := .ref a1) (ty := (.array .long)) (C := RX0) (T := TX0) (N := 12) hx hb hall inX0 tyX0 tyX0_ok nmX0 hown hK hP hD hS 0 rfl rfl 2 (by decide) (hall _ kw_25) (fun _ h9 => h9) rfl hin9 rfl (by decide +kernel) rfl rfl (Nat.le_of_ble_eq_true rfl) dX0_init_56 (fun H locs hP hD hS => ?_)
    have hP : va_P (dC, dI) vwCl [(x, .inr (0, [.int (nI nD), .int (nI nR), .ref a1, .null, .null, .null, .null, .null, .int (nI 0), .null, .int (nI 0), .long 0])), (a1, .inl (cJ, nD, .inr (.inl (fun _ => 0))))] H := hP
    have hD : va_D A [(x, .inr (0, [.int (nI nD), .int (nI nR), .ref a1, .null, .null, .null, .null, .null, .int (nI 0), .null, .int (nI 0), .long 0])), (a1, .inl (cJ, nD, .inr (.inl (fun _ => 0))))] := hD
    refine lv_aload_n hx hb dX0_init_59 rfl (lv_at hl 0 rfl) ?_
    refine lv_aload_n hx hb dX0_init_60 rfl (lv_at hl 0 rfl) ?_
    refine va_get (D := (dC, dI)) (ci := 0) (v := .int (nI nD)) (C := RX0) (T := TX0) (N := 12) hx hb hall inX0 hown hK hP 0 rfl rfl 0 (by decide) (hall _ kw_23) (fun _ h9 => h9) rfl dX0_init_61 ?_
    refine lv_iconst (v := 1) hx hb dX0_init_64 (by decide) ?_
    refine lv_iadd hx hb dX0_init_65 ?_
    refine tp_i (y := nI (nD + 1)) (nI_1 nD) ?_
    refine xa_newi (N := (nD + 1)) hx hb (hall _ kw_61) hK hP hD hS hA (by omega) (by show _ ≤ 7; omega) (by show _ ≤ nD + (nD + 1) + nD + pl + pl + 16 + 16; omega) dX0_init_66 (fun a2 cI H hK hP hD hS => ?_)
    have hP : va_P (dC, dI) vwCl [(x, .inr (0, [.int (nI nD), .int (nI nR), .ref a1, .null, .null, .null, .null, .null, .int (nI 0), .null, .int (nI 0), .long 0])), (a1, .inl (cJ, nD, .inr (.inl (fun _ => 0)))), (a2, .inl (cI, (nD + 1), .inl (fun _ => 0)))] H := hP
    have hD : va_D A [(x, .inr (0, [.int (nI nD), .int (nI nR), .ref a1, .null, .null, .null, .null, .null, .int (nI 0), .null, .int (nI 0), .long 0])), (a1, .inl (cJ, nD, .inr (.inl (fun _ => 0)))), (a2, .inl (cI, (nD + 1), .inl (fun _ => 0)))] := hD
    refine va_putF (D := (dC, dI)) (ci := 0) (v := .ref a2) (ty := (.array .int)) (C := RX0) (T := TX0) (N := 12) hx hb hall inX0 tyX0 tyX0_ok nmX0 hown hK hP hD hS 0 rfl rfl 3 (by decide) (hall _ kw_26) (fun _ h9 => h9) rfl hin9 rfl (by decide +kernel) rfl rfl (Nat.le_of_ble_eq_true rfl) dX0_init_68 (fun H locs hP hD hS => ?_)
    have hP : va_P (dC, dI) vwCl [(x, .inr (0, [.int (nI nD), .int (nI nR), .ref a1, .ref a2, .null, .null, .null, .null, .int (nI 0), .null, .int (nI 0), .long 0])), (a1, .inl (cJ, nD, .inr (.inl (fun _ => 0)))), (a2, .inl (cI, (nD + 1), .inl (fun _ => 0)))] H := hP
    have hD : va_D A [(x, .inr (0, [.int (nI nD), .int (nI nR), .ref a1, .ref a2, .null, .null, .null, .null, .int (nI 0), .null, .int (nI 0), .long 0])), (a1, .inl (cJ, nD, .inr (.inl (fun _ => 0)))), (a2, .inl (cI, (nD + 1), .inl (fun _ => 0)))] := hD
    refine lv_aload_n hx hb dX0_init_71 rfl (lv_at hl 0 rfl) ?_
    refine lv_aload_n hx hb dX0_init_72 rfl (lv_at hl 0 rfl) ?_
    refine va_get (D := (dC, dI)) (ci := 0) (v := .int (nI nD)) (C := RX0) (T := TX0) (N := 12) hx hb hall inX0 hown hK hP 0 rfl rfl 0 (by decide) (hall _ kw_23) (fun _ h9 => h9) rfl dX0_init_73 ?_
    refine xa_newi (N := nD) hx hb (hall _ kw_61) hK hP hD hS hA (by omega) (by show _ ≤ 7; omega) (by show _ ≤ nD + (nD + 1) + nD + pl + pl + 16 + 16; omega) dX0_init_76 (fun a7 cA H hK hP hD hS => ?_)
    obtain rfl : cI = cA := xk_sameI hK (t1 := 1) (t2 := 2) rfl rfl
    have hK := hK.sub (tys' := [(cJ, .long), (cI, .int)]) [0, 1] rfl
    have hP : va_P (dC, dI) vwCl [(x, .inr (0, [.int (nI nD), .int (nI nR), .ref a1, .ref a2, .null, .null, .null, .null, .int (nI 0), .null, .int (nI 0), .long 0])), (a1, .inl (cJ, nD, .inr (.inl (fun _ => 0)))), (a2, .inl (cI, (nD + 1), .inl (fun _ => 0))), (a7, .inl (cI, nD, .inl (fun _ => 0)))] H := hP
    have hD : va_D A [(x, .inr (0, [.int (nI nD), .int (nI nR), .ref a1, .ref a2, .null, .null, .null, .null, .int (nI 0), .null, .int (nI 0), .long 0])), (a1, .inl (cJ, nD, .inr (.inl (fun _ => 0)))), (a2, .inl (cI, (nD + 1), .inl (fun _ => 0))), (a7, .inl (cI, nD, .inl (fun _ => 0)))] := hD
    refine va_putF (D := (dC, dI)) (ci := 0) (v := .ref a7) (ty := (.array .int)) (C := RX0) (T := TX0) (N := 12) hx hb hall inX0 tyX0 tyX0_ok nmX0 hown hK hP hD hS 0 rfl rfl 9 (by decide) (hall _ kw_32) (fun _ h9 => h9) rfl hin9 rfl (by decide +kernel) rfl rfl (Nat.le_of_ble_eq_true rfl) dX0_init_78 (fun H locs hP hD hS => ?_)
    have hP : va_P (dC, dI) vwCl [(x, .inr (0, [.int (nI nD), .int (nI nR), .ref a1, .ref a2, .null, .null, .null, .null, .int (nI 0), .ref a7, .int (nI 0), .long 0])), (a1, .inl (cJ, nD, .inr (.inl (fun _ => 0)))), (a2, .inl (cI, (nD + 1), .inl (fun _ => 0))), (a7, .inl (cI, nD, .inl (fun _ => 0)))] H := hP
    have hD : va_D A [(x, .inr (0, [.int (nI nD), .int (nI nR), .ref a1, .ref a2, .null, .null, .null, .null, .int (nI 0), .ref a7, .int (nI 0), .long 0])), (a1, .inl (cJ, nD, .inr (.inl (fun _ => 0)))), (a2, .inl (cI, (nD + 1), .inl (fun _ => 0))), (a7, .inl (cI, nD, .inl (fun _ => 0)))] := hD
    refine lv_aload_n hx hb dX0_init_81 rfl (lv_at hl 0 rfl) ?_
    refine va_get (D := (dC, dI)) (ci := 0) (v := .int (nI nR)) (C := RX0) (T := TX0) (N := 12) hx hb hall inX0 hown hK hP 0 rfl rfl 1 (by decide) (hall _ kw_24) (fun _ h9 => h9) rfl dX0_init_82 ?_
    refine lv_bipush (v := 64) hx hb dX0_init_85 (by decide) ?_
    refine tp_i (y := nI 64) (by decide) ?_
    refine va_mmin hx hb (hml.trans hl.1.symm) hown (hall _ kw_20) (hall _ kw_21) (hall _ kw_2) (hall _ kw_22) (Nat.le_of_ble_eq_true rfl) (Nat.le_of_ble_eq_true rfl) (by show _ ≤ 7; omega) (by show _ ≤ nD + (nD + 1) + nD + pl + pl + 16 + 16; omega) dX0_init_87 ?_
    refine tp_i (y := nI pl) ((xm_min (by omega) (by omega)).trans (by rw [hpl])) ?_
    refine lv_istore_n (lv' := [(3, .int (nI pl)), (0, .ref x), (1, .int i), (2, .int j)]) hx hb dX0_init_90 rfl hl (by decide) rfl (fun ls hl => ?_)
    refine lv_aload_n hx hb dX0_init_91 rfl (lv_at hl 1 rfl) ?_
    refine lv_iload_n hx hb dX0_init_92 rfl (lv_at hl 0 rfl) ?_
    refine xa_newl (N := pl) hx hb (hall _ kw_60) hK hP hD hS hA (by omega) (by show _ ≤ 7; omega) (by show _ ≤ nD + (nD + 1) + nD + pl + pl + 16 + 16; omega) dX0_init_93 (fun a3 cA H hK hP hD hS => ?_)
    obtain rfl : cJ = cA := xk_sameL hK (t1 := 0) (t2 := 2) rfl rfl
    have hK := hK.sub (tys' := [(cJ, .long), (cI, .int)]) [0, 1] rfl
    have hP : va_P (dC, dI) vwCl [(x, .inr (0, [.int (nI nD), .int (nI nR), .ref a1, .ref a2, .null, .null, .null, .null, .int (nI 0), .ref a7, .int (nI 0), .long 0])), (a1, .inl (cJ, nD, .inr (.inl (fun _ => 0)))), (a2, .inl (cI, (nD + 1), .inl (fun _ => 0))), (a7, .inl (cI, nD, .inl (fun _ => 0))), (a3, .inl (cJ, pl, .inr (.inl (fun _ => 0))))] H := hP
    have hD : va_D A [(x, .inr (0, [.int (nI nD), .int (nI nR), .ref a1, .ref a2, .null, .null, .null, .null, .int (nI 0), .ref a7, .int (nI 0), .long 0])), (a1, .inl (cJ, nD, .inr (.inl (fun _ => 0)))), (a2, .inl (cI, (nD + 1), .inl (fun _ => 0))), (a7, .inl (cI, nD, .inl (fun _ => 0))), (a3, .inl (cJ, pl, .inr (.inl (fun _ => 0))))] := hD
    refine va_put (D := (dC, dI)) (ci := 0) (v := .ref a3) (ty := (.array .long)) (C := RX0) (T := TX0) (N := 12) hx hb hall inX0 tyX0 tyX0_ok nmX0 hown hK hP hD hS 0 rfl rfl 4 (by decide) (hall _ kw_27) (fun _ h9 => h9) rfl (by decide +kernel) rfl rfl (Nat.le_of_ble_eq_true rfl) dX0_init_95 (fun H locs hP hD hS => ?_)
    have hP : va_P (dC, dI) vwCl [(x, .inr (0, [.int (nI nD), .int (nI nR), .ref a1, .ref a2, .ref a3, .null, .null, .null, .int (nI 0), .ref a7, .int (nI 0), .long 0])), (a1, .inl (cJ, nD, .inr (.inl (fun _ => 0)))), (a2, .inl (cI, (nD + 1), .inl (fun _ => 0))), (a7, .inl (cI, nD, .inl (fun _ => 0))), (a3, .inl (cJ, pl, .inr (.inl (fun _ => 0))))] H := hP
    have hD : va_D A [(x, .inr (0, [.int (nI nD), .int (nI nR), .ref a1, .ref a2, .ref a3, .null, .null, .null, .int (nI 0), .ref a7, .int (nI 0), .long 0])), (a1, .inl (cJ, nD, .inr (.inl (fun _ => 0)))), (a2, .inl (cI, (nD + 1), .inl (fun _ => 0))), (a7, .inl (cI, nD, .inl (fun _ => 0))), (a3, .inl (cJ, pl, .inr (.inl (fun _ => 0))))] := hD
    refine lv_aload_n hx hb dX0_init_98 rfl (lv_at hl 1 rfl) ?_
    refine lv_iload_n hx hb dX0_init_99 rfl (lv_at hl 0 rfl) ?_
    refine xa_newl (N := pl) hx hb (hall _ kw_60) hK hP hD hS hA (by omega) (by show _ ≤ 7; omega) (by show _ ≤ nD + (nD + 1) + nD + pl + pl + 16 + 16; omega) dX0_init_100 (fun a4 cA H hK hP hD hS => ?_)
    obtain rfl : cJ = cA := xk_sameL hK (t1 := 0) (t2 := 2) rfl rfl
    have hK := hK.sub (tys' := [(cJ, .long), (cI, .int)]) [0, 1] rfl
    have hP : va_P (dC, dI) vwCl [(x, .inr (0, [.int (nI nD), .int (nI nR), .ref a1, .ref a2, .ref a3, .null, .null, .null, .int (nI 0), .ref a7, .int (nI 0), .long 0])), (a1, .inl (cJ, nD, .inr (.inl (fun _ => 0)))), (a2, .inl (cI, (nD + 1), .inl (fun _ => 0))), (a7, .inl (cI, nD, .inl (fun _ => 0))), (a3, .inl (cJ, pl, .inr (.inl (fun _ => 0)))), (a4, .inl (cJ, pl, .inr (.inl (fun _ => 0))))] H := hP
    have hD : va_D A [(x, .inr (0, [.int (nI nD), .int (nI nR), .ref a1, .ref a2, .ref a3, .null, .null, .null, .int (nI 0), .ref a7, .int (nI 0), .long 0])), (a1, .inl (cJ, nD, .inr (.inl (fun _ => 0)))), (a2, .inl (cI, (nD + 1), .inl (fun _ => 0))), (a7, .inl (cI, nD, .inl (fun _ => 0))), (a3, .inl (cJ, pl, .inr (.inl (fun _ => 0)))), (a4, .inl (cJ, pl, .inr (.inl (fun _ => 0))))] := hD
    refine va_put (D := (dC, dI)) (ci := 0) (v := .ref a4) (ty := (.array .long)) (C := RX0) (T := TX0) (N := 12) hx hb hall inX0 tyX0 tyX0_ok nmX0 hown hK hP hD hS 0 rfl rfl 5 (by decide) (hall _ kw_28) (fun _ h9 => h9) rfl (by decide +kernel) rfl rfl (Nat.le_of_ble_eq_true rfl) dX0_init_102 (fun H locs hP hD hS => ?_)
    have hP : va_P (dC, dI) vwCl [(x, .inr (0, [.int (nI nD), .int (nI nR), .ref a1, .ref a2, .ref a3, .ref a4, .null, .null, .int (nI 0), .ref a7, .int (nI 0), .long 0])), (a1, .inl (cJ, nD, .inr (.inl (fun _ => 0)))), (a2, .inl (cI, (nD + 1), .inl (fun _ => 0))), (a7, .inl (cI, nD, .inl (fun _ => 0))), (a3, .inl (cJ, pl, .inr (.inl (fun _ => 0)))), (a4, .inl (cJ, pl, .inr (.inl (fun _ => 0))))] H := hP
    have hD : va_D A [(x, .inr (0, [.int (nI nD), .int (nI nR), .ref a1, .ref a2, .ref a3, .ref a4, .null, .null, .int (nI 0), .ref a7, .int (nI 0), .long 0])), (a1, .inl (cJ, nD, .inr (.inl (fun _ => 0)))), (a2, .inl (cI, (nD + 1), .inl (fun _ => 0))), (a7, .inl (cI, nD, .inl (fun _ => 0))), (a3, .inl (cJ, pl, .inr (.inl (fun _ => 0)))), (a4, .inl (cJ, pl, .inr (.inl (fun _ => 0))))] := hD
    refine lv_aload_n hx hb dX0_init_105 rfl (lv_at hl 1 rfl) ?_
    refine lv_bipush (v := 16) hx hb dX0_init_106 (by decide) ?_
    refine tp_i (y := nI 16) (by decide) ?_
    refine xa_newl (N := 16) hx hb (hall _ kw_60) hK hP hD hS hA (by omega) (by show _ ≤ 7; omega) (by show _ ≤ nD + (nD + 1) + nD + pl + pl + 16 + 16; omega) dX0_init_108 (fun a5 cA H hK hP hD hS => ?_)
    obtain rfl : cJ = cA := xk_sameL hK (t1 := 0) (t2 := 2) rfl rfl
    have hK := hK.sub (tys' := [(cJ, .long), (cI, .int)]) [0, 1] rfl
    have hP : va_P (dC, dI) vwCl [(x, .inr (0, [.int (nI nD), .int (nI nR), .ref a1, .ref a2, .ref a3, .ref a4, .null, .null, .int (nI 0), .ref a7, .int (nI 0), .long 0])), (a1, .inl (cJ, nD, .inr (.inl (fun _ => 0)))), (a2, .inl (cI, (nD + 1), .inl (fun _ => 0))), (a7, .inl (cI, nD, .inl (fun _ => 0))), (a3, .inl (cJ, pl, .inr (.inl (fun _ => 0)))), (a4, .inl (cJ, pl, .inr (.inl (fun _ => 0)))), (a5, .inl (cJ, 16, .inr (.inl (fun _ => 0))))] H := hP
    have hD : va_D A [(x, .inr (0, [.int (nI nD), .int (nI nR), .ref a1, .ref a2, .ref a3, .ref a4, .null, .null, .int (nI 0), .ref a7, .int (nI 0), .long 0])), (a1, .inl (cJ, nD, .inr (.inl (fun _ => 0)))), (a2, .inl (cI, (nD + 1), .inl (fun _ => 0))), (a7, .inl (cI, nD, .inl (fun _ => 0))), (a3, .inl (cJ, pl, .inr (.inl (fun _ => 0)))), (a4, .inl (cJ, pl, .inr (.inl (fun _ => 0)))), (a5, .inl (cJ, 16, .inr (.inl (fun _ => 0))))] := hD
    refine va_putF (D := (dC, dI)) (ci := 0) (v := .ref a5) (ty := (.array .long)) (C := RX0) (T := TX0) (N := 12) hx hb hall inX0 tyX0 tyX0_ok nmX0 hown hK hP hD hS 0 rfl rfl 6 (by decide) (hall _ kw_29) (fun _ h9 => h9) rfl hin9 rfl (by decide +kernel) rfl rfl (Nat.le_of_ble_eq_true rfl) dX0_init_110 (fun H locs hP hD hS => ?_)
    have hP : va_P (dC, dI) vwCl [(x, .inr (0, [.int (nI nD), .int (nI nR), .ref a1, .ref a2, .ref a3, .ref a4, .ref a5, .null, .int (nI 0), .ref a7, .int (nI 0), .long 0])), (a1, .inl (cJ, nD, .inr (.inl (fun _ => 0)))), (a2, .inl (cI, (nD + 1), .inl (fun _ => 0))), (a7, .inl (cI, nD, .inl (fun _ => 0))), (a3, .inl (cJ, pl, .inr (.inl (fun _ => 0)))), (a4, .inl (cJ, pl, .inr (.inl (fun _ => 0)))), (a5, .inl (cJ, 16, .inr (.inl (fun _ => 0))))] H := hP
    have hD : va_D A [(x, .inr (0, [.int (nI nD), .int (nI nR), .ref a1, .ref a2, .ref a3, .ref a4, .ref a5, .null, .int (nI 0), .ref a7, .int (nI 0), .long 0])), (a1, .inl (cJ, nD, .inr (.inl (fun _ => 0)))), (a2, .inl (cI, (nD + 1), .inl (fun _ => 0))), (a7, .inl (cI, nD, .inl (fun _ => 0))), (a3, .inl (cJ, pl, .inr (.inl (fun _ => 0)))), (a4, .inl (cJ, pl, .inr (.inl (fun _ => 0)))), (a5, .inl (cJ, 16, .inr (.inl (fun _ => 0))))] := hD
    refine lv_aload_n hx hb dX0_init_113 rfl (lv_at hl 1 rfl) ?_
    refine lv_bipush (v := 16) hx hb dX0_init_114 (by decide) ?_
    refine tp_i (y := nI 16) (by decide) ?_
    refine xa_newl (N := 16) hx hb (hall _ kw_60) hK hP hD hS hA (by omega) (by show _ ≤ 7; omega) (by show _ ≤ nD + (nD + 1) + nD + pl + pl + 16 + 16; omega) dX0_init_116 (fun a6 cA H hK hP hD hS => ?_)
    obtain rfl : cJ = cA := xk_sameL hK (t1 := 0) (t2 := 2) rfl rfl
    have hK := hK.sub (tys' := [(cJ, .long), (cI, .int)]) [0, 1] rfl
    have hP : va_P (dC, dI) vwCl [(x, .inr (0, [.int (nI nD), .int (nI nR), .ref a1, .ref a2, .ref a3, .ref a4, .ref a5, .null, .int (nI 0), .ref a7, .int (nI 0), .long 0])), (a1, .inl (cJ, nD, .inr (.inl (fun _ => 0)))), (a2, .inl (cI, (nD + 1), .inl (fun _ => 0))), (a7, .inl (cI, nD, .inl (fun _ => 0))), (a3, .inl (cJ, pl, .inr (.inl (fun _ => 0)))), (a4, .inl (cJ, pl, .inr (.inl (fun _ => 0)))), (a5, .inl (cJ, 16, .inr (.inl (fun _ => 0)))), (a6, .inl (cJ, 16, .inr (.inl (fun _ => 0))))] H := hP
    have hD : va_D A [(x, .inr (0, [.int (nI nD), .int (nI nR), .ref a1, .ref a2, .ref a3, .ref a4, .ref a5, .null, .int (nI 0), .ref a7, .int (nI 0), .long 0])), (a1, .inl (cJ, nD, .inr (.inl (fun _ => 0)))), (a2, .inl (cI, (nD + 1), .inl (fun _ => 0))), (a7, .inl (cI, nD, .inl (fun _ => 0))), (a3, .inl (cJ, pl, .inr (.inl (fun _ => 0)))), (a4, .inl (cJ, pl, .inr (.inl (fun _ => 0)))), (a5, .inl (cJ, 16, .inr (.inl (fun _ => 0)))), (a6, .inl (cJ, 16, .inr (.inl (fun _ => 0))))] := hD
    refine va_putF (D := (dC, dI)) (ci := 0) (v := .ref a6) (ty := (.array .long)) (C := RX0) (T := TX0) (N := 12) hx hb hall inX0 tyX0 tyX0_ok nmX0 hown hK hP hD hS 0 rfl rfl 7 (by decide) (hall _ kw_30) (fun _ h9 => h9) rfl hin9 rfl (by decide +kernel) rfl rfl (Nat.le_of_ble_eq_true rfl) dX0_init_118 (fun H locs hP hD hS => ?_)
    have hP : va_P (dC, dI) vwCl [(x, .inr (0, [.int (nI nD), .int (nI nR), .ref a1, .ref a2, .ref a3, .ref a4, .ref a5, .ref a6, .int (nI 0), .ref a7, .int (nI 0), .long 0])), (a1, .inl (cJ, nD, .inr (.inl (fun _ => 0)))), (a2, .inl (cI, (nD + 1), .inl (fun _ => 0))), (a7, .inl (cI, nD, .inl (fun _ => 0))), (a3, .inl (cJ, pl, .inr (.inl (fun _ => 0)))), (a4, .inl (cJ, pl, .inr (.inl (fun _ => 0)))), (a5, .inl (cJ, 16, .inr (.inl (fun _ => 0)))), (a6, .inl (cJ, 16, .inr (.inl (fun _ => 0))))] H := hP
    have hD : va_D A [(x, .inr (0, [.int (nI nD), .int (nI nR), .ref a1, .ref a2, .ref a3, .ref a4, .ref a5, .ref a6, .int (nI 0), .ref a7, .int (nI 0), .long 0])), (a1, .inl (cJ, nD, .inr (.inl (fun _ => 0)))), (a2, .inl (cI, (nD + 1), .inl (fun _ => 0))), (a7, .inl (cI, nD, .inl (fun _ => 0))), (a3, .inl (cJ, pl, .inr (.inl (fun _ => 0)))), (a4, .inl (cJ, pl, .inr (.inl (fun _ => 0)))), (a5, .inl (cJ, 16, .inr (.inl (fun _ => 0)))), (a6, .inl (cJ, 16, .inr (.inl (fun _ => 0))))] := hD
    have hP := hP.sub (ws' := [(x, .inr (0, [.int (nI nD), .int (nI nR), .ref a1, .ref a2, .ref a3, .ref a4, .ref a5, .ref a6, .int (nI 0), .ref a7, .int (nI 0), .long 0])), (a1, .inl (cJ, nD, .inr (.inl (fun _ => 0)))), (a2, .inl (cI, (nD + 1), .inl (fun _ => 0))), (a3, .inl (cJ, pl, .inr (.inl (fun _ => 0)))), (a4, .inl (cJ, pl, .inr (.inl (fun _ => 0)))), (a5, .inl (cJ, 16, .inr (.inl (fun _ => 0)))), (a6, .inl (cJ, 16, .inr (.inl (fun _ => 0)))), (a7, .inl (cI, nD, .inl (fun _ => 0)))]) [0, 1, 2, 4, 5, 6, 7, 3] rfl
    have hD := hD.sub (ws' := [(x, .inr (0, [.int (nI nD), .int (nI nR), .ref a1, .ref a2, .ref a3, .ref a4, .ref a5, .ref a6, .int (nI 0), .ref a7, .int (nI 0), .long 0])), (a1, .inl (cJ, nD, .inr (.inl (fun _ => 0)))), (a2, .inl (cI, (nD + 1), .inl (fun _ => 0))), (a3, .inl (cJ, pl, .inr (.inl (fun _ => 0)))), (a4, .inl (cJ, pl, .inr (.inl (fun _ => 0)))), (a5, .inl (cJ, 16, .inr (.inl (fun _ => 0)))), (a6, .inl (cJ, 16, .inr (.inl (fun _ => 0)))), (a7, .inl (cI, nD, .inl (fun _ => 0)))]) [0, 1, 2, 4, 5, 6, 7, 3] (by decide) rfl
    have hP : va_P (dC, dI) vwCl (wr x a1 a2 a3 a4 a5 a6 a7 cI cJ nD nR (fun _ => 0) (fun _ => 0) pl (fun _ => 0) (fun _ => 0) (fun _ => 0) (fun _ => 0) 0 (fun _ => nI 0) 0 0) H := hP
    have hD : va_D A (wr x a1 a2 a3 a4 a5 a6 a7 cI cJ nD nR (fun _ => 0) (fun _ => 0) pl (fun _ => 0) (fun _ => 0) (fun _ => 0) (fun _ => 0) 0 (fun _ => nI 0) 0 0) := hD
    have hK := hK.sub (tys' := [(cI, .int), (cJ, .long)]) [1, 0] rfl
    refine W.widen (k := 7) (n := nD + (nD + 1) + nD + pl + pl + 16 + 16) (by omega) (by omega) ?_
    exact W.vret hx hb hr (fun t9 ht hW => ⟨⟨(), rfl, trivial, a1, a2, a3, a4, a5, a6, a7, cI, cJ, by rw [ht]; exact hP, va_K.moved hW.alike hK, hD⟩, hS.F ht⟩) hS.2.2 dX0_init_121
  have h23 : W p l e (headSpec wsX0_init ({ frames := 1, cells := 7, slots := nD + (nD + 1) + nD + pl + pl + 16 + 16, locals := 60 })).room s m (([.ref x, .int i, .int j] : List Value).toArray) below meth c s.heap [] 0 0 (MQ below (va_Qv (fun _ : Unit => True) (fun _ t9 => ∃ (a1 a2 a3 a4 a5 a6 a7 : Nat) (cI cJ : ClassId), va_P (dC, dI) vwCl (wr x a1 a2 a3 a4 a5 a6 a7 cI cJ nD nR (fun _ => 0) (fun _ => 0) pl (fun _ => 0) (fun _ => 0) (fun _ => 0) (fun _ => 0) 0 (fun _ => nI 0) 0 0) t9.heap ∧ va_K (dC, dI) vwCl [(cI, .int), (cJ, .long)] t9 ∧ va_D A (wr x a1 a2 a3 a4 a5 a6 a7 cI cJ nD nR (fun _ => 0) (fun _ => 0) pl (fun _ => 0) (fun _ => 0) (fun _ => 0) (fun _ => 0) 0 (fun _ => nI 0) 0 0)) A) (([.ref x, .int i, .int j] : List Value).toArray) s 7 (nD + (nD + 1) + nD + pl + pl + 16 + 16) A) (F0 m 23 ls [.int (nI nD), .ref x]) := by
    refine va_putF (D := (dC, dI)) (ci := 0) (v := .int (nI nD)) (ty := .int) (C := RX0) (T := TX0) (N := 12) hx hb hall inX0 tyX0 tyX0_ok nmX0 hown hK hP hD hS 0 rfl rfl 0 (by decide) (hall _ kw_23) (fun _ h9 => h9) rfl hin9 rfl (by decide +kernel) rfl rfl (Nat.le_of_ble_eq_true rfl) dX0_init_23 (fun H locs hP hD hS => ?_)
    have hP : va_P (dC, dI) vwCl [(x, .inr (0, [.int (nI nD), .int 0, .null, .null, .null, .null, .null, .null, .int (nI 0), .null, .int (nI 0), .long 0]))] H := hP
    have hD : va_D A [(x, .inr (0, [.int (nI nD), .int 0, .null, .null, .null, .null, .null, .null, .int (nI 0), .null, .int (nI 0), .long 0]))] := hD
    refine lv_aload_n hx hb dX0_init_26 rfl (lv_at hl 0 rfl) ?_
    refine lv_iload_n hx hb dX0_init_27 rfl (lv_at hl 2 rfl) ?_
    refine lv_iconst (v := 1) hx hb dX0_init_28 (by decide) ?_
    refine lv_icmp_lt (tgt := 43) hx hb dX0_init_29 (by decide) (fun c_1 => ?_) (fun c_1 => ?_)
    · have c_C := c_1
      refine lv_sipush (v := 1024) hx hb dX0_init_43 (by decide) ?_
      refine tp_i (y := nI nR) (hj.elim (fun q => by first | exact absurd c_C q.1 | exact absurd c_D q.2.1) (fun q => by rw [q.2]; decide)) ?_
      exact h46 H locs hP hD hS
    · have c_C := c_1
      refine lv_iload_n hx hb dX0_init_32 rfl (lv_at hl 2 rfl) ?_
      refine lv_sipush (v := 8192) hx hb dX0_init_33 (by decide) ?_
      refine lv_icmp_gt (tgt := 43) hx hb dX0_init_36 (by decide) (fun c_2 => ?_) (fun c_2 => ?_)
      · have c_D := c_2
        refine lv_sipush (v := 1024) hx hb dX0_init_43 (by decide) ?_
        refine tp_i (y := nI nR) (hj.elim (fun q => by first | exact absurd c_C q.1 | exact absurd c_D q.2.1) (fun q => by rw [q.2]; decide)) ?_
        exact h46 H locs hP hD hS
      · have c_D := c_2
        refine lv_iload_n hx hb dX0_init_39 rfl (lv_at hl 2 rfl) ?_
        refine lv_goto (tgt := 46) hx hb dX0_init_40 (by decide) ?_
        refine tp_i (y := nI nR) (hj.elim (fun q => q.2.2.1) (fun q => absurd q.1 (fun q => q.elim c_C c_D))) ?_
        exact h46 H locs hP hD hS
  refine lv_aload_n hx hb dX0_init_4 rfl (lv_at hl 0 rfl) ?_
  refine lv_iload_n hx hb dX0_init_5 rfl (lv_at hl 1 rfl) ?_
  refine lv_iconst (v := 1) hx hb dX0_init_6 (by decide) ?_
  refine lv_icmp_lt (tgt := 21) hx hb dX0_init_7 (by decide) (fun c_3 => ?_) (fun c_3 => ?_)
  · have c_A := c_3
    refine lv_bipush (v := 64) hx hb dX0_init_21 (by decide) ?_
    refine tp_i (y := nI nD) (hi.elim (fun q => by first | exact absurd c_A q.1 | exact absurd c_B q.2.1) (fun q => by rw [q.2]; decide)) ?_
    exact h23
  · have c_A := c_3
    refine lv_iload_n hx hb dX0_init_10 rfl (lv_at hl 1 rfl) ?_
    refine lv_sipush (v := 512) hx hb dX0_init_11 (by decide) ?_
    refine lv_icmp_gt (tgt := 21) hx hb dX0_init_14 (by decide) (fun c_4 => ?_) (fun c_4 => ?_)
    · have c_B := c_4
      refine lv_bipush (v := 64) hx hb dX0_init_21 (by decide) ?_
      refine tp_i (y := nI nD) (hi.elim (fun q => by first | exact absurd c_A q.1 | exact absurd c_B q.2.1) (fun q => by rw [q.2]; decide)) ?_
      exact h23
    · have c_B := c_4
      refine lv_iload_n hx hb dX0_init_17 rfl (lv_at hl 1 rfl) ?_
      refine lv_goto (tgt := 23) hx hb dX0_init_18 (by decide) ?_
      refine tp_i (y := nI nD) (hi.elim (fun q => q.2.2.1) (fun q => absurd q.1 (fun q => q.elim c_A c_B))) ?_
      exact h23
