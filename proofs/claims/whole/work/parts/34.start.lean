theorem xw_b {i M : Int32} {mx df n : Nat} (h : wf_in i M mx df n) (h1 : 1 ≤ df) (h2 : df ≤ mx) : 1 ≤ n ∧ n ≤ mx := by
  rcases h with ⟨-, -, -, a, b⟩ | ⟨-, a⟩
  · exact ⟨a, b⟩
  · omega
theorem wcn_no : ∀ n d : Nat, wcn (fun _ => false) n d = 0
  | 0, _ => rfl
  | n + 1, d => by
    show (if (false = true) then 1 else 0) + wcn (fun _ => false) n (d + 1) = 0
    rw [wcn_no n (d + 1), if_neg (by decide)]
theorem wrel_0 {nD nR : Nat} (h1 : 1 ≤ nD ∧ nD ≤ 512) (h2 : 1 ≤ nR ∧ nR ≤ 8192) {pl : Nat} (hpl : pl = min nR 64) : wrel nD nR pl 0 0 (fun _ => 0) (fun _ => 0) (fun _ => 0) (fun _ => 0) (fun _ => 0) (fun _ => 0) (fun _ => nI 0) 0 (fun _ => 0) (fun _ => false) [] (fun _ => 0) (fun _ => 0) :=
  ⟨⟨h1.1, h1.2, h2.1, h2.2, by omega, Nat.zero_le _, Nat.zero_le _, rfl, fun _ _ => Nat.le_refl _, Nat.zero_le _, Nat.zero_le _⟩, (fun z hz => nomatch hz), ⟨by decide, by decide +kernel⟩, fun _ _ => rfl, fun j hj => absurd hj (Nat.not_lt_zero j), fun d _ => ⟨rfl, List.Pairwise.nil⟩, (fun z hz => nomatch hz), (wcn_no nD 0).symm, fun d _ h => by cases h⟩
theorem xt_src : ∀ w ∈ xt_all, w ∈ lw_tbl ∨ w ∈ [Cond.isRef (.static Bundle.tN "UNASSIGNED_STACK" Bundle.steD), Cond.isRef (.static Bundle.tN "SUPPRESSED_SENTINEL" Bundle.listD)] := by decide +kernel
theorem xt_start {s : State} {b : Nat} (hts : ∀ w ∈ lw_tbl, w.before #[Value.ref b] s = true) (hgv : (Jvm.Cond.and given_1 narrow_1).before #[Value.ref b] s = true) : xt_ok s ∧ xt_nk s := by
  have hs := flat_of_before _ hgv
  have r1 : (Cond.isRef (.static Bundle.tN "UNASSIGNED_STACK" Bundle.steD)).before #[Value.ref b] s = true := hs _ (by decide +kernel)
  have r2 : (Cond.isRef (.static Bundle.tN "SUPPRESSED_SENTINEL" Bundle.listD)).before #[Value.ref b] s = true := hs _ (by decide +kernel)
  have hi : (Cond.instantiable RX0 12).before #[Value.ref b] s = true := hts _ (List.mem_filter.mp kw_13).1
  obtain ⟨cC, kC, hfc, -⟩ := Cond.instantiable_spec hi
  have str : ∀ (k : Nat) (tx : String), (Cond.stringRef RX0 k tx).before #[Value.ref b] s = true → ∃ a : Nat, vk_R RX0 k tx a s := by
    intro k tx h
    obtain ⟨_, _, _, a, -, -, -, -, -, ha⟩ := Cond.stringRef_spec hfc h
    exact ⟨a, vk_R.of h ha⟩
  refine ⟨⟨xt_mv (args := #[Value.ref b]) (State.WarmedH.refl s) (fun _ _ => rfl) (fun w hw => ?_), fun q hq => ?_⟩, fun q hq => ?_⟩
  · rcases xt_src w hw with h | h
    · exact hts w h
    · simp only [List.mem_cons, List.not_mem_nil, or_false] at h
      rcases h with rfl | rfl
      · exact r1
      · exact r2
  · simp only [xt_strs, List.mem_cons, List.not_mem_nil, or_false] at hq
    rcases hq with rfl | rfl | rfl | rfl | rfl | rfl | rfl | rfl | rfl <;> exact str _ _ (by first | exact hs _ (by decide +kernel) | exact hts _ (by decide +kernel))
  · simp only [xt_ncs, List.mem_cons, List.not_mem_nil, or_false] at hq
    rcases hq with rfl | rfl | rfl | rfl <;> exact va_Nc.of (hs _ (by decide +kernel))
set_option maxHeartbeats 8000000 in
set_option maxRecDepth 100000 in
theorem whole_start {p : Program} {e : Env} {s : State} {m : MethodId} {below : List Frame} {meth : Method} {c : Code} (l : Launch) (hst : l.stackTraces = false) {b L : Nat} {xs : Nat → Int32} (hL : L ≤ 2562) (C0 : lw_At p s m meth c b L xs) : W p l e room_1 s m #[Value.ref b] below meth c s.heap [] 0 0 (lw_Z below #[Value.ref b] s) (entryFrame m ([Value.ref b] : List Value).toArray 8) := by
  obtain ⟨hx, hb, hr, hml, hown, hts, hX, hbl, hlocks, hgv⟩ := id C0
  obtain ⟨hok, hnk⟩ := xt_start hts hgv
  have hA : ∀ z : Nat, s.heap.size ≤ z → (fun z : Nat => s.heap.size ≤ z) z := fun _ h => h
  have hbA : ¬ (fun z : Nat => s.heap.size ≤ z) b := Nat.not_le.mpr hbl
  have hall : ∀ w ∈ allw, w.before #[Value.ref b] s = true := fun w h => hts w (List.mem_filter.mp h).1
  have hown : s.vm.findClass RL = some m.cls := hown
  obtain ⟨c0, iS0, hKn0⟩ := u_known (C := RX0) (T := TX0) (N := 12) (n := 12) hall inX0 (hall _ kw_13)
  obtain ⟨c1, iS1, hKn1⟩ := u_known (C := RX1) (T := TX1) (N := 16) (n := 16) hall inX1 (hall _ kw_318)
  obtain ⟨dC, dI, hKc⟩ : ∃ (dC : Nat → ClassId) (dI : Nat → Nat → Nat), ∀ (k : Nat) (q : vw_C), vwCl[k]? = some q → u_Kn s q.1 q.2.1 q.2.2 (dC k) (dI k) := by
    refine ⟨fun k => if k = 0 then c0 else c1, fun k => if k = 0 then iS0 else iS1, ?_⟩
    intro k q hq
    match k, hq with
    | 0, hq => cases hq; exact hKn0
    | 1, hq => cases hq; exact hKn1
    | k + 2, hq => simp [vwCl] at hq
  have hS : va_S (fun z : Nat => s.heap.size ≤ z) s.heap s.heap [] := va_S.rf
  have hK : va_K (dC, dI) vwCl [] s := ⟨hKc, fun k q h => by simp at h⟩
  have hP : va_P (dC, dI) vwCl [] s.heap := fun k q h => by simp at h
  have hD : va_D (fun z : Nat => s.heap.size ≤ z) [] := ⟨fun i j p q h => by simp at h, fun k q h => by simp at h⟩
  obtain ⟨i0, hi0⟩ : ∃ z : Int32, z = xw_c L xs 0 := ⟨_, rfl⟩
  obtain ⟨j0, hj0⟩ : ∃ z : Int32, z = xw_c L xs 1 := ⟨_, rfl⟩
  obtain ⟨nD, hnD⟩ := wf_in_ex i0 512 512 64 rfl (by omega)
  obtain ⟨nR, hnR⟩ := wf_in_ex j0 8192 8192 1024 rfl (by omega)
  obtain ⟨pl, hpl⟩ : ∃ z : Nat, z = min nR 64 := ⟨_, rfl⟩
  have bD := xw_b hnD (by omega) (by omega)
  have bR := xw_b hnR (by omega) (by omega)
  have hl := lv_entry ([.ref b]) (n := 8) (Nat.le_of_ble_eq_true rfl)
  rw [lg_entry_eq]
  generalize (lg_sl ([.ref b]) ++ List.replicate (8 - (lg_sl ([.ref b])).length) Slot.unset).toArray = ls at hl ⊢
  have hl : lv_has ls 8 [(0, .ref b)] := hl
  refine va_new (ci := 0) (fs := [.int 0, .int 0, .null, .null, .null, .null, .null, .null, .int (nI 0), .null, .int (nI 0), .long 0]) (C := RX0) (T := TX0) (N := 12) hx hb hall inX0 tyX0 tyX0_ok hown (hall _ kw_12) (hall _ kw_13) (hall _ kw_1) hK hP hD hS hA rfl (fun j hj => by rcases (show j = 0 ∨ j = 1 ∨ j = 2 ∨ j = 3 ∨ j = 4 ∨ j = 5 ∨ j = 6 ∨ j = 7 ∨ j = 8 ∨ j = 9 ∨ j = 10 ∨ j = 11 by omega) with rfl | rfl | rfl | rfl | rfl | rfl | rfl | rfl | rfl | rfl | rfl | rfl <;> rfl) (by show _ ≤ 601024; omega) (by show _ ≤ 7293000; omega) dL_law_0 (fun x H hP hD hS => ?_)
  have hP : va_P (dC, dI) vwCl [(x, .inr (0, [.int 0, .int 0, .null, .null, .null, .null, .null, .null, .int (nI 0), .null, .int (nI 0), .long 0]))] H := hP
  have hD : va_D (fun z : Nat => s.heap.size ≤ z) [(x, .inr (0, [.int 0, .int 0, .null, .null, .null, .null, .null, .null, .int (nI 0), .null, .int (nI 0), .long 0]))] := hD
  refine lv_dup hx hb dL_law_3 rfl ?_
  refine lv_aload_n hx hb dL_law_4 rfl (lv_at hl 0 rfl) ?_
  refine lv_iconst (v := 0) hx hb dL_law_5 (by decide) ?_
  refine tp_i (y := nI 0) nI_0.symm ?_
  refine vp_callSi (W.runS (As := [.ref b, .int (nI 0)]) (rest := [.ref x, .ref x]) ⟨hx, hb, hml, hown, hall⟩ (c_cell l b L xs hL 0 (by omega)) (va_cwS 2 hall gL_47 rfl rfl rfl (by decide +kernel) ⟨Nat.le_of_ble_eq_true rfl, Nat.le_of_ble_eq_true rfl⟩) ⟨xc_blind, fun U hU hW => ⟨rfl, by show va_X b L xs U U.heap; rw [hU]; exact va_X.moved hW.alike (hX.kept (hS.2.1 b hbl hbA))⟩⟩ rfl rfl hl.1 rfl (lv_room (Nat.le_of_ble_eq_true rfl)) dL_law_6 ⟨by show _ ≤ 601024; omega, by show _ ≤ 7293000; omega⟩) (fun v h => ?_)
  refine tp_i (y := i0) (h.trans hi0.symm) ?_
  refine lv_aload_n hx hb dL_law_9 rfl (lv_at hl 0 rfl) ?_
  refine lv_iconst (v := 1) hx hb dL_law_10 (by decide) ?_
  refine tp_i (y := nI 1) (by decide) ?_
  refine vp_callSi (W.runS (As := [.ref b, .int (nI 1)]) (rest := [.int i0, .ref x, .ref x]) ⟨hx, hb, hml, hown, hall⟩ (c_cell l b L xs hL 1 (by omega)) (va_cwS 2 hall gL_47 rfl rfl rfl (by decide +kernel) ⟨Nat.le_of_ble_eq_true rfl, Nat.le_of_ble_eq_true rfl⟩) ⟨xc_blind, fun U hU hW => ⟨rfl, by show va_X b L xs U U.heap; rw [hU]; exact va_X.moved hW.alike (hX.kept (hS.2.1 b hbl hbA))⟩⟩ rfl rfl hl.1 rfl (lv_room (Nat.le_of_ble_eq_true rfl)) dL_law_11 ⟨by show _ ≤ 601024; omega, by show _ ≤ 7293000; omega⟩) (fun v h => ?_)
  refine tp_i (y := j0) (h.trans hj0.symm) ?_
  have hPc := hP.sub (ws' := [(x, .inr (0, [.int 0, .int 0, .null, .null, .null, .null, .null, .null, .int (nI 0), .null, .int (nI 0), .long 0]))]) [0] rfl
  have hDc := hD.sub (ws' := [(x, .inr (0, [.int 0, .int 0, .null, .null, .null, .null, .null, .null, .int (nI 0), .null, .int (nI 0), .long 0]))]) [0] (by decide) rfl
  have hKc := hK.sub (tys' := []) [] rfl
  have hFc := va_free (wc := [(x, .inr (0, [.int 0, .int 0, .null, .null, .null, .null, .null, .null, .int (nI 0), .null, .int (nI 0), .long 0]))]) hD hS hA [0] rfl
  refine va_callv (va_runI (As := [.int i0, .int j0]) (rest := [.ref x]) ⟨hx, hb, hml, hown, hall⟩ (c_init l dC dI x H.size i0 j0 nD nR pl hnD hnR hpl) (cwI 2 hall (gAll kw_16) rfl rfl rfl (hall _ kw_1) (hall _ kw_14) (hall _ kw_15) rfl (by decide +kernel) ⟨Nat.le_of_ble_eq_true rfl, Nat.le_of_ble_eq_true rfl⟩) ⟨xu_blind, fun U hU hW => ⟨rfl, by rw [hU], by rw [hU]; exact hPc, va_K.moved hW.alike hKc, hDc.weaken (fun _ _ _ _ => trivial)⟩⟩ rfl rfl hl.1 rfl (lv_room (Nat.le_of_ble_eq_true rfl)) dL_law_14 ⟨by show _ ≤ 601024; omega, by show _ ≤ 7293000; omega⟩) hS (fun q _ h => hFc q h) hFc (fun u t9 H1 locs ht hvm hw hB hz1 hk1 hS => ?_)
  obtain ⟨a1, a2, a3, a4, a5, a6, a7, cI, cJ, hP1, hK1, hD1⟩ := hB
  rw [ht] at hP1
  have hK1 := va_K.moved hvm.symm hK1
  obtain ⟨hP, hD⟩ := va_join (wr := []) (w1 := (wr x a1 a2 a3 a4 a5 a6 a7 cI cJ nD nR (fun _ => 0) (fun _ => 0) pl (fun _ => 0) (fun _ => 0) (fun _ => 0) (fun _ => 0) 0 (fun _ => nI 0) 0 0)) hP hD [0] [] rfl rfl (by decide) (by decide) hk1 hFc hP1 hD1
  have hK : va_K (dC, dI) vwCl [(cI, .int), (cJ, .long)] s := (hK.sub (tys' := []) [] rfl).app hK1
  generalize H1 = H at hP hS ⊢
  have hP : va_P (dC, dI) vwCl (wr x a1 a2 a3 a4 a5 a6 a7 cI cJ nD nR (fun _ => 0) (fun _ => 0) pl (fun _ => 0) (fun _ => 0) (fun _ => 0) (fun _ => 0) 0 (fun _ => nI 0) 0 0) H := hP
  have hD : va_D (fun z : Nat => s.heap.size ≤ z) (wr x a1 a2 a3 a4 a5 a6 a7 cI cJ nD nR (fun _ => 0) (fun _ => 0) pl (fun _ => 0) (fun _ => 0) (fun _ => 0) (fun _ => 0) 0 (fun _ => nI 0) 0 0) := hD
  refine lv_astore_n (lv' := [(1, .ref x), (0, .ref b)]) hx hb dL_law_17 rfl hl (by decide) rfl (fun ls hl => ?_)
  refine va_new (ci := 1) (fs := [.int (nI 0), .int 0, .int 0, .null, .null, .long 0, .null, .null, .null, .int (nI 0), .null, .null, .int (nI 0), .null, .null, .null]) (C := RX1) (T := TX1) (N := 16) hx hb hall inX1 tyX1 tyX1_ok hown (hall _ kw_317) (hall _ kw_318) (hall _ kw_3) hK hP hD hS hA rfl (fun j hj => by rcases (show j = 0 ∨ j = 1 ∨ j = 2 ∨ j = 3 ∨ j = 4 ∨ j = 5 ∨ j = 6 ∨ j = 7 ∨ j = 8 ∨ j = 9 ∨ j = 10 ∨ j = 11 ∨ j = 12 ∨ j = 13 ∨ j = 14 ∨ j = 15 by omega) with rfl | rfl | rfl | rfl | rfl | rfl | rfl | rfl | rfl | rfl | rfl | rfl | rfl | rfl | rfl | rfl <;> rfl) (by show _ ≤ 601024; omega) (by show _ ≤ 7293000; omega) dL_law_18 (fun y H hP hD hS => ?_)
  refine lv_dup hx hb dL_law_21 rfl ?_
  refine lv_aload_n hx hb dL_law_22 rfl (lv_at hl 1 rfl) ?_
  refine lv_iconst (v := 0) hx hb dL_law_23 (by decide) ?_
  refine tp_i (y := nI 0) nI_0.symm ?_
  refine vp_callSi (W.runS (As := [.ref b, .int (nI 0)]) (rest := [.ref y, .ref y]) ⟨hx, hb, hml, hown, hall⟩ (c_cell l b L xs hL 0 (by omega)) (va_cwS 2 hall gL_47 rfl rfl rfl (by decide +kernel) ⟨Nat.le_of_ble_eq_true rfl, Nat.le_of_ble_eq_true rfl⟩) ⟨xc_blind, fun U hU hW => ⟨rfl, by show va_X b L xs U U.heap; rw [hU]; exact va_X.moved hW.alike (hX.kept (hS.2.1 b hbl hbA))⟩⟩ rfl rfl hl.1 rfl (lv_room (Nat.le_of_ble_eq_true rfl)) dL_law_24 ⟨by show _ ≤ 601024; omega, by show _ ≤ 7293000; omega⟩) (fun v h => ?_)
  refine tp_i (y := i0) (h.trans hi0.symm) ?_
  refine lv_aload_n hx hb dL_law_27 rfl (lv_at hl 1 rfl) ?_
  refine lv_iconst (v := 1) hx hb dL_law_28 (by decide) ?_
  refine tp_i (y := nI 1) (by decide) ?_
  refine vp_callSi (W.runS (As := [.ref b, .int (nI 1)]) (rest := [.int i0, .ref y, .ref y]) ⟨hx, hb, hml, hown, hall⟩ (c_cell l b L xs hL 1 (by omega)) (va_cwS 2 hall gL_47 rfl rfl rfl (by decide +kernel) ⟨Nat.le_of_ble_eq_true rfl, Nat.le_of_ble_eq_true rfl⟩) ⟨xc_blind, fun U hU hW => ⟨rfl, by show va_X b L xs U U.heap; rw [hU]; exact va_X.moved hW.alike (hX.kept (hS.2.1 b hbl hbA))⟩⟩ rfl rfl hl.1 rfl (lv_room (Nat.le_of_ble_eq_true rfl)) dL_law_29 ⟨by show _ ≤ 601024; omega, by show _ ≤ 7293000; omega⟩) (fun v h => ?_)
  refine tp_i (y := j0) (h.trans hj0.symm) ?_
  have hPc := hP.sub (ws' := [(y, .inr (1, [.int (nI 0), .int 0, .int 0, .null, .null, .long 0, .null, .null, .null, .int (nI 0), .null, .null, .int (nI 0), .null, .null, .null]))]) [8] rfl
  have hDc := hD.sub (ws' := [(y, .inr (1, [.int (nI 0), .int 0, .int 0, .null, .null, .long 0, .null, .null, .null, .int (nI 0), .null, .null, .int (nI 0), .null, .null, .null]))]) [8] (by decide) rfl
  have hKc := hK.sub (tys' := []) [] rfl
  have hFc := va_free (wc := [(y, .inr (1, [.int (nI 0), .int 0, .int 0, .null, .null, .long 0, .null, .null, .null, .int (nI 0), .null, .null, .int (nI 0), .null, .null, .null]))]) hD hS hA [8] rfl
  refine va_callv (va_runI (As := [.int i0, .int j0]) (rest := [.ref y]) ⟨hx, hb, hml, hown, hall⟩ (m_init l dC dI y H.size i0 j0 nD nR hnD hnR) (cwI 2 hall (gAll kw_321) rfl rfl rfl (hall _ kw_3) (hall _ kw_319) (hall _ kw_320) rfl (by decide +kernel) ⟨Nat.le_of_ble_eq_true rfl, Nat.le_of_ble_eq_true rfl⟩) ⟨xu_blind, fun U hU hW => ⟨rfl, by rw [hU], by rw [hU]; exact hPc, va_K.moved hW.alike hKc, hDc.weaken (fun _ _ _ _ => trivial)⟩⟩ rfl rfl hl.1 rfl (lv_room (Nat.le_of_ble_eq_true rfl)) dL_law_32 ⟨by show _ ≤ 601024; omega, by show _ ≤ 7293000; omega⟩) hS (fun q _ h => hFc q h) hFc (fun u t9 H1 locs ht hvm hw hB hz1 hk1 hS => ?_)
  obtain ⟨b1, b2, b3, b4, b5, b6, b7, b8, b9, b10, cI2, cJ2, cZ, hP1, hK1, hD1⟩ := hB
  rw [ht] at hP1
  have hK1 := va_K.moved hvm.symm hK1
  have hK : va_K (dC, dI) vwCl [(cI, .int), (cJ, .long), (cI2, .int), (cJ2, .long), (cZ, .boolean)] s := hK.app hK1
  obtain rfl : cI = cI2 := xk_sameI hK (t1 := 0) (t2 := 2) rfl rfl
  obtain rfl : cJ = cJ2 := xk_sameL hK (t1 := 1) (t2 := 3) rfl rfl
  have hK := hK.sub (tys' := [(cI, .int), (cJ, .long), (cZ, .boolean)]) [0, 1, 4] rfl
  obtain ⟨hP, hD⟩ := va_join (wr := (wr x a1 a2 a3 a4 a5 a6 a7 cI cJ nD nR (fun _ => 0) (fun _ => 0) pl (fun _ => 0) (fun _ => 0) (fun _ => 0) (fun _ => 0) 0 (fun _ => nI 0) 0 0)) (w1 := (wm y b1 b2 b3 b4 b5 b6 b7 b8 b9 b10 cI cJ cZ 0 nD nR (fun _ => 0) (fun _ => false) 0 (fun _ => 0) (fun _ => 0) (fun _ => 0) ((([] : List ZT)).length) (fun _ => 0) (fun _ => 0) 0 (fun _ => 0) (fun _ => 0) (fun _ => false))) hP hD [8] [0, 1, 2, 3, 4, 5, 6, 7] rfl rfl (by decide) (by decide) hk1 hFc hP1 hD1
  generalize H1 = H at hP hS ⊢
  refine lv_astore_n (lv' := [(2, .ref y), (1, .ref x), (0, .ref b)]) hx hb dL_law_35 rfl hl (by decide) rfl (fun ls hl => ?_)
  refine lv_iconst (v := 1) hx hb dL_law_36 (by decide) ?_
  refine tp_i (y := nI 1) (by decide) ?_
  refine xa_newl hx hb (hall _ kw_60) hK hP hD hS hA (by omega) (by show _ ≤ 601024; omega) (by show _ ≤ 7293000; omega) dL_law_37 (fun q cJ2 H hK hP hD hS => ?_)
  obtain rfl : cJ = cJ2 := xk_sameL hK (t1 := 1) (t2 := 3) rfl rfl
  have hK := hK.sub (tys' := [(cI, .int), (cJ, .long), (cZ, .boolean)]) [0, 1, 2] rfl
  have hP := hP.sub (ws' := (wlw x a1 a2 a3 a4 a5 a6 a7 y b1 b2 b3 b4 b5 b6 b7 b8 b9 b10 q cI cJ cZ nD nR (fun _ => 0) (fun _ => 0) pl (fun _ => 0) (fun _ => 0) (fun _ => 0) (fun _ => 0) 0 (fun _ => nI 0) 0 0 0 (fun _ => 0) (fun _ => false) 0 (fun _ => 0) (fun _ => 0) (fun _ => 0) ((([] : List ZT)).length) (fun _ => 0) (fun _ => 0) 0 (fun _ => 0) (fun _ => 0) (fun _ => false) (fun _ => 0))) [0, 1, 2, 3, 4, 5, 6, 7, 8, 9, 10, 11, 12, 13, 14, 15, 16, 17, 18, 19] rfl
  have hD := hD.sub (ws' := (wlw x a1 a2 a3 a4 a5 a6 a7 y b1 b2 b3 b4 b5 b6 b7 b8 b9 b10 q cI cJ cZ nD nR (fun _ => 0) (fun _ => 0) pl (fun _ => 0) (fun _ => 0) (fun _ => 0) (fun _ => 0) 0 (fun _ => nI 0) 0 0 0 (fun _ => 0) (fun _ => false) 0 (fun _ => 0) (fun _ => 0) (fun _ => 0) ((([] : List ZT)).length) (fun _ => 0) (fun _ => 0) 0 (fun _ => 0) (fun _ => 0) (fun _ => false) (fun _ => 0))) [0, 1, 2, 3, 4, 5, 6, 7, 8, 9, 10, 11, 12, 13, 14, 15, 16, 17, 18, 19] (by decide) rfl
  refine lv_astore_n (lv' := [(3, .ref q), (2, .ref y), (1, .ref x), (0, .ref b)]) hx hb dL_law_39 rfl hl (by decide) rfl (fun ls hl => ?_)
  refine lv_iconst (v := 2) hx hb dL_law_40 (by decide) ?_
  refine tp_i (y := nI 2) (by decide) ?_
  refine lv_istore (lv' := [(4, .int (nI 2)), (3, .ref q), (2, .ref y), (1, .ref x), (0, .ref b)]) hx hb dL_law_41 hl (by decide) rfl (fun ls hl => ?_)
  refine W.widen (k := 20 + 2 * 2) (n := 70000 + 6 * 2 + 0) (by omega) (by omega) ?_
  exact law_loop hst hL C0 hok hnk hK (L + 3) 2 (by omega) (by omega) a3 a4 (fun _ => 0) (fun _ => 0) pl (fun _ => 0) (fun _ => 0) (fun _ => 0) (fun _ => 0) 0 (fun _ => nI 0) 0 0 0 (fun _ => 0) (fun _ => false) (fun _ => 0) (fun _ => 0) (fun _ => 0) ([] : List ZT) (fun _ => 0) (fun _ => 0) (fun _ => 0) (fun _ => 0) (fun _ => false) (fun _ => 0) 0 H _ (wrel_0 bD bR hpl) (fun j z h => by simp at h) (Or.inl (Nat.zero_le _)) hP hD hS ls (lv_sub hl [4, 3, 2, 1, 0] rfl)
