set_option maxHeartbeats 4000000 in
set_option maxRecDepth 100000 in
theorem m_replace (l : Launch) (dC : Nat → ClassId) (dI : Nat → Nat → Nat) (y b1 b2 b3 b4 b5 b6 b7 b8 b9 b10 : Nat) (cI cJ cZ : ClassId) (th nD nR : Nat) (vs : Nat → Int64) (ac : Nat → Bool) (now : Int64) (o : Nat → Nat) (mt mw : Nat → Int64) (nv dl : Nat → Int64) (el : Nat) (rt rv : Nat → Int64) (mk : Nat → Bool) (zs : List ZT) (sz : Nat) (hI : wm_I nD nR el zs) (hZ : wz zs o mt mw) (d : Nat) (hd : d < nD) (n0 : Nat) (hn0 : n0 ≤ 8208) (hfit : (wot d zs ++ wmk d rt rv mk n0 0).length ≤ 8192) : Met l yX1_replace wsX1_replace ({ frames := 0, cells := 0, slots := 0, locals := 0 }) (va_Pc [.ref y, .int (nI d), .int (nI n0)] (fun U => U.heap.size = sz ∧ va_P (dC, dI) vwCl (wm y b1 b2 b3 b4 b5 b6 b7 b8 b9 b10 cI cJ cZ th nD nR vs ac now o mt mw zs.length nv dl el rt rv mk) U.heap ∧ va_K (dC, dI) vwCl [(cI, .int), (cJ, .long), (cZ, .boolean)] U ∧ va_D (fun _ => True) (wm y b1 b2 b3 b4 b5 b6 b7 b8 b9 b10 cI cJ cZ th nD nR vs ac now o mt mw zs.length nv dl el rt rv mk))) (va_Qv (fun _ : Unit => True) (fun _ t9 => ∃ (o9 : Nat → Nat) (t8 w9 : Nat → Int64), wz (wot d zs ++ wmk d rt rv mk n0 0) o9 t8 w9 ∧ va_P (dC, dI) vwCl (wm y b1 b2 b3 b4 b5 b6 b7 b8 b9 b10 cI cJ cZ th nD nR vs ac now o9 t8 w9 ((wot d zs ++ wmk d rt rv mk n0 0).length) nv dl el rt rv mk) t9.heap ∧ va_K (dC, dI) vwCl [(cI, .int), (cJ, .long), (cZ, .boolean)] t9 ∧ va_D (va_A (wm y b1 b2 b3 b4 b5 b6 b7 b8 b9 b10 cI cJ cZ th nD nR vs ac now o mt mw zs.length nv dl el rt rv mk) sz) (wm y b1 b2 b3 b4 b5 b6 b7 b8 b9 b10 cI cJ cZ th nD nR vs ac now o9 t8 w9 ((wot d zs ++ wmk d rt rv mk n0 0).length) nv dl el rt rv mk)) (va_A (wm y b1 b2 b3 b4 b5 b6 b7 b8 b9 b10 cI cJ cZ th nD nR vs ac now o mt mw zs.length nv dl el rt rv mk) sz)) 0 0 (va_A (wm y b1 b2 b3 b4 b5 b6 b7 b8 b9 b10 cI cJ cZ th nD nR vs ac now o mt mw zs.length nv dl el rt rv mk) sz) := by
  refine Met.ofW (cc := cX1_replace) (maxL := 5) (ret := none) (by decide) rfl ?_
  intro p e s m args below meth c s₁ B hml hv
  obtain ⟨rfl, hsz, hP, hK, hD0⟩ := hv
  subst hsz
  have hD := hD0.self (sz := s.heap.size)
  generalize hAe : va_A (wm y b1 b2 b3 b4 b5 b6 b7 b8 b9 b10 cI cJ cZ th nD nR vs ac now o mt mw zs.length nv dl el rt rv mk) s.heap.size = A at hD ⊢
  have hA : ∀ q : Nat, s.heap.size ≤ q → A q := fun q h => by rw [← hAe]; exact Or.inr h
  have hS : va_S A s.heap s.heap [] := va_S.rf
  have hx := B.exec
  have hb := B.bytes
  have hr := B.returns
  have hts := atoms_spec (ws := wsX1_replace) B.pre
  have hown : s.vm.findClass RX1 = some m.cls := findClass_of_methodNamed B.named
  have hlocks := B.notSynchronized
  have hall := fun (w : Cond) (h : w ∈ allw) => hts w (List.mem_cons_of_mem _ h)
  have hl := lv_entry ([.ref y, .int (nI d), .int (nI n0)]) (n := 5) (Nat.le_of_ble_eq_true rfl)
  rw [lg_entry_eq]
  generalize (lg_sl ([.ref y, .int (nI d), .int (nI n0)]) ++ List.replicate (5 - (lg_sl ([.ref y, .int (nI d), .int (nI n0)])).length) Slot.unset).toArray = ls at hl ⊢
  have hl : lv_has ls 5 [(0, .ref y), (1, .int (nI d)), (2, .int (nI n0))] := hl
  obtain ⟨hnD1, hnD, hnR1, hnR, hzR, hel, how⟩ := hI
  refine lv_iconst (v := 0) hx hb dX1_replace_0 (by decide) ?_
  refine tp_i (y := nI 0) nI_0.symm ?_
  refine lv_istore_n (lv' := [(3, .int (nI 0)), (0, .ref y), (1, .int (nI d)), (2, .int (nI n0))]) hx hb dX1_replace_1 rfl hl (by decide) rfl (fun ls hl => ?_)
  refine lv_iconst (v := 0) hx hb dX1_replace_2 (by decide) ?_
  refine tp_i (y := nI 0) nI_0.symm ?_
  refine lv_istore (lv' := [(4, .int (nI 0)), (3, .int (nI 0)), (0, .ref y), (1, .int (nI d)), (2, .int (nI n0))]) hx hb dX1_replace_3 hl (by decide) rfl (fun ls hl => ?_)
  have hloop2 : ∀ (n k : Nat) (G : List ZT) (oc : Nat → Nat) (tc vc : Nat → Int64) (H : Heap) (locs : List Loc) (ls : Array Slot), k + n = n0 → wz G oc tc vc → G ++ wmk d rt rv mk n k = wot d zs ++ wmk d rt rv mk n0 0 → va_P (dC, dI) vwCl [(y, .inr (1, [.int (nI th), .int (nI nD), .int (nI nR), .ref b1, .ref b2, .long now, .ref b3, .ref b4, .ref b5, .int (nI G.length), .ref b6, .ref b7, .int (nI el), .ref b8, .ref b9, .ref b10])), (b1, .inl (cJ, 512, .inr (.inl vs))), (b2, .inl (cZ, 512, .inl (fun j => bI (ac j)))), (b3, .inl (cI, 8192, .inl (fun j => nI (oc j)))), (b4, .inl (cJ, 8192, .inr (.inl tc))), (b5, .inl (cJ, 8192, .inr (.inl vc))), (b6, .inl (cJ, 16, .inr (.inl nv))), (b7, .inl (cJ, 16, .inr (.inl dl))), (b8, .inl (cJ, 8208, .inr (.inl rt))), (b9, .inl (cJ, 8208, .inr (.inl rv))), (b10, .inl (cZ, 8208, .inl (fun j => bI (mk j))))] H → va_D A [(y, .inr (1, [.int (nI th), .int (nI nD), .int (nI nR), .ref b1, .ref b2, .long now, .ref b3, .ref b4, .ref b5, .int (nI G.length), .ref b6, .ref b7, .int (nI el), .ref b8, .ref b9, .ref b10])), (b1, .inl (cJ, 512, .inr (.inl vs))), (b2, .inl (cZ, 512, .inl (fun j => bI (ac j)))), (b3, .inl (cI, 8192, .inl (fun j => nI (oc j)))), (b4, .inl (cJ, 8192, .inr (.inl tc))), (b5, .inl (cJ, 8192, .inr (.inl vc))), (b6, .inl (cJ, 16, .inr (.inl nv))), (b7, .inl (cJ, 16, .inr (.inl dl))), (b8, .inl (cJ, 8208, .inr (.inl rt))), (b9, .inl (cJ, 8208, .inr (.inl rv))), (b10, .inl (cZ, 8208, .inl (fun j => bI (mk j))))] → va_S A s.heap H locs → lv_has ls 5 [(0, .ref y), (1, .int (nI d)), (2, .int (nI n0)), (4, .int (nI k))] → W p l e (headSpec wsX1_replace ({ frames := 0, cells := 0, slots := 0, locals := 0 })).room s m (([.ref y, .int (nI d), .int (nI n0)] : List Value).toArray) below meth c H locs 0 0 (MQ below (va_Qv (fun _ : Unit => True) (fun _ t9 => ∃ (o9 : Nat → Nat) (t8 w9 : Nat → Int64), wz (wot d zs ++ wmk d rt rv mk n0 0) o9 t8 w9 ∧ va_P (dC, dI) vwCl (wm y b1 b2 b3 b4 b5 b6 b7 b8 b9 b10 cI cJ cZ th nD nR vs ac now o9 t8 w9 ((wot d zs ++ wmk d rt rv mk n0 0).length) nv dl el rt rv mk) t9.heap ∧ va_K (dC, dI) vwCl [(cI, .int), (cJ, .long), (cZ, .boolean)] t9 ∧ va_D A (wm y b1 b2 b3 b4 b5 b6 b7 b8 b9 b10 cI cJ cZ th nD nR vs ac now o9 t8 w9 ((wot d zs ++ wmk d rt rv mk n0 0).length) nv dl el rt rv mk)) A) (([.ref y, .int (nI d), .int (nI n0)] : List Value).toArray) s 0 0 A) (F0 m 81 ls []) := by
    intro n
    induction n with
    | zero =>
      intro k G oc tc vc H locs ls hk hG hE hP hD hS hl
      obtain rfl : G = wot d zs ++ wmk d rt rv mk n0 0 := (List.append_nil G).symm.trans hE
      refine lv_iload hx hb dX1_replace_81 (lv_at hl 3 rfl) ?_
      refine lv_iload_n hx hb dX1_replace_83 rfl (lv_at hl 2 rfl) ?_
      refine xc_ge (tgt := 155) hx hb (by omega) (by omega) dX1_replace_84 (by decide) (fun c_1 => ?_) (fun c_1 => ?_)
      · exact W.vret hx hb hr (fun t9 ht hW => ⟨⟨(), rfl, trivial, oc, tc, vc, hG, by rw [ht]; exact hP, va_K.moved hW.alike hK, hD⟩, hS.F ht⟩) hS.2.2 dX1_replace_155
      · exact absurd c_1 (by omega)
    | succ n ih =>
      intro k G oc tc vc H locs ls hk hG hE hP hD hS hl
      refine lv_iload hx hb dX1_replace_81 (lv_at hl 3 rfl) ?_
      refine lv_iload_n hx hb dX1_replace_83 rfl (lv_at hl 2 rfl) ?_
      refine xc_ge (tgt := 155) hx hb (by omega) (by omega) dX1_replace_84 (by decide) (fun c_2 => ?_) (fun c_2 => ?_)
      · exact absurd c_2 (by omega)
      · refine lv_aload_n hx hb dX1_replace_87 rfl (lv_at hl 0 rfl) ?_
        refine va_get (D := (dC, dI)) (ci := 1) (v := .ref b10) (C := RX1) (T := TX1) (N := 16) hx hb hall inX1 hown hK hP 0 rfl rfl 15 (by decide) (hall _ kw_338) (fun _ h9 => h9) rfl dX1_replace_88 ?_
        refine lv_iload hx hb dX1_replace_91 (lv_at hl 3 rfl) ?_
        refine xa_zald hx hb hK hP 10 2 rfl rfl (by omega) (by omega) dX1_replace_93 ?_
        refine xb_eq (tgt := 149) hx hb dX1_replace_94 (by decide) (fun c_3 => ?_) (fun c_3 => ?_)
        · have c_A := c_3
          refine lv_iinc (v := nI (k + 1)) (lv' := [(4, .int (nI (k + 1))), (0, .ref y), (1, .int (nI d)), (2, .int (nI n0))]) hx hb dX1_replace_149 hl (k := 3) rfl (nI_1 k) (by decide) rfl (fun ls hl => ?_)
          refine lv_goto (tgt := 81) hx hb dX1_replace_152 (by decide) ?_
          exact ih (k + 1) G oc tc vc H locs ls (by omega) hG (by rw [← hE]; show _ = G ++ (if mk k = true then _ else _); rw [if_neg (by rw [c_A]; decide)]) hP hD hS (lv_sub hl [1, 2, 3, 0] rfl)
        · have c_A := c_3
          have hE2 : G ++ (d, rt k, rv k) :: wmk d rt rv mk n (k + 1) = wot d zs ++ wmk d rt rv mk n0 0 := by rw [← hE]; show _ = G ++ (if mk k = true then _ else _); rw [if_pos c_A]
          have hGl : G.length < 8192 := by have := congrArg List.length hE2; rw [List.length_append, List.length_cons] at this; omega
          refine lv_aload_n hx hb dX1_replace_97 rfl (lv_at hl 0 rfl) ?_
          refine va_get (D := (dC, dI)) (ci := 1) (v := .ref b3) (C := RX1) (T := TX1) (N := 16) hx hb hall inX1 hown hK hP 0 rfl rfl 6 (by decide) (hall _ kw_329) (fun _ h9 => h9) rfl dX1_replace_98 ?_
          refine lv_aload_n hx hb dX1_replace_101 rfl (lv_at hl 0 rfl) ?_
          refine va_get (D := (dC, dI)) (ci := 1) (v := .int (nI G.length)) (C := RX1) (T := TX1) (N := 16) hx hb hall inX1 hown hK hP 0 rfl rfl 9 (by decide) (hall _ kw_332) (fun _ h9 => h9) rfl dX1_replace_102 ?_
          refine lv_iload_n hx hb dX1_replace_105 rfl (lv_at hl 1 rfl) ?_
          refine xa_iast hx hb hK hP hD hS 3 0 rfl rfl (by omega) (by omega) dX1_replace_106 (fun H locs hP hD hS => ?_)
          have hP : va_P (dC, dI) vwCl [(y, .inr (1, [.int (nI th), .int (nI nD), .int (nI nR), .ref b1, .ref b2, .long now, .ref b3, .ref b4, .ref b5, .int (nI G.length), .ref b6, .ref b7, .int (nI el), .ref b8, .ref b9, .ref b10])), (b1, .inl (cJ, 512, .inr (.inl vs))), (b2, .inl (cZ, 512, .inl (fun j => bI (ac j)))), (b3, .inl (cI, 8192, .inl (upd (fun j => nI (oc j)) G.length (nI d)))), (b4, .inl (cJ, 8192, .inr (.inl tc))), (b5, .inl (cJ, 8192, .inr (.inl vc))), (b6, .inl (cJ, 16, .inr (.inl nv))), (b7, .inl (cJ, 16, .inr (.inl dl))), (b8, .inl (cJ, 8208, .inr (.inl rt))), (b9, .inl (cJ, 8208, .inr (.inl rv))), (b10, .inl (cZ, 8208, .inl (fun j => bI (mk j))))] H := hP
          have hD : va_D A [(y, .inr (1, [.int (nI th), .int (nI nD), .int (nI nR), .ref b1, .ref b2, .long now, .ref b3, .ref b4, .ref b5, .int (nI G.length), .ref b6, .ref b7, .int (nI el), .ref b8, .ref b9, .ref b10])), (b1, .inl (cJ, 512, .inr (.inl vs))), (b2, .inl (cZ, 512, .inl (fun j => bI (ac j)))), (b3, .inl (cI, 8192, .inl (upd (fun j => nI (oc j)) G.length (nI d)))), (b4, .inl (cJ, 8192, .inr (.inl tc))), (b5, .inl (cJ, 8192, .inr (.inl vc))), (b6, .inl (cJ, 16, .inr (.inl nv))), (b7, .inl (cJ, 16, .inr (.inl dl))), (b8, .inl (cJ, 8208, .inr (.inl rt))), (b9, .inl (cJ, 8208, .inr (.inl rv))), (b10, .inl (cZ, 8208, .inl (fun j => bI (mk j))))] := hD
          rw [un_nI] at hP hD
          refine lv_aload_n hx hb dX1_replace_107 rfl (lv_at hl 0 rfl) ?_
          refine va_get (D := (dC, dI)) (ci := 1) (v := .ref b4) (C := RX1) (T := TX1) (N := 16) hx hb hall inX1 hown hK hP 0 rfl rfl 7 (by decide) (hall _ kw_330) (fun _ h9 => h9) rfl dX1_replace_108 ?_
          refine lv_aload_n hx hb dX1_replace_111 rfl (lv_at hl 0 rfl) ?_
          refine va_get (D := (dC, dI)) (ci := 1) (v := .int (nI G.length)) (C := RX1) (T := TX1) (N := 16) hx hb hall inX1 hown hK hP 0 rfl rfl 9 (by decide) (hall _ kw_332) (fun _ h9 => h9) rfl dX1_replace_112 ?_
          refine lv_aload_n hx hb dX1_replace_115 rfl (lv_at hl 0 rfl) ?_
          refine va_get (D := (dC, dI)) (ci := 1) (v := .ref b8) (C := RX1) (T := TX1) (N := 16) hx hb hall inX1 hown hK hP 0 rfl rfl 13 (by decide) (hall _ kw_336) (fun _ h9 => h9) rfl dX1_replace_116 ?_
          refine lv_iload hx hb dX1_replace_119 (lv_at hl 3 rfl) ?_
          refine xa_lald hx hb hK hP 8 1 rfl rfl (by omega) (by omega) dX1_replace_121 ?_
          refine xa_last hx hb hK hP hD hS 4 1 rfl rfl (by omega) (by omega) dX1_replace_122 (fun H locs hP hD hS => ?_)
          have hP : va_P (dC, dI) vwCl [(y, .inr (1, [.int (nI th), .int (nI nD), .int (nI nR), .ref b1, .ref b2, .long now, .ref b3, .ref b4, .ref b5, .int (nI G.length), .ref b6, .ref b7, .int (nI el), .ref b8, .ref b9, .ref b10])), (b1, .inl (cJ, 512, .inr (.inl vs))), (b2, .inl (cZ, 512, .inl (fun j => bI (ac j)))), (b3, .inl (cI, 8192, .inl (fun j => nI (un oc G.length d j)))), (b4, .inl (cJ, 8192, .inr (.inl (vp_updL tc G.length (rt k))))), (b5, .inl (cJ, 8192, .inr (.inl vc))), (b6, .inl (cJ, 16, .inr (.inl nv))), (b7, .inl (cJ, 16, .inr (.inl dl))), (b8, .inl (cJ, 8208, .inr (.inl rt))), (b9, .inl (cJ, 8208, .inr (.inl rv))), (b10, .inl (cZ, 8208, .inl (fun j => bI (mk j))))] H := hP
          have hD : va_D A [(y, .inr (1, [.int (nI th), .int (nI nD), .int (nI nR), .ref b1, .ref b2, .long now, .ref b3, .ref b4, .ref b5, .int (nI G.length), .ref b6, .ref b7, .int (nI el), .ref b8, .ref b9, .ref b10])), (b1, .inl (cJ, 512, .inr (.inl vs))), (b2, .inl (cZ, 512, .inl (fun j => bI (ac j)))), (b3, .inl (cI, 8192, .inl (fun j => nI (un oc G.length d j)))), (b4, .inl (cJ, 8192, .inr (.inl (vp_updL tc G.length (rt k))))), (b5, .inl (cJ, 8192, .inr (.inl vc))), (b6, .inl (cJ, 16, .inr (.inl nv))), (b7, .inl (cJ, 16, .inr (.inl dl))), (b8, .inl (cJ, 8208, .inr (.inl rt))), (b9, .inl (cJ, 8208, .inr (.inl rv))), (b10, .inl (cZ, 8208, .inl (fun j => bI (mk j))))] := hD
          refine lv_aload_n hx hb dX1_replace_123 rfl (lv_at hl 0 rfl) ?_
          refine va_get (D := (dC, dI)) (ci := 1) (v := .ref b5) (C := RX1) (T := TX1) (N := 16) hx hb hall inX1 hown hK hP 0 rfl rfl 8 (by decide) (hall _ kw_331) (fun _ h9 => h9) rfl dX1_replace_124 ?_
          refine lv_aload_n hx hb dX1_replace_127 rfl (lv_at hl 0 rfl) ?_
          refine va_get (D := (dC, dI)) (ci := 1) (v := .int (nI G.length)) (C := RX1) (T := TX1) (N := 16) hx hb hall inX1 hown hK hP 0 rfl rfl 9 (by decide) (hall _ kw_332) (fun _ h9 => h9) rfl dX1_replace_128 ?_
          refine lv_aload_n hx hb dX1_replace_131 rfl (lv_at hl 0 rfl) ?_
          refine va_get (D := (dC, dI)) (ci := 1) (v := .ref b9) (C := RX1) (T := TX1) (N := 16) hx hb hall inX1 hown hK hP 0 rfl rfl 14 (by decide) (hall _ kw_337) (fun _ h9 => h9) rfl dX1_replace_132 ?_
          refine lv_iload hx hb dX1_replace_135 (lv_at hl 3 rfl) ?_
          refine xa_lald hx hb hK hP 9 1 rfl rfl (by omega) (by omega) dX1_replace_137 ?_
          refine xa_last hx hb hK hP hD hS 5 1 rfl rfl (by omega) (by omega) dX1_replace_138 (fun H locs hP hD hS => ?_)
          have hP : va_P (dC, dI) vwCl [(y, .inr (1, [.int (nI th), .int (nI nD), .int (nI nR), .ref b1, .ref b2, .long now, .ref b3, .ref b4, .ref b5, .int (nI G.length), .ref b6, .ref b7, .int (nI el), .ref b8, .ref b9, .ref b10])), (b1, .inl (cJ, 512, .inr (.inl vs))), (b2, .inl (cZ, 512, .inl (fun j => bI (ac j)))), (b3, .inl (cI, 8192, .inl (fun j => nI (un oc G.length d j)))), (b4, .inl (cJ, 8192, .inr (.inl (vp_updL tc G.length (rt k))))), (b5, .inl (cJ, 8192, .inr (.inl (vp_updL vc G.length (rv k))))), (b6, .inl (cJ, 16, .inr (.inl nv))), (b7, .inl (cJ, 16, .inr (.inl dl))), (b8, .inl (cJ, 8208, .inr (.inl rt))), (b9, .inl (cJ, 8208, .inr (.inl rv))), (b10, .inl (cZ, 8208, .inl (fun j => bI (mk j))))] H := hP
          have hD : va_D A [(y, .inr (1, [.int (nI th), .int (nI nD), .int (nI nR), .ref b1, .ref b2, .long now, .ref b3, .ref b4, .ref b5, .int (nI G.length), .ref b6, .ref b7, .int (nI el), .ref b8, .ref b9, .ref b10])), (b1, .inl (cJ, 512, .inr (.inl vs))), (b2, .inl (cZ, 512, .inl (fun j => bI (ac j)))), (b3, .inl (cI, 8192, .inl (fun j => nI (un oc G.length d j)))), (b4, .inl (cJ, 8192, .inr (.inl (vp_updL tc G.length (rt k))))), (b5, .inl (cJ, 8192, .inr (.inl (vp_updL vc G.length (rv k))))), (b6, .inl (cJ, 16, .inr (.inl nv))), (b7, .inl (cJ, 16, .inr (.inl dl))), (b8, .inl (cJ, 8208, .inr (.inl rt))), (b9, .inl (cJ, 8208, .inr (.inl rv))), (b10, .inl (cZ, 8208, .inl (fun j => bI (mk j))))] := hD
          refine lv_aload_n hx hb dX1_replace_139 rfl (lv_at hl 0 rfl) ?_
          refine lv_dup hx hb dX1_replace_140 rfl ?_
          refine va_get (D := (dC, dI)) (ci := 1) (v := .int (nI G.length)) (C := RX1) (T := TX1) (N := 16) hx hb hall inX1 hown hK hP 0 rfl rfl 9 (by decide) (hall _ kw_332) (fun _ h9 => h9) rfl dX1_replace_141 ?_
          refine lv_iconst (v := 1) hx hb dX1_replace_144 (by decide) ?_
          refine lv_iadd hx hb dX1_replace_145 ?_
          refine tp_i (y := nI (G.length + 1)) (nI_1 _) ?_
          refine va_put (D := (dC, dI)) (ci := 1) (v := .int (nI (G.length + 1))) (ty := .int) (C := RX1) (T := TX1) (N := 16) hx hb hall inX1 tyX1 tyX1_ok nmX1 hown hK hP hD hS 0 rfl rfl 9 (by decide) (hall _ kw_332) (fun _ h9 => h9) rfl (by decide +kernel) rfl rfl (Nat.le_of_ble_eq_true rfl) dX1_replace_146 (fun H locs hP hD hS => ?_)
          have hP : va_P (dC, dI) vwCl [(y, .inr (1, [.int (nI th), .int (nI nD), .int (nI nR), .ref b1, .ref b2, .long now, .ref b3, .ref b4, .ref b5, .int (nI (G.length + 1)), .ref b6, .ref b7, .int (nI el), .ref b8, .ref b9, .ref b10])), (b1, .inl (cJ, 512, .inr (.inl vs))), (b2, .inl (cZ, 512, .inl (fun j => bI (ac j)))), (b3, .inl (cI, 8192, .inl (fun j => nI (un oc G.length d j)))), (b4, .inl (cJ, 8192, .inr (.inl (vp_updL tc G.length (rt k))))), (b5, .inl (cJ, 8192, .inr (.inl (vp_updL vc G.length (rv k))))), (b6, .inl (cJ, 16, .inr (.inl nv))), (b7, .inl (cJ, 16, .inr (.inl dl))), (b8, .inl (cJ, 8208, .inr (.inl rt))), (b9, .inl (cJ, 8208, .inr (.inl rv))), (b10, .inl (cZ, 8208, .inl (fun j => bI (mk j))))] H := hP
          have hD : va_D A [(y, .inr (1, [.int (nI th), .int (nI nD), .int (nI nR), .ref b1, .ref b2, .long now, .ref b3, .ref b4, .ref b5, .int (nI (G.length + 1)), .ref b6, .ref b7, .int (nI el), .ref b8, .ref b9, .ref b10])), (b1, .inl (cJ, 512, .inr (.inl vs))), (b2, .inl (cZ, 512, .inl (fun j => bI (ac j)))), (b3, .inl (cI, 8192, .inl (fun j => nI (un oc G.length d j)))), (b4, .inl (cJ, 8192, .inr (.inl (vp_updL tc G.length (rt k))))), (b5, .inl (cJ, 8192, .inr (.inl (vp_updL vc G.length (rv k))))), (b6, .inl (cJ, 16, .inr (.inl nv))), (b7, .inl (cJ, 16, .inr (.inl dl))), (b8, .inl (cJ, 8208, .inr (.inl rt))), (b9, .inl (cJ, 8208, .inr (.inl rv))), (b10, .inl (cZ, 8208, .inl (fun j => bI (mk j))))] := hD
          refine lv_iinc (v := nI (k + 1)) (lv' := [(4, .int (nI (k + 1))), (0, .ref y), (1, .int (nI d)), (2, .int (nI n0))]) hx hb dX1_replace_149 hl (k := 3) rfl (nI_1 k) (by decide) rfl (fun ls hl => ?_)
          refine lv_goto (tgt := 81) hx hb dX1_replace_152 (by decide) ?_
          exact ih (k + 1) (G ++ [(d, rt k, rv k)]) _ _ _ H locs ls (by omega) (wz_push (d, rt k, rv k) hG) (by rw [← hE2, List.append_assoc]; rfl) (by rw [wz_len]; exact hP) (by rw [wz_len]; exact hD) hS (lv_sub hl [1, 2, 3, 0] rfl)
  have hloop : ∀ (ss : List ZT) (k : Nat) (F : List ZT) (oc : Nat → Nat) (tc vc : Nat → Int64) (H : Heap) (locs : List Loc) (ls : Array Slot), zs.drop k = ss → k ≤ zs.length → F.length ≤ k → wz F oc tc vc → (∀ j, k ≤ j → oc j = o j ∧ tc j = mt j ∧ vc j = mw j) → F ++ wot d ss = wot d zs → va_P (dC, dI) vwCl [(y, .inr (1, [.int (nI th), .int (nI nD), .int (nI nR), .ref b1, .ref b2, .long now, .ref b3, .ref b4, .ref b5, .int (nI zs.length), .ref b6, .ref b7, .int (nI el), .ref b8, .ref b9, .ref b10])), (b1, .inl (cJ, 512, .inr (.inl vs))), (b2, .inl (cZ, 512, .inl (fun j => bI (ac j)))), (b3, .inl (cI, 8192, .inl (fun j => nI (oc j)))), (b4, .inl (cJ, 8192, .inr (.inl tc))), (b5, .inl (cJ, 8192, .inr (.inl vc))), (b6, .inl (cJ, 16, .inr (.inl nv))), (b7, .inl (cJ, 16, .inr (.inl dl))), (b8, .inl (cJ, 8208, .inr (.inl rt))), (b9, .inl (cJ, 8208, .inr (.inl rv))), (b10, .inl (cZ, 8208, .inl (fun j => bI (mk j))))] H → va_D A [(y, .inr (1, [.int (nI th), .int (nI nD), .int (nI nR), .ref b1, .ref b2, .long now, .ref b3, .ref b4, .ref b5, .int (nI zs.length), .ref b6, .ref b7, .int (nI el), .ref b8, .ref b9, .ref b10])), (b1, .inl (cJ, 512, .inr (.inl vs))), (b2, .inl (cZ, 512, .inl (fun j => bI (ac j)))), (b3, .inl (cI, 8192, .inl (fun j => nI (oc j)))), (b4, .inl (cJ, 8192, .inr (.inl tc))), (b5, .inl (cJ, 8192, .inr (.inl vc))), (b6, .inl (cJ, 16, .inr (.inl nv))), (b7, .inl (cJ, 16, .inr (.inl dl))), (b8, .inl (cJ, 8208, .inr (.inl rt))), (b9, .inl (cJ, 8208, .inr (.inl rv))), (b10, .inl (cZ, 8208, .inl (fun j => bI (mk j))))] → va_S A s.heap H locs → lv_has ls 5 [(0, .ref y), (1, .int (nI d)), (2, .int (nI n0)), (3, .int (nI F.length)), (4, .int (nI k))] → W p l e (headSpec wsX1_replace ({ frames := 0, cells := 0, slots := 0, locals := 0 })).room s m (([.ref y, .int (nI d), .int (nI n0)] : List Value).toArray) below meth c H locs 0 0 (MQ below (va_Qv (fun _ : Unit => True) (fun _ t9 => ∃ (o9 : Nat → Nat) (t8 w9 : Nat → Int64), wz (wot d zs ++ wmk d rt rv mk n0 0) o9 t8 w9 ∧ va_P (dC, dI) vwCl (wm y b1 b2 b3 b4 b5 b6 b7 b8 b9 b10 cI cJ cZ th nD nR vs ac now o9 t8 w9 ((wot d zs ++ wmk d rt rv mk n0 0).length) nv dl el rt rv mk) t9.heap ∧ va_K (dC, dI) vwCl [(cI, .int), (cJ, .long), (cZ, .boolean)] t9 ∧ va_D A (wm y b1 b2 b3 b4 b5 b6 b7 b8 b9 b10 cI cJ cZ th nD nR vs ac now o9 t8 w9 ((wot d zs ++ wmk d rt rv mk n0 0).length) nv dl el rt rv mk)) A) (([.ref y, .int (nI d), .int (nI n0)] : List Value).toArray) s 0 0 A) (F0 m 5 ls []) := by
    intro ss
    induction ss with
    | nil =>
      intro k F oc tc vc H locs ls hss hkl hFk hF hO hE hP hD hS hl
      have hk := wz_nil hss
      refine lv_iload hx hb dX1_replace_5 (lv_at hl 4 rfl) ?_
      refine lv_aload_n hx hb dX1_replace_7 rfl (lv_at hl 0 rfl) ?_
      refine va_get (D := (dC, dI)) (ci := 1) (v := .int (nI zs.length)) (C := RX1) (T := TX1) (N := 16) hx hb hall inX1 hown hK hP 0 rfl rfl 9 (by decide) (hall _ kw_332) (fun _ h9 => h9) rfl dX1_replace_8 ?_
      refine xc_ge (tgt := 73) hx hb (by omega) (by omega) dX1_replace_11 (by decide) (fun c_4 => ?_) (fun c_4 => ?_)
      · refine lv_aload_n hx hb dX1_replace_73 rfl (lv_at hl 0 rfl) ?_
        refine lv_iload_n hx hb dX1_replace_74 rfl (lv_at hl 3 rfl) ?_
        refine va_put (D := (dC, dI)) (ci := 1) (v := .int (nI F.length)) (ty := .int) (C := RX1) (T := TX1) (N := 16) hx hb hall inX1 tyX1 tyX1_ok nmX1 hown hK hP hD hS 0 rfl rfl 9 (by decide) (hall _ kw_332) (fun _ h9 => h9) rfl (by decide +kernel) rfl rfl (Nat.le_of_ble_eq_true rfl) dX1_replace_75 (fun H locs hP hD hS => ?_)
        have hP : va_P (dC, dI) vwCl [(y, .inr (1, [.int (nI th), .int (nI nD), .int (nI nR), .ref b1, .ref b2, .long now, .ref b3, .ref b4, .ref b5, .int (nI F.length), .ref b6, .ref b7, .int (nI el), .ref b8, .ref b9, .ref b10])), (b1, .inl (cJ, 512, .inr (.inl vs))), (b2, .inl (cZ, 512, .inl (fun j => bI (ac j)))), (b3, .inl (cI, 8192, .inl (fun j => nI (oc j)))), (b4, .inl (cJ, 8192, .inr (.inl tc))), (b5, .inl (cJ, 8192, .inr (.inl vc))), (b6, .inl (cJ, 16, .inr (.inl nv))), (b7, .inl (cJ, 16, .inr (.inl dl))), (b8, .inl (cJ, 8208, .inr (.inl rt))), (b9, .inl (cJ, 8208, .inr (.inl rv))), (b10, .inl (cZ, 8208, .inl (fun j => bI (mk j))))] H := hP
        have hD : va_D A [(y, .inr (1, [.int (nI th), .int (nI nD), .int (nI nR), .ref b1, .ref b2, .long now, .ref b3, .ref b4, .ref b5, .int (nI F.length), .ref b6, .ref b7, .int (nI el), .ref b8, .ref b9, .ref b10])), (b1, .inl (cJ, 512, .inr (.inl vs))), (b2, .inl (cZ, 512, .inl (fun j => bI (ac j)))), (b3, .inl (cI, 8192, .inl (fun j => nI (oc j)))), (b4, .inl (cJ, 8192, .inr (.inl tc))), (b5, .inl (cJ, 8192, .inr (.inl vc))), (b6, .inl (cJ, 16, .inr (.inl nv))), (b7, .inl (cJ, 16, .inr (.inl dl))), (b8, .inl (cJ, 8208, .inr (.inl rt))), (b9, .inl (cJ, 8208, .inr (.inl rv))), (b10, .inl (cZ, 8208, .inl (fun j => bI (mk j))))] := hD
        refine lv_iconst (v := 0) hx hb dX1_replace_78 (by decide) ?_
        refine tp_i (y := nI 0) nI_0.symm ?_
        refine lv_istore (lv' := [(4, .int (nI 0)), (0, .ref y), (1, .int (nI d)), (2, .int (nI n0)), (3, .int (nI F.length))]) hx hb dX1_replace_79 hl (by decide) rfl (fun ls hl => ?_)
        have hE0 : F = wot d zs := (List.append_nil F).symm.trans hE
        exact hloop2 n0 0 F oc tc vc H locs ls (by omega) hF (by rw [hE0]) hP hD hS (lv_sub hl [1, 2, 3, 0] rfl)
      · exact absurd c_4 (by omega)
    | cons z tl ih =>
      intro k F oc tc vc H locs ls hss hkl hFk hF hO hE hP hD hS hl
      obtain ⟨hk, hzk, htl⟩ := wz_drop hss
      obtain ⟨ez1, ez2, ez3⟩ := hZ k z hzk
      have hod := how z (List.mem_of_getElem? hzk)
      refine lv_iload hx hb dX1_replace_5 (lv_at hl 4 rfl) ?_
      refine lv_aload_n hx hb dX1_replace_7 rfl (lv_at hl 0 rfl) ?_
      refine va_get (D := (dC, dI)) (ci := 1) (v := .int (nI zs.length)) (C := RX1) (T := TX1) (N := 16) hx hb hall inX1 hown hK hP 0 rfl rfl 9 (by decide) (hall _ kw_332) (fun _ h9 => h9) rfl dX1_replace_8 ?_
      refine xc_ge (tgt := 73) hx hb (by omega) (by omega) dX1_replace_11 (by decide) (fun c_5 => ?_) (fun c_5 => ?_)
      · exact absurd c_5 (by omega)
      · refine lv_aload_n hx hb dX1_replace_14 rfl (lv_at hl 0 rfl) ?_
        refine va_get (D := (dC, dI)) (ci := 1) (v := .ref b3) (C := RX1) (T := TX1) (N := 16) hx hb hall inX1 hown hK hP 0 rfl rfl 6 (by decide) (hall _ kw_329) (fun _ h9 => h9) rfl dX1_replace_15 ?_
        refine lv_iload hx hb dX1_replace_18 (lv_at hl 4 rfl) ?_
        refine xa_iald hx hb hK hP 3 0 rfl rfl (by omega) (by omega) dX1_replace_20 ?_
        refine tp_i (y := nI z.1) (by rw [(hO k (Nat.le_refl k)).1, ez1]) ?_
        refine lv_iload_n hx hb dX1_replace_21 rfl (lv_at hl 1 rfl) ?_
        refine xc_eq (tgt := 67) hx hb (by omega) (by omega) dX1_replace_22 (by decide) (fun c_6 => ?_) (fun c_6 => ?_)
        · have c_A := c_6
          refine lv_iinc (v := nI (k + 1)) (lv' := [(4, .int (nI (k + 1))), (0, .ref y), (1, .int (nI d)), (2, .int (nI n0)), (3, .int (nI F.length))]) hx hb dX1_replace_67 hl (k := 4) rfl (nI_1 k) (by decide) rfl (fun ls hl => ?_)
          refine lv_goto (tgt := 5) hx hb dX1_replace_70 (by decide) ?_
          exact ih (k + 1) F oc tc vc H locs ls htl (by omega) (by omega) hF (fun j hj => hO j (by omega)) (by rw [← hE, wot_skip c_A]) hP hD hS (lv_sub hl [1, 2, 3, 4, 0] rfl)
        · have c_A := c_6
          refine lv_aload_n hx hb dX1_replace_25 rfl (lv_at hl 0 rfl) ?_
          refine va_get (D := (dC, dI)) (ci := 1) (v := .ref b3) (C := RX1) (T := TX1) (N := 16) hx hb hall inX1 hown hK hP 0 rfl rfl 6 (by decide) (hall _ kw_329) (fun _ h9 => h9) rfl dX1_replace_26 ?_
          refine lv_iload_n hx hb dX1_replace_29 rfl (lv_at hl 3 rfl) ?_
          refine lv_aload_n hx hb dX1_replace_30 rfl (lv_at hl 0 rfl) ?_
          refine va_get (D := (dC, dI)) (ci := 1) (v := .ref b3) (C := RX1) (T := TX1) (N := 16) hx hb hall inX1 hown hK hP 0 rfl rfl 6 (by decide) (hall _ kw_329) (fun _ h9 => h9) rfl dX1_replace_31 ?_
          refine lv_iload hx hb dX1_replace_34 (lv_at hl 4 rfl) ?_
          refine xa_iald hx hb hK hP 3 0 rfl rfl (by omega) (by omega) dX1_replace_36 ?_
          refine tp_i (y := nI z.1) (by rw [(hO k (Nat.le_refl k)).1, ez1]) ?_
          refine xa_iast hx hb hK hP hD hS 3 0 rfl rfl (by omega) (by omega) dX1_replace_37 (fun H locs hP hD hS => ?_)
          have hP : va_P (dC, dI) vwCl [(y, .inr (1, [.int (nI th), .int (nI nD), .int (nI nR), .ref b1, .ref b2, .long now, .ref b3, .ref b4, .ref b5, .int (nI zs.length), .ref b6, .ref b7, .int (nI el), .ref b8, .ref b9, .ref b10])), (b1, .inl (cJ, 512, .inr (.inl vs))), (b2, .inl (cZ, 512, .inl (fun j => bI (ac j)))), (b3, .inl (cI, 8192, .inl (upd (fun j => nI (oc j)) F.length (nI z.1)))), (b4, .inl (cJ, 8192, .inr (.inl tc))), (b5, .inl (cJ, 8192, .inr (.inl vc))), (b6, .inl (cJ, 16, .inr (.inl nv))), (b7, .inl (cJ, 16, .inr (.inl dl))), (b8, .inl (cJ, 8208, .inr (.inl rt))), (b9, .inl (cJ, 8208, .inr (.inl rv))), (b10, .inl (cZ, 8208, .inl (fun j => bI (mk j))))] H := hP
          have hD : va_D A [(y, .inr (1, [.int (nI th), .int (nI nD), .int (nI nR), .ref b1, .ref b2, .long now, .ref b3, .ref b4, .ref b5, .int (nI zs.length), .ref b6, .ref b7, .int (nI el), .ref b8, .ref b9, .ref b10])), (b1, .inl (cJ, 512, .inr (.inl vs))), (b2, .inl (cZ, 512, .inl (fun j => bI (ac j)))), (b3, .inl (cI, 8192, .inl (upd (fun j => nI (oc j)) F.length (nI z.1)))), (b4, .inl (cJ, 8192, .inr (.inl tc))), (b5, .inl (cJ, 8192, .inr (.inl vc))), (b6, .inl (cJ, 16, .inr (.inl nv))), (b7, .inl (cJ, 16, .inr (.inl dl))), (b8, .inl (cJ, 8208, .inr (.inl rt))), (b9, .inl (cJ, 8208, .inr (.inl rv))), (b10, .inl (cZ, 8208, .inl (fun j => bI (mk j))))] := hD
          rw [un_nI] at hP hD
          refine lv_aload_n hx hb dX1_replace_38 rfl (lv_at hl 0 rfl) ?_
          refine va_get (D := (dC, dI)) (ci := 1) (v := .ref b4) (C := RX1) (T := TX1) (N := 16) hx hb hall inX1 hown hK hP 0 rfl rfl 7 (by decide) (hall _ kw_330) (fun _ h9 => h9) rfl dX1_replace_39 ?_
          refine lv_iload_n hx hb dX1_replace_42 rfl (lv_at hl 3 rfl) ?_
          refine lv_aload_n hx hb dX1_replace_43 rfl (lv_at hl 0 rfl) ?_
          refine va_get (D := (dC, dI)) (ci := 1) (v := .ref b4) (C := RX1) (T := TX1) (N := 16) hx hb hall inX1 hown hK hP 0 rfl rfl 7 (by decide) (hall _ kw_330) (fun _ h9 => h9) rfl dX1_replace_44 ?_
          refine lv_iload hx hb dX1_replace_47 (lv_at hl 4 rfl) ?_
          refine xa_lald hx hb hK hP 4 1 rfl rfl (by omega) (by omega) dX1_replace_49 ?_
          refine tp_l (y := z.2.1) ((hO k (Nat.le_refl k)).2.1.trans ez2) ?_
          refine xa_last hx hb hK hP hD hS 4 1 rfl rfl (by omega) (by omega) dX1_replace_50 (fun H locs hP hD hS => ?_)
          have hP : va_P (dC, dI) vwCl [(y, .inr (1, [.int (nI th), .int (nI nD), .int (nI nR), .ref b1, .ref b2, .long now, .ref b3, .ref b4, .ref b5, .int (nI zs.length), .ref b6, .ref b7, .int (nI el), .ref b8, .ref b9, .ref b10])), (b1, .inl (cJ, 512, .inr (.inl vs))), (b2, .inl (cZ, 512, .inl (fun j => bI (ac j)))), (b3, .inl (cI, 8192, .inl (fun j => nI (un oc F.length z.1 j)))), (b4, .inl (cJ, 8192, .inr (.inl (vp_updL tc F.length z.2.1)))), (b5, .inl (cJ, 8192, .inr (.inl vc))), (b6, .inl (cJ, 16, .inr (.inl nv))), (b7, .inl (cJ, 16, .inr (.inl dl))), (b8, .inl (cJ, 8208, .inr (.inl rt))), (b9, .inl (cJ, 8208, .inr (.inl rv))), (b10, .inl (cZ, 8208, .inl (fun j => bI (mk j))))] H := hP
          have hD : va_D A [(y, .inr (1, [.int (nI th), .int (nI nD), .int (nI nR), .ref b1, .ref b2, .long now, .ref b3, .ref b4, .ref b5, .int (nI zs.length), .ref b6, .ref b7, .int (nI el), .ref b8, .ref b9, .ref b10])), (b1, .inl (cJ, 512, .inr (.inl vs))), (b2, .inl (cZ, 512, .inl (fun j => bI (ac j)))), (b3, .inl (cI, 8192, .inl (fun j => nI (un oc F.length z.1 j)))), (b4, .inl (cJ, 8192, .inr (.inl (vp_updL tc F.length z.2.1)))), (b5, .inl (cJ, 8192, .inr (.inl vc))), (b6, .inl (cJ, 16, .inr (.inl nv))), (b7, .inl (cJ, 16, .inr (.inl dl))), (b8, .inl (cJ, 8208, .inr (.inl rt))), (b9, .inl (cJ, 8208, .inr (.inl rv))), (b10, .inl (cZ, 8208, .inl (fun j => bI (mk j))))] := hD
          refine lv_aload_n hx hb dX1_replace_51 rfl (lv_at hl 0 rfl) ?_
          refine va_get (D := (dC, dI)) (ci := 1) (v := .ref b5) (C := RX1) (T := TX1) (N := 16) hx hb hall inX1 hown hK hP 0 rfl rfl 8 (by decide) (hall _ kw_331) (fun _ h9 => h9) rfl dX1_replace_52 ?_
          refine lv_iload_n hx hb dX1_replace_55 rfl (lv_at hl 3 rfl) ?_
          refine lv_aload_n hx hb dX1_replace_56 rfl (lv_at hl 0 rfl) ?_
          refine va_get (D := (dC, dI)) (ci := 1) (v := .ref b5) (C := RX1) (T := TX1) (N := 16) hx hb hall inX1 hown hK hP 0 rfl rfl 8 (by decide) (hall _ kw_331) (fun _ h9 => h9) rfl dX1_replace_57 ?_
          refine lv_iload hx hb dX1_replace_60 (lv_at hl 4 rfl) ?_
          refine xa_lald hx hb hK hP 5 1 rfl rfl (by omega) (by omega) dX1_replace_62 ?_
          refine tp_l (y := z.2.2) ((hO k (Nat.le_refl k)).2.2.trans ez3) ?_
          refine xa_last hx hb hK hP hD hS 5 1 rfl rfl (by omega) (by omega) dX1_replace_63 (fun H locs hP hD hS => ?_)
          have hP : va_P (dC, dI) vwCl [(y, .inr (1, [.int (nI th), .int (nI nD), .int (nI nR), .ref b1, .ref b2, .long now, .ref b3, .ref b4, .ref b5, .int (nI zs.length), .ref b6, .ref b7, .int (nI el), .ref b8, .ref b9, .ref b10])), (b1, .inl (cJ, 512, .inr (.inl vs))), (b2, .inl (cZ, 512, .inl (fun j => bI (ac j)))), (b3, .inl (cI, 8192, .inl (fun j => nI (un oc F.length z.1 j)))), (b4, .inl (cJ, 8192, .inr (.inl (vp_updL tc F.length z.2.1)))), (b5, .inl (cJ, 8192, .inr (.inl (vp_updL vc F.length z.2.2)))), (b6, .inl (cJ, 16, .inr (.inl nv))), (b7, .inl (cJ, 16, .inr (.inl dl))), (b8, .inl (cJ, 8208, .inr (.inl rt))), (b9, .inl (cJ, 8208, .inr (.inl rv))), (b10, .inl (cZ, 8208, .inl (fun j => bI (mk j))))] H := hP
          have hD : va_D A [(y, .inr (1, [.int (nI th), .int (nI nD), .int (nI nR), .ref b1, .ref b2, .long now, .ref b3, .ref b4, .ref b5, .int (nI zs.length), .ref b6, .ref b7, .int (nI el), .ref b8, .ref b9, .ref b10])), (b1, .inl (cJ, 512, .inr (.inl vs))), (b2, .inl (cZ, 512, .inl (fun j => bI (ac j)))), (b3, .inl (cI, 8192, .inl (fun j => nI (un oc F.length z.1 j)))), (b4, .inl (cJ, 8192, .inr (.inl (vp_updL tc F.length z.2.1)))), (b5, .inl (cJ, 8192, .inr (.inl (vp_updL vc F.length z.2.2)))), (b6, .inl (cJ, 16, .inr (.inl nv))), (b7, .inl (cJ, 16, .inr (.inl dl))), (b8, .inl (cJ, 8208, .inr (.inl rt))), (b9, .inl (cJ, 8208, .inr (.inl rv))), (b10, .inl (cZ, 8208, .inl (fun j => bI (mk j))))] := hD
          refine lv_iinc (v := nI (F.length + 1)) (lv' := [(3, .int (nI (F.length + 1))), (0, .ref y), (1, .int (nI d)), (2, .int (nI n0)), (4, .int (nI k))]) hx hb dX1_replace_64 hl (k := 3) rfl (nI_1 _) (by decide) rfl (fun ls hl => ?_)
          refine lv_iinc (v := nI (k + 1)) (lv' := [(4, .int (nI (k + 1))), (3, .int (nI (F.length + 1))), (0, .ref y), (1, .int (nI d)), (2, .int (nI n0))]) hx hb dX1_replace_67 hl (k := 4) rfl (nI_1 k) (by decide) rfl (fun ls hl => ?_)
          refine lv_goto (tgt := 5) hx hb dX1_replace_70 (by decide) ?_
          exact ih (k + 1) (F ++ [z]) _ _ _ H locs ls htl (by omega) (by rw [wz_len]; omega) (wz_push z hF) (fun j hj => ⟨(if_neg (by omega)).trans (hO j (by omega)).1, (pk_uLn (by omega)).trans (hO j (by omega)).2.1, (pk_uLn (by omega)).trans (hO j (by omega)).2.2⟩) (by rw [← hE, wot_take c_A, List.append_assoc]; rfl) hP hD hS (by rw [wz_len]; exact lv_sub hl [2, 3, 4, 1, 0] rfl)
  exact hloop zs 0 [] o mt mw s.heap [] ls rfl (by omega) (by exact Nat.zero_le _) (fun j e he => by cases he) (fun j _ => ⟨rfl, rfl, rfl⟩) rfl hP hD hS (lv_sub hl [2, 3, 4, 1, 0] rfl)
set_option maxHeartbeats 4000000 in
set_option maxRecDepth 100000 in
theorem m_start1 (l : Launch) (dC : Nat → ClassId) (dI : Nat → Nat → Nat) (y b1 b2 b3 b4 b5 b6 b7 b8 b9 b10 : Nat) (cI cJ cZ : ClassId) (th nD nR : Nat) (vs : Nat → Int64) (ac : Nat → Bool) (now : Int64) (o : Nat → Nat) (mt mw : Nat → Int64) (nv dl : Nat → Int64) (el : Nat) (rt rv : Nat → Int64) (mk : Nat → Bool) (zs : List ZT) (sz : Nat) (i : Int32) (hbad : i < 0 ∨ nI nD ≤ i) (t : Int64) : Met l yX1_start wsX1_start ({ frames := 1, cells := 0, slots := 0, locals := 21 }) (va_Pc [.ref y, .int i, .long t] (fun U => U.heap.size = sz ∧ va_P (dC, dI) vwCl (wm y b1 b2 b3 b4 b5 b6 b7 b8 b9 b10 cI cJ cZ th nD nR vs ac now o mt mw zs.length nv dl el rt rv mk) U.heap ∧ va_K (dC, dI) vwCl [(cI, .int), (cJ, .long), (cZ, .boolean)] U ∧ va_D (fun _ => True) (wm y b1 b2 b3 b4 b5 b6 b7 b8 b9 b10 cI cJ cZ th nD nR vs ac now o mt mw zs.length nv dl el rt rv mk))) (va_Qi (fun (v : Int32) (_ : Unit) => True) (fun _ t9 => va_P (dC, dI) vwCl (wm y b1 b2 b3 b4 b5 b6 b7 b8 b9 b10 cI cJ cZ 1 nD nR vs ac now o mt mw zs.length nv dl el rt rv mk) t9.heap ∧ va_K (dC, dI) vwCl [(cI, .int), (cJ, .long), (cZ, .boolean)] t9 ∧ va_D (va_A (wm y b1 b2 b3 b4 b5 b6 b7 b8 b9 b10 cI cJ cZ th nD nR vs ac now o mt mw zs.length nv dl el rt rv mk) sz) (wm y b1 b2 b3 b4 b5 b6 b7 b8 b9 b10 cI cJ cZ 1 nD nR vs ac now o mt mw zs.length nv dl el rt rv mk)) (va_A (wm y b1 b2 b3 b4 b5 b6 b7 b8 b9 b10 cI cJ cZ th nD nR vs ac now o mt mw zs.length nv dl el rt rv mk) sz)) 0 0 (va_A (wm y b1 b2 b3 b4 b5 b6 b7 b8 b9 b10 cI cJ cZ th nD nR vs ac now o mt mw zs.length nv dl el rt rv mk) sz) := by
  refine Met.ofW (cc := cX1_start) (maxL := 5) (ret := (some .int)) (by decide) rfl ?_
  intro p e s m args below meth c s₁ B hml hv
  obtain ⟨rfl, hsz, hP, hK, hD0⟩ := hv
  subst hsz
  have hD := hD0.self (sz := s.heap.size)
  generalize hAe : va_A (wm y b1 b2 b3 b4 b5 b6 b7 b8 b9 b10 cI cJ cZ th nD nR vs ac now o mt mw zs.length nv dl el rt rv mk) s.heap.size = A at hD ⊢
  have hA : ∀ q : Nat, s.heap.size ≤ q → A q := fun q h => by rw [← hAe]; exact Or.inr h
  have hS : va_S A s.heap s.heap [] := va_S.rf
  have hx := B.exec
  have hb := B.bytes
  have hr := B.returns
  have hts := atoms_spec (ws := wsX1_start) B.pre
  have hown : s.vm.findClass RX1 = some m.cls := findClass_of_methodNamed B.named
  have hlocks := B.notSynchronized
  have hall := fun (w : Cond) (h : w ∈ allw) => hts w (List.mem_cons_of_mem _ h)
  have hl := lv_entry ([.ref y, .int i, .long t]) (n := 5) (Nat.le_of_ble_eq_true rfl)
  rw [lg_entry_eq]
  generalize (lg_sl ([.ref y, .int i, .long t]) ++ List.replicate (5 - (lg_sl ([.ref y, .int i, .long t])).length) Slot.unset).toArray = ls at hl ⊢
  have hl : lv_has ls 5 [(0, .ref y), (1, .int i), (2, .long t)] := hl
  refine lv_aload_n hx hb dX1_start_0 rfl (lv_at hl 0 rfl) ?_
  refine lv_aload_n hx hb dX1_start_1 rfl (lv_at hl 0 rfl) ?_
  refine lv_iload_n hx hb dX1_start_2 rfl (lv_at hl 1 rfl) ?_
  refine vp_callSi (W.runV (As := [.int i]) (rest := [.ref y]) ⟨hx, hb, hml, hown, hall⟩ (m_none1 l dC dI y b1 b2 b3 b4 b5 b6 b7 b8 b9 b10 cI cJ cZ th nD nR vs ac now o mt mw nv dl el rt rv mk zs i hbad) (cwV 1 hall gX1_60 rfl rfl rfl (by decide +kernel) ⟨Nat.le_of_ble_eq_true rfl, Nat.le_of_ble_eq_true rfl⟩) ⟨xr_blind, va_recv hK hP (ci := 1) (q0 := 0) rfl rfl, fun U hU hW => ⟨rfl, by rw [hU]; exact hP, va_K.moved hW.alike hK⟩⟩ rfl rfl hl.1 rfl (lv_room (Nat.le_of_ble_eq_true rfl)) dX1_start_3 ⟨by first | exact Nat.zero_le _ | omega, by first | exact Nat.zero_le _ | omega⟩) (fun v_1 hv_2 => ?_)
  subst hv_2
  refine lv_if_eq (tgt := 13) hx hb dX1_start_6 (by decide) (fun c_3 => ?_) (fun c_3 => ?_)
  · exact absurd c_3 (by decide)
  · refine lv_iconst (v := 1) hx hb dX1_start_9 (by decide) ?_
    refine tp_i (y := nI 1) (by decide) ?_
    refine lv_goto (tgt := 14) hx hb dX1_start_10 (by decide) ?_
    refine va_put (D := (dC, dI)) (ci := 1) (v := .int (nI 1)) (ty := .int) (C := RX1) (T := TX1) (N := 16) hx hb hall inX1 tyX1 tyX1_ok nmX1 hown hK hP hD hS 0 rfl rfl 0 (by decide) (hall _ kw_323) (fun _ h9 => h9) rfl (by decide +kernel) rfl rfl (Nat.le_of_ble_eq_true rfl) dX1_start_14 (fun H locs hP hD hS => ?_)
    have hP : va_P (dC, dI) vwCl [(y, .inr (1, [.int (nI 1), .int (nI nD), .int (nI nR), .ref b1, .ref b2, .long now, .ref b3, .ref b4, .ref b5, .int (nI zs.length), .ref b6, .ref b7, .int (nI el), .ref b8, .ref b9, .ref b10])), (b1, .inl (cJ, 512, .inr (.inl vs))), (b2, .inl (cZ, 512, .inl (fun j => bI (ac j)))), (b3, .inl (cI, 8192, .inl (fun j => nI (o j)))), (b4, .inl (cJ, 8192, .inr (.inl mt))), (b5, .inl (cJ, 8192, .inr (.inl mw))), (b6, .inl (cJ, 16, .inr (.inl nv))), (b7, .inl (cJ, 16, .inr (.inl dl))), (b8, .inl (cJ, 8208, .inr (.inl rt))), (b9, .inl (cJ, 8208, .inr (.inl rv))), (b10, .inl (cZ, 8208, .inl (fun j => bI (mk j))))] H := hP
    have hD : va_D A [(y, .inr (1, [.int (nI 1), .int (nI nD), .int (nI nR), .ref b1, .ref b2, .long now, .ref b3, .ref b4, .ref b5, .int (nI zs.length), .ref b6, .ref b7, .int (nI el), .ref b8, .ref b9, .ref b10])), (b1, .inl (cJ, 512, .inr (.inl vs))), (b2, .inl (cZ, 512, .inl (fun j => bI (ac j)))), (b3, .inl (cI, 8192, .inl (fun j => nI (o j)))), (b4, .inl (cJ, 8192, .inr (.inl mt))), (b5, .inl (cJ, 8192, .inr (.inl mw))), (b6, .inl (cJ, 16, .inr (.inl nv))), (b7, .inl (cJ, 16, .inr (.inl dl))), (b8, .inl (cJ, 8208, .inr (.inl rt))), (b9, .inl (cJ, 8208, .inr (.inl rv))), (b10, .inl (cZ, 8208, .inl (fun j => bI (mk j))))] := hD
    refine lv_aload_n hx hb dX1_start_17 rfl (lv_at hl 0 rfl) ?_
    refine va_get (D := (dC, dI)) (ci := 1) (v := .int (nI 1)) (C := RX1) (T := TX1) (N := 16) hx hb hall inX1 hown hK hP 0 rfl rfl 0 (by decide) (hall _ kw_323) (fun _ h9 => h9) rfl dX1_start_18 ?_
    refine xz_le (tgt := 26) hx hb (by omega) dX1_start_21 (by decide) (fun c_4 => ?_) (fun c_4 => ?_)
    · exact absurd c_4 (by omega)
    · refine lv_iconst (v := 0) hx hb dX1_start_24 (by decide) ?_
      exact W.iret (v := 0) hx hb hr (fun t9 ht hW => ⟨⟨0, (), rfl, trivial, by rw [ht]; exact hP, va_K.moved hW.alike hK, hD⟩, hS.F ht⟩) hS.2.2 dX1_start_25
set_option maxHeartbeats 4000000 in
set_option maxRecDepth 100000 in
theorem m_start0 (l : Launch) (dC : Nat → ClassId) (dI : Nat → Nat → Nat) (y b1 b2 b3 b4 b5 b6 b7 b8 b9 b10 : Nat) (cI cJ cZ : ClassId) (th nD nR : Nat) (vs : Nat → Int64) (ac : Nat → Bool) (now : Int64) (o : Nat → Nat) (mt mw : Nat → Int64) (nv dl : Nat → Int64) (el : Nat) (rt rv : Nat → Int64) (mk : Nat → Bool) (zs : List ZT) (sz : Nat) (hI : wm_I nD nR el zs) (hZ : wz zs o mt mw) (d : Nat) (hd : d < nD) (t : Int64) : Met l yX1_start wsX1_start ({ frames := 1, cells := 0, slots := 0, locals := 24 }) (va_Pc [.ref y, .int (nI d), .long t] (fun U => U.heap.size = sz ∧ va_P (dC, dI) vwCl (wm y b1 b2 b3 b4 b5 b6 b7 b8 b9 b10 cI cJ cZ th nD nR vs ac now o mt mw zs.length nv dl el rt rv mk) U.heap ∧ va_K (dC, dI) vwCl [(cI, .int), (cJ, .long), (cZ, .boolean)] U ∧ va_D (fun _ => True) (wm y b1 b2 b3 b4 b5 b6 b7 b8 b9 b10 cI cJ cZ th nD nR vs ac now o mt mw zs.length nv dl el rt rv mk))) (va_Qi (fun (v : Int32) (_ : Unit) => v = nI (zs.length - (wot d zs).length)) (fun _ t9 => ∃ (o9 : Nat → Nat) (t8 w9 : Nat → Int64), wz (wot d zs) o9 t8 w9 ∧ va_P (dC, dI) vwCl (wm y b1 b2 b3 b4 b5 b6 b7 b8 b9 b10 cI cJ cZ 0 nD nR (vp_updL vs d t) ac now o9 t8 w9 ((wot d zs).length) nv dl el rt rv mk) t9.heap ∧ va_K (dC, dI) vwCl [(cI, .int), (cJ, .long), (cZ, .boolean)] t9 ∧ va_D (va_A (wm y b1 b2 b3 b4 b5 b6 b7 b8 b9 b10 cI cJ cZ th nD nR vs ac now o mt mw zs.length nv dl el rt rv mk) sz) (wm y b1 b2 b3 b4 b5 b6 b7 b8 b9 b10 cI cJ cZ 0 nD nR (vp_updL vs d t) ac now o9 t8 w9 ((wot d zs).length) nv dl el rt rv mk)) (va_A (wm y b1 b2 b3 b4 b5 b6 b7 b8 b9 b10 cI cJ cZ th nD nR vs ac now o mt mw zs.length nv dl el rt rv mk) sz)) 0 0 (va_A (wm y b1 b2 b3 b4 b5 b6 b7 b8 b9 b10 cI cJ cZ th nD nR vs ac now o mt mw zs.length nv dl el rt rv mk) sz) := by
  refine Met.ofW (cc := cX1_start) (maxL := 5) (ret := (some .int)) (by decide) rfl ?_
  intro p e s m args below meth c s₁ B hml hv
  obtain ⟨rfl, hsz, hP, hK, hD0⟩ := hv
  subst hsz
  have hD := hD0.self (sz := s.heap.size)
  generalize hAe : va_A (wm y b1 b2 b3 b4 b5 b6 b7 b8 b9 b10 cI cJ cZ th nD nR vs ac now o mt mw zs.length nv dl el rt rv mk) s.heap.size = A at hD ⊢
  have hA : ∀ q : Nat, s.heap.size ≤ q → A q := fun q h => by rw [← hAe]; exact Or.inr h
  have hS : va_S A s.heap s.heap [] := va_S.rf
  have hx := B.exec
  have hb := B.bytes
  have hr := B.returns
  have hts := atoms_spec (ws := wsX1_start) B.pre
  have hown : s.vm.findClass RX1 = some m.cls := findClass_of_methodNamed B.named
  have hlocks := B.notSynchronized
  have hall := fun (w : Cond) (h : w ∈ allw) => hts w (List.mem_cons_of_mem _ h)
  have hl := lv_entry ([.ref y, .int (nI d), .long t]) (n := 5) (Nat.le_of_ble_eq_true rfl)
  rw [lg_entry_eq]
  generalize (lg_sl ([.ref y, .int (nI d), .long t]) ++ List.replicate (5 - (lg_sl ([.ref y, .int (nI d), .long t])).length) Slot.unset).toArray = ls at hl ⊢
  have hl : lv_has ls 5 [(0, .ref y), (1, .int (nI d)), (2, .long t)] := hl
  have hI0 := hI
  obtain ⟨hnD1, hnD, hnR1, hnR, hzR, hel, how⟩ := hI
  have hwl := wot_len d zs
  have e9 : wot d zs ++ wmk d rt rv mk 0 0 = wot d zs := List.append_nil _
  refine lv_aload_n hx hb dX1_start_0 rfl (lv_at hl 0 rfl) ?_
  refine lv_aload_n hx hb dX1_start_1 rfl (lv_at hl 0 rfl) ?_
  refine lv_iload_n hx hb dX1_start_2 rfl (lv_at hl 1 rfl) ?_
  refine vp_callSi (W.runV (As := [.int (nI d)]) (rest := [.ref y]) ⟨hx, hb, hml, hown, hall⟩ (m_none0 l dC dI y b1 b2 b3 b4 b5 b6 b7 b8 b9 b10 cI cJ cZ th nD nR vs ac now o mt mw nv dl el rt rv mk zs hI0 hZ d hd) (cwV 1 hall gX1_60 rfl rfl rfl (by decide +kernel) ⟨Nat.le_of_ble_eq_true rfl, Nat.le_of_ble_eq_true rfl⟩) ⟨xr_blind, va_recv hK hP (ci := 1) (q0 := 0) rfl rfl, fun U hU hW => ⟨rfl, by rw [hU]; exact hP, va_K.moved hW.alike hK⟩⟩ rfl rfl hl.1 rfl (lv_room (Nat.le_of_ble_eq_true rfl)) dX1_start_3 ⟨by first | exact Nat.zero_le _ | omega, by first | exact Nat.zero_le _ | omega⟩) (fun v_1 hv_2 => ?_)
  subst hv_2
  refine lv_if_eq (tgt := 13) hx hb dX1_start_6 (by decide) (fun c_3 => ?_) (fun c_3 => ?_)
  · refine lv_iconst (v := 0) hx hb dX1_start_13 (by decide) ?_
    refine tp_i (y := nI 0) nI_0.symm ?_
    refine va_put (D := (dC, dI)) (ci := 1) (v := .int (nI 0)) (ty := .int) (C := RX1) (T := TX1) (N := 16) hx hb hall inX1 tyX1 tyX1_ok nmX1 hown hK hP hD hS 0 rfl rfl 0 (by decide) (hall _ kw_323) (fun _ h9 => h9) rfl (by decide +kernel) rfl rfl (Nat.le_of_ble_eq_true rfl) dX1_start_14 (fun H locs hP hD hS => ?_)
    have hP : va_P (dC, dI) vwCl [(y, .inr (1, [.int (nI 0), .int (nI nD), .int (nI nR), .ref b1, .ref b2, .long now, .ref b3, .ref b4, .ref b5, .int (nI zs.length), .ref b6, .ref b7, .int (nI el), .ref b8, .ref b9, .ref b10])), (b1, .inl (cJ, 512, .inr (.inl vs))), (b2, .inl (cZ, 512, .inl (fun j => bI (ac j)))), (b3, .inl (cI, 8192, .inl (fun j => nI (o j)))), (b4, .inl (cJ, 8192, .inr (.inl mt))), (b5, .inl (cJ, 8192, .inr (.inl mw))), (b6, .inl (cJ, 16, .inr (.inl nv))), (b7, .inl (cJ, 16, .inr (.inl dl))), (b8, .inl (cJ, 8208, .inr (.inl rt))), (b9, .inl (cJ, 8208, .inr (.inl rv))), (b10, .inl (cZ, 8208, .inl (fun j => bI (mk j))))] H := hP
    have hD : va_D A [(y, .inr (1, [.int (nI 0), .int (nI nD), .int (nI nR), .ref b1, .ref b2, .long now, .ref b3, .ref b4, .ref b5, .int (nI zs.length), .ref b6, .ref b7, .int (nI el), .ref b8, .ref b9, .ref b10])), (b1, .inl (cJ, 512, .inr (.inl vs))), (b2, .inl (cZ, 512, .inl (fun j => bI (ac j)))), (b3, .inl (cI, 8192, .inl (fun j => nI (o j)))), (b4, .inl (cJ, 8192, .inr (.inl mt))), (b5, .inl (cJ, 8192, .inr (.inl mw))), (b6, .inl (cJ, 16, .inr (.inl nv))), (b7, .inl (cJ, 16, .inr (.inl dl))), (b8, .inl (cJ, 8208, .inr (.inl rt))), (b9, .inl (cJ, 8208, .inr (.inl rv))), (b10, .inl (cZ, 8208, .inl (fun j => bI (mk j))))] := hD
    refine lv_aload_n hx hb dX1_start_17 rfl (lv_at hl 0 rfl) ?_
    refine va_get (D := (dC, dI)) (ci := 1) (v := .int (nI 0)) (C := RX1) (T := TX1) (N := 16) hx hb hall inX1 hown hK hP 0 rfl rfl 0 (by decide) (hall _ kw_323) (fun _ h9 => h9) rfl dX1_start_18 ?_
    refine xz_le (tgt := 26) hx hb (by omega) dX1_start_21 (by decide) (fun c_4 => ?_) (fun c_4 => ?_)
    · refine lv_aload_n hx hb dX1_start_26 rfl (lv_at hl 0 rfl) ?_
      refine va_get (D := (dC, dI)) (ci := 1) (v := .int (nI zs.length)) (C := RX1) (T := TX1) (N := 16) hx hb hall inX1 hown hK hP 0 rfl rfl 9 (by decide) (hall _ kw_332) (fun _ h9 => h9) rfl dX1_start_27 ?_
      refine lv_istore (lv' := [(4, .int (nI zs.length)), (0, .ref y), (1, .int (nI d)), (2, .long t)]) hx hb dX1_start_30 hl (by decide) rfl (fun ls hl => ?_)
      refine lv_aload_n hx hb dX1_start_32 rfl (lv_at hl 1 rfl) ?_
      refine lv_iload_n hx hb dX1_start_33 rfl (lv_at hl 2 rfl) ?_
      refine lv_iconst (v := 0) hx hb dX1_start_34 (by decide) ?_
      refine tp_i (y := nI 0) nI_0.symm ?_
      have hFc := va_free (wc := [(y, .inr (1, [.int (nI 0), .int (nI nD), .int (nI nR), .ref b1, .ref b2, .long now, .ref b3, .ref b4, .ref b5, .int (nI zs.length), .ref b6, .ref b7, .int (nI el), .ref b8, .ref b9, .ref b10])), (b1, .inl (cJ, 512, .inr (.inl vs))), (b2, .inl (cZ, 512, .inl (fun j => bI (ac j)))), (b3, .inl (cI, 8192, .inl (fun j => nI (o j)))), (b4, .inl (cJ, 8192, .inr (.inl mt))), (b5, .inl (cJ, 8192, .inr (.inl mw))), (b6, .inl (cJ, 16, .inr (.inl nv))), (b7, .inl (cJ, 16, .inr (.inl dl))), (b8, .inl (cJ, 8208, .inr (.inl rt))), (b9, .inl (cJ, 8208, .inr (.inl rv))), (b10, .inl (cZ, 8208, .inl (fun j => bI (mk j))))]) hD hS hA [0, 1, 2, 3, 4, 5, 6, 7, 8, 9, 10] rfl
      refine va_callv (va_runV (As := [.int (nI d), .int (nI 0)]) (rest := []) ⟨hx, hb, hml, hown, hall⟩ (m_replace l dC dI y b1 b2 b3 b4 b5 b6 b7 b8 b9 b10 cI cJ cZ 0 nD nR vs ac now o mt mw nv dl el rt rv mk zs H.size hI0 hZ d hd 0 (by omega) (by rw [e9]; omega)) (cwV 2 hall gX1_72 rfl rfl rfl (by decide +kernel) ⟨Nat.le_of_ble_eq_true rfl, Nat.le_of_ble_eq_true rfl⟩) ⟨xu_blind, va_recv hK hP (ci := 1) (q0 := 0) rfl rfl, fun U hU hW => ⟨rfl, by rw [hU], by rw [hU]; exact hP, va_K.moved hW.alike hK, hD.weaken (fun _ _ _ _ => trivial)⟩⟩ rfl rfl hl.1 rfl (lv_room (Nat.le_of_ble_eq_true rfl)) dX1_start_35 ⟨Nat.le_of_ble_eq_true rfl, Nat.le_of_ble_eq_true rfl⟩) hS (fun q _ h => hFc q h) hFc (fun u9 t9 H1 locs ht9 hvm hw9 hB hz1 hk1 hS => ?_)
      obtain ⟨o9, t8, w9, hZ9, hP1, hK1, hD1⟩ := hB
      rw [ht9] at hP1
      obtain ⟨hP, hD⟩ := va_join (wr := []) (w1 := [(y, .inr (1, [.int (nI 0), .int (nI nD), .int (nI nR), .ref b1, .ref b2, .long now, .ref b3, .ref b4, .ref b5, .int (nI ((wot d zs ++ wmk d rt rv mk 0 0).length)), .ref b6, .ref b7, .int (nI el), .ref b8, .ref b9, .ref b10])), (b1, .inl (cJ, 512, .inr (.inl vs))), (b2, .inl (cZ, 512, .inl (fun j => bI (ac j)))), (b3, .inl (cI, 8192, .inl (fun j => nI (o9 j)))), (b4, .inl (cJ, 8192, .inr (.inl t8))), (b5, .inl (cJ, 8192, .inr (.inl w9))), (b6, .inl (cJ, 16, .inr (.inl nv))), (b7, .inl (cJ, 16, .inr (.inl dl))), (b8, .inl (cJ, 8208, .inr (.inl rt))), (b9, .inl (cJ, 8208, .inr (.inl rv))), (b10, .inl (cZ, 8208, .inl (fun j => bI (mk j))))]) hP hD [0, 1, 2, 3, 4, 5, 6, 7, 8, 9, 10] [] rfl rfl (by decide) (by decide) hk1 hFc hP1 hD1
      generalize H1 = H at hP hS ⊢
      have hP : va_P (dC, dI) vwCl [(y, .inr (1, [.int (nI 0), .int (nI nD), .int (nI nR), .ref b1, .ref b2, .long now, .ref b3, .ref b4, .ref b5, .int (nI ((wot d zs ++ wmk d rt rv mk 0 0).length)), .ref b6, .ref b7, .int (nI el), .ref b8, .ref b9, .ref b10])), (b1, .inl (cJ, 512, .inr (.inl vs))), (b2, .inl (cZ, 512, .inl (fun j => bI (ac j)))), (b3, .inl (cI, 8192, .inl (fun j => nI (o9 j)))), (b4, .inl (cJ, 8192, .inr (.inl t8))), (b5, .inl (cJ, 8192, .inr (.inl w9))), (b6, .inl (cJ, 16, .inr (.inl nv))), (b7, .inl (cJ, 16, .inr (.inl dl))), (b8, .inl (cJ, 8208, .inr (.inl rt))), (b9, .inl (cJ, 8208, .inr (.inl rv))), (b10, .inl (cZ, 8208, .inl (fun j => bI (mk j))))] H := hP
      have hD : va_D A [(y, .inr (1, [.int (nI 0), .int (nI nD), .int (nI nR), .ref b1, .ref b2, .long now, .ref b3, .ref b4, .ref b5, .int (nI ((wot d zs ++ wmk d rt rv mk 0 0).length)), .ref b6, .ref b7, .int (nI el), .ref b8, .ref b9, .ref b10])), (b1, .inl (cJ, 512, .inr (.inl vs))), (b2, .inl (cZ, 512, .inl (fun j => bI (ac j)))), (b3, .inl (cI, 8192, .inl (fun j => nI (o9 j)))), (b4, .inl (cJ, 8192, .inr (.inl t8))), (b5, .inl (cJ, 8192, .inr (.inl w9))), (b6, .inl (cJ, 16, .inr (.inl nv))), (b7, .inl (cJ, 16, .inr (.inl dl))), (b8, .inl (cJ, 8208, .inr (.inl rt))), (b9, .inl (cJ, 8208, .inr (.inl rv))), (b10, .inl (cZ, 8208, .inl (fun j => bI (mk j))))] := hD
      rw [e9] at hZ9 hP hD
      refine lv_aload_n hx hb dX1_start_38 rfl (lv_at hl 1 rfl) ?_
      refine va_get (D := (dC, dI)) (ci := 1) (v := .ref b1) (C := RX1) (T := TX1) (N := 16) hx hb hall inX1 hown hK hP 0 rfl rfl 3 (by decide) (hall _ kw_326) (fun _ h9 => h9) rfl dX1_start_39 ?_
      refine lv_iload_n hx hb dX1_start_42 rfl (lv_at hl 2 rfl) ?_
      refine lv_lload_n hx hb dX1_start_43 rfl (lv_at hl 3 rfl) ?_
      refine xa_last hx hb hK hP hD hS 1 1 rfl rfl (by omega) (by omega) dX1_start_44 (fun H locs hP hD hS => ?_)
      have hP : va_P (dC, dI) vwCl [(y, .inr (1, [.int (nI 0), .int (nI nD), .int (nI nR), .ref b1, .ref b2, .long now, .ref b3, .ref b4, .ref b5, .int (nI (wot d zs).length), .ref b6, .ref b7, .int (nI el), .ref b8, .ref b9, .ref b10])), (b1, .inl (cJ, 512, .inr (.inl (vp_updL vs d t)))), (b2, .inl (cZ, 512, .inl (fun j => bI (ac j)))), (b3, .inl (cI, 8192, .inl (fun j => nI (o9 j)))), (b4, .inl (cJ, 8192, .inr (.inl t8))), (b5, .inl (cJ, 8192, .inr (.inl w9))), (b6, .inl (cJ, 16, .inr (.inl nv))), (b7, .inl (cJ, 16, .inr (.inl dl))), (b8, .inl (cJ, 8208, .inr (.inl rt))), (b9, .inl (cJ, 8208, .inr (.inl rv))), (b10, .inl (cZ, 8208, .inl (fun j => bI (mk j))))] H := hP
      have hD : va_D A [(y, .inr (1, [.int (nI 0), .int (nI nD), .int (nI nR), .ref b1, .ref b2, .long now, .ref b3, .ref b4, .ref b5, .int (nI (wot d zs).length), .ref b6, .ref b7, .int (nI el), .ref b8, .ref b9, .ref b10])), (b1, .inl (cJ, 512, .inr (.inl (vp_updL vs d t)))), (b2, .inl (cZ, 512, .inl (fun j => bI (ac j)))), (b3, .inl (cI, 8192, .inl (fun j => nI (o9 j)))), (b4, .inl (cJ, 8192, .inr (.inl t8))), (b5, .inl (cJ, 8192, .inr (.inl w9))), (b6, .inl (cJ, 16, .inr (.inl nv))), (b7, .inl (cJ, 16, .inr (.inl dl))), (b8, .inl (cJ, 8208, .inr (.inl rt))), (b9, .inl (cJ, 8208, .inr (.inl rv))), (b10, .inl (cZ, 8208, .inl (fun j => bI (mk j))))] := hD
      refine lv_iload hx hb dX1_start_45 (lv_at hl 0 rfl) ?_
      refine lv_aload_n hx hb dX1_start_47 rfl (lv_at hl 1 rfl) ?_
      refine va_get (D := (dC, dI)) (ci := 1) (v := .int (nI (wot d zs).length)) (C := RX1) (T := TX1) (N := 16) hx hb hall inX1 hown hK hP 0 rfl rfl 9 (by decide) (hall _ kw_332) (fun _ h9 => h9) rfl dX1_start_48 ?_
      refine lv_isub hx hb dX1_start_51 ?_
      refine tp_i (y := nI (zs.length - (wot d zs).length)) (pk_sub hwl) ?_
      exact W.iret (v := nI (zs.length - (wot d zs).length)) hx hb hr (fun t9 ht hW => ⟨⟨nI (zs.length - (wot d zs).length), (), rfl, rfl, o9, t8, w9, hZ9, by rw [ht]; exact hP, va_K.moved hW.alike hK, hD⟩, hS.F ht⟩) hS.2.2 dX1_start_52
    · exact absurd c_4 (by omega)
  · exact absurd rfl c_3
set_option maxHeartbeats 4000000 in
set_option maxRecDepth 100000 in
theorem m_advance1 (l : Launch) (dC : Nat → ClassId) (dI : Nat → Nat → Nat) (y b1 b2 b3 b4 b5 b6 b7 b8 b9 b10 : Nat) (cI cJ cZ : ClassId) (th nD nR : Nat) (vs : Nat → Int64) (ac : Nat → Bool) (now : Int64) (o : Nat → Nat) (mt mw : Nat → Int64) (nv dl : Nat → Int64) (el : Nat) (rt rv : Nat → Int64) (mk : Nat → Bool) (zs : List ZT) (sz : Nat) (t : Int64) (hbad : t < now ∨ 1152921504606846976 < t) : Met l yX1_advance wsX1_advance ({ frames := 0, cells := 0, slots := 0, locals := 0 }) (va_Pc [.ref y, .long t] (fun U => U.heap.size = sz ∧ va_P (dC, dI) vwCl (wm y b1 b2 b3 b4 b5 b6 b7 b8 b9 b10 cI cJ cZ th nD nR vs ac now o mt mw zs.length nv dl el rt rv mk) U.heap ∧ va_K (dC, dI) vwCl [(cI, .int), (cJ, .long), (cZ, .boolean)] U ∧ va_D (fun _ => True) (wm y b1 b2 b3 b4 b5 b6 b7 b8 b9 b10 cI cJ cZ th nD nR vs ac now o mt mw zs.length nv dl el rt rv mk))) (va_Qi (fun (v : Int32) (_ : Unit) => True) (fun _ t9 => va_P (dC, dI) vwCl (wm y b1 b2 b3 b4 b5 b6 b7 b8 b9 b10 cI cJ cZ 1 nD nR vs ac now o mt mw zs.length nv dl el rt rv mk) t9.heap ∧ va_K (dC, dI) vwCl [(cI, .int), (cJ, .long), (cZ, .boolean)] t9 ∧ va_D (va_A (wm y b1 b2 b3 b4 b5 b6 b7 b8 b9 b10 cI cJ cZ th nD nR vs ac now o mt mw zs.length nv dl el rt rv mk) sz) (wm y b1 b2 b3 b4 b5 b6 b7 b8 b9 b10 cI cJ cZ 1 nD nR vs ac now o mt mw zs.length nv dl el rt rv mk)) (va_A (wm y b1 b2 b3 b4 b5 b6 b7 b8 b9 b10 cI cJ cZ th nD nR vs ac now o mt mw zs.length nv dl el rt rv mk) sz)) 0 0 (va_A (wm y b1 b2 b3 b4 b5 b6 b7 b8 b9 b10 cI cJ cZ th nD nR vs ac now o mt mw zs.length nv dl el rt rv mk) sz) := by
  refine Met.ofW (cc := cX1_advance) (maxL := 6) (ret := (some .int)) (by decide) rfl ?_
  intro p e s m args below meth c s₁ B hml hv
  obtain ⟨rfl, hsz, hP, hK, hD0⟩ := hv
  subst hsz
  have hD := hD0.self (sz := s.heap.size)
  generalize hAe : va_A (wm y b1 b2 b3 b4 b5 b6 b7 b8 b9 b10 cI cJ cZ th nD nR vs ac now o mt mw zs.length nv dl el rt rv mk) s.heap.size = A at hD ⊢
  have hA : ∀ q : Nat, s.heap.size ≤ q → A q := fun q h => by rw [← hAe]; exact Or.inr h
  have hS : va_S A s.heap s.heap [] := va_S.rf
  have hx := B.exec
  have hb := B.bytes
  have hr := B.returns
  have hts := atoms_spec (ws := wsX1_advance) B.pre
  have hown : s.vm.findClass RX1 = some m.cls := findClass_of_methodNamed B.named
  have hlocks := B.notSynchronized
  have hall := fun (w : Cond) (h : w ∈ allw) => hts w (List.mem_cons_of_mem _ h)
  have hl := lv_entry ([.ref y, .long t]) (n := 6) (Nat.le_of_ble_eq_true rfl)
  rw [lg_entry_eq]
  generalize (lg_sl ([.ref y, .long t]) ++ List.replicate (6 - (lg_sl ([.ref y, .long t])).length) Slot.unset).toArray = ls at hl ⊢
  have hl : lv_has ls 6 [(0, .ref y), (1, .long t)] := hl
  refine lv_aload_n hx hb dX1_advance_0 rfl (lv_at hl 0 rfl) ?_
  refine lv_lload_n hx hb dX1_advance_1 rfl (lv_at hl 1 rfl) ?_
  refine lv_aload_n hx hb dX1_advance_2 rfl (lv_at hl 0 rfl) ?_
  refine va_get (D := (dC, dI)) (ci := 1) (v := .long now) (C := RX1) (T := TX1) (N := 16) hx hb hall inX1 hown hK hP 0 rfl rfl 5 (by decide) (hall _ kw_328) (fun _ h9 => h9) rfl dX1_advance_3 ?_
  refine xl_lt (tgt := 18) hx hb dX1_advance_6 dX1_advance_7 (by decide) (fun c_1 => ?_) (fun c_1 => ?_)
  · have c_A := c_1
    refine lv_iconst (v := 1) hx hb dX1_advance_18 (by decide) ?_
    refine tp_i (y := nI 1) (by decide) ?_
    refine lv_goto (tgt := 23) hx hb dX1_advance_19 (by decide) ?_
    refine va_put (D := (dC, dI)) (ci := 1) (v := .int (nI 1)) (ty := .int) (C := RX1) (T := TX1) (N := 16) hx hb hall inX1 tyX1 tyX1_ok nmX1 hown hK hP hD hS 0 rfl rfl 0 (by decide) (hall _ kw_323) (fun _ h9 => h9) rfl (by decide +kernel) rfl rfl (Nat.le_of_ble_eq_true rfl) dX1_advance_23 (fun H locs hP hD hS => ?_)
    have hP : va_P (dC, dI) vwCl [(y, .inr (1, [.int (nI 1), .int (nI nD), .int (nI nR), .ref b1, .ref b2, .long now, .ref b3, .ref b4, .ref b5, .int (nI zs.length), .ref b6, .ref b7, .int (nI el), .ref b8, .ref b9, .ref b10])), (b1, .inl (cJ, 512, .inr (.inl vs))), (b2, .inl (cZ, 512, .inl (fun j => bI (ac j)))), (b3, .inl (cI, 8192, .inl (fun j => nI (o j)))), (b4, .inl (cJ, 8192, .inr (.inl mt))), (b5, .inl (cJ, 8192, .inr (.inl mw))), (b6, .inl (cJ, 16, .inr (.inl nv))), (b7, .inl (cJ, 16, .inr (.inl dl))), (b8, .inl (cJ, 8208, .inr (.inl rt))), (b9, .inl (cJ, 8208, .inr (.inl rv))), (b10, .inl (cZ, 8208, .inl (fun j => bI (mk j))))] H := hP
    have hD : va_D A [(y, .inr (1, [.int (nI 1), .int (nI nD), .int (nI nR), .ref b1, .ref b2, .long now, .ref b3, .ref b4, .ref b5, .int (nI zs.length), .ref b6, .ref b7, .int (nI el), .ref b8, .ref b9, .ref b10])), (b1, .inl (cJ, 512, .inr (.inl vs))), (b2, .inl (cZ, 512, .inl (fun j => bI (ac j)))), (b3, .inl (cI, 8192, .inl (fun j => nI (o j)))), (b4, .inl (cJ, 8192, .inr (.inl mt))), (b5, .inl (cJ, 8192, .inr (.inl mw))), (b6, .inl (cJ, 16, .inr (.inl nv))), (b7, .inl (cJ, 16, .inr (.inl dl))), (b8, .inl (cJ, 8208, .inr (.inl rt))), (b9, .inl (cJ, 8208, .inr (.inl rv))), (b10, .inl (cZ, 8208, .inl (fun j => bI (mk j))))] := hD
    refine lv_aload_n hx hb dX1_advance_26 rfl (lv_at hl 0 rfl) ?_
    refine va_get (D := (dC, dI)) (ci := 1) (v := .int (nI 1)) (C := RX1) (T := TX1) (N := 16) hx hb hall inX1 hown hK hP 0 rfl rfl 0 (by decide) (hall _ kw_323) (fun _ h9 => h9) rfl dX1_advance_27 ?_
    refine xz_le (tgt := 35) hx hb (by omega) dX1_advance_30 (by decide) (fun c_2 => ?_) (fun c_2 => ?_)
    · exact absurd c_2 (by omega)
    · refine lv_iconst (v := 0) hx hb dX1_advance_33 (by decide) ?_
      exact W.iret (v := 0) hx hb hr (fun t9 ht hW => ⟨⟨0, (), rfl, trivial, by rw [ht]; exact hP, va_K.moved hW.alike hK, hD⟩, hS.F ht⟩) hS.2.2 dX1_advance_34
  · have c_A := c_1
    refine lv_lload_n hx hb dX1_advance_10 rfl (lv_at hl 1 rfl) ?_
    refine lv_ldc2 (v := 1152921504606846976) hx hb hown (hall _ kw_381) dX1_advance_11 ?_
    refine xl_le (tgt := 22) hx hb dX1_advance_14 dX1_advance_15 (by decide) (fun c_3 => ?_) (fun c_3 => ?_)
    · exact absurd hbad (fun q => q.elim c_A (fun q => absurd q (Int64.not_lt.mpr c_3)))
    · refine lv_iconst (v := 1) hx hb dX1_advance_18 (by decide) ?_
      refine tp_i (y := nI 1) (by decide) ?_
      refine lv_goto (tgt := 23) hx hb dX1_advance_19 (by decide) ?_
      refine va_put (D := (dC, dI)) (ci := 1) (v := .int (nI 1)) (ty := .int) (C := RX1) (T := TX1) (N := 16) hx hb hall inX1 tyX1 tyX1_ok nmX1 hown hK hP hD hS 0 rfl rfl 0 (by decide) (hall _ kw_323) (fun _ h9 => h9) rfl (by decide +kernel) rfl rfl (Nat.le_of_ble_eq_true rfl) dX1_advance_23 (fun H locs hP hD hS => ?_)
      have hP : va_P (dC, dI) vwCl [(y, .inr (1, [.int (nI 1), .int (nI nD), .int (nI nR), .ref b1, .ref b2, .long now, .ref b3, .ref b4, .ref b5, .int (nI zs.length), .ref b6, .ref b7, .int (nI el), .ref b8, .ref b9, .ref b10])), (b1, .inl (cJ, 512, .inr (.inl vs))), (b2, .inl (cZ, 512, .inl (fun j => bI (ac j)))), (b3, .inl (cI, 8192, .inl (fun j => nI (o j)))), (b4, .inl (cJ, 8192, .inr (.inl mt))), (b5, .inl (cJ, 8192, .inr (.inl mw))), (b6, .inl (cJ, 16, .inr (.inl nv))), (b7, .inl (cJ, 16, .inr (.inl dl))), (b8, .inl (cJ, 8208, .inr (.inl rt))), (b9, .inl (cJ, 8208, .inr (.inl rv))), (b10, .inl (cZ, 8208, .inl (fun j => bI (mk j))))] H := hP
      have hD : va_D A [(y, .inr (1, [.int (nI 1), .int (nI nD), .int (nI nR), .ref b1, .ref b2, .long now, .ref b3, .ref b4, .ref b5, .int (nI zs.length), .ref b6, .ref b7, .int (nI el), .ref b8, .ref b9, .ref b10])), (b1, .inl (cJ, 512, .inr (.inl vs))), (b2, .inl (cZ, 512, .inl (fun j => bI (ac j)))), (b3, .inl (cI, 8192, .inl (fun j => nI (o j)))), (b4, .inl (cJ, 8192, .inr (.inl mt))), (b5, .inl (cJ, 8192, .inr (.inl mw))), (b6, .inl (cJ, 16, .inr (.inl nv))), (b7, .inl (cJ, 16, .inr (.inl dl))), (b8, .inl (cJ, 8208, .inr (.inl rt))), (b9, .inl (cJ, 8208, .inr (.inl rv))), (b10, .inl (cZ, 8208, .inl (fun j => bI (mk j))))] := hD
      refine lv_aload_n hx hb dX1_advance_26 rfl (lv_at hl 0 rfl) ?_
      refine va_get (D := (dC, dI)) (ci := 1) (v := .int (nI 1)) (C := RX1) (T := TX1) (N := 16) hx hb hall inX1 hown hK hP 0 rfl rfl 0 (by decide) (hall _ kw_323) (fun _ h9 => h9) rfl dX1_advance_27 ?_
      refine xz_le (tgt := 35) hx hb (by omega) dX1_advance_30 (by decide) (fun c_4 => ?_) (fun c_4 => ?_)
      · exact absurd c_4 (by omega)
      · refine lv_iconst (v := 0) hx hb dX1_advance_33 (by decide) ?_
        exact W.iret (v := 0) hx hb hr (fun t9 ht hW => ⟨⟨0, (), rfl, trivial, by rw [ht]; exact hP, va_K.moved hW.alike hK, hD⟩, hS.F ht⟩) hS.2.2 dX1_advance_34
set_option maxHeartbeats 4000000 in
set_option maxRecDepth 100000 in
theorem m_advance0 (l : Launch) (dC : Nat → ClassId) (dI : Nat → Nat → Nat) (y b1 b2 b3 b4 b5 b6 b7 b8 b9 b10 : Nat) (cI cJ cZ : ClassId) (th nD nR : Nat) (vs : Nat → Int64) (ac : Nat → Bool) (now : Int64) (o : Nat → Nat) (mt mw : Nat → Int64) (nv dl : Nat → Int64) (el : Nat) (rt rv : Nat → Int64) (mk : Nat → Bool) (zs : List ZT) (sz : Nat) (hI : wm_I nD nR el zs) (hZ : wz zs o mt mw) (t : Int64) (h1 : ¬ t < now) (h2 : ¬ 1152921504606846976 < t) : Met l yX1_advance wsX1_advance ({ frames := 0, cells := 0, slots := 0, locals := 0 }) (va_Pc [.ref y, .long t] (fun U => U.heap.size = sz ∧ va_P (dC, dI) vwCl (wm y b1 b2 b3 b4 b5 b6 b7 b8 b9 b10 cI cJ cZ th nD nR vs ac now o mt mw zs.length nv dl el rt rv mk) U.heap ∧ va_K (dC, dI) vwCl [(cI, .int), (cJ, .long), (cZ, .boolean)] U ∧ va_D (fun _ => True) (wm y b1 b2 b3 b4 b5 b6 b7 b8 b9 b10 cI cJ cZ th nD nR vs ac now o mt mw zs.length nv dl el rt rv mk))) (va_Qi (fun (v : Int32) (_ : Unit) => v = nI (wcn (was t zs (wfl ac nD)) nD 0)) (fun _ t9 => ∃ (o9 : Nat → Nat) (t8 w9 : Nat → Int64), wz (wla t zs) o9 t8 w9 ∧ va_P (dC, dI) vwCl (wm y b1 b2 b3 b4 b5 b6 b7 b8 b9 b10 cI cJ cZ 0 nD nR (wvs t zs vs) (was t zs (wfl ac nD)) t o9 t8 w9 ((wla t zs).length) nv dl el rt rv mk) t9.heap ∧ va_K (dC, dI) vwCl [(cI, .int), (cJ, .long), (cZ, .boolean)] t9 ∧ va_D (va_A (wm y b1 b2 b3 b4 b5 b6 b7 b8 b9 b10 cI cJ cZ th nD nR vs ac now o mt mw zs.length nv dl el rt rv mk) sz) (wm y b1 b2 b3 b4 b5 b6 b7 b8 b9 b10 cI cJ cZ 0 nD nR (wvs t zs vs) (was t zs (wfl ac nD)) t o9 t8 w9 ((wla t zs).length) nv dl el rt rv mk)) (va_A (wm y b1 b2 b3 b4 b5 b6 b7 b8 b9 b10 cI cJ cZ th nD nR vs ac now o mt mw zs.length nv dl el rt rv mk) sz)) 0 0 (va_A (wm y b1 b2 b3 b4 b5 b6 b7 b8 b9 b10 cI cJ cZ th nD nR vs ac now o mt mw zs.length nv dl el rt rv mk) sz) := by
  refine Met.ofW (cc := cX1_advance) (maxL := 6) (ret := (some .int)) (by decide) rfl ?_
  intro p e s m args below meth c s₁ B hml hv
  obtain ⟨rfl, hsz, hP, hK, hD0⟩ := hv
  subst hsz
  have hD := hD0.self (sz := s.heap.size)
  generalize hAe : va_A (wm y b1 b2 b3 b4 b5 b6 b7 b8 b9 b10 cI cJ cZ th nD nR vs ac now o mt mw zs.length nv dl el rt rv mk) s.heap.size = A at hD ⊢
  have hA : ∀ q : Nat, s.heap.size ≤ q → A q := fun q h => by rw [← hAe]; exact Or.inr h
  have hS : va_S A s.heap s.heap [] := va_S.rf
  have hx := B.exec
  have hb := B.bytes
  have hr := B.returns
  have hts := atoms_spec (ws := wsX1_advance) B.pre
  have hown : s.vm.findClass RX1 = some m.cls := findClass_of_methodNamed B.named
  have hlocks := B.notSynchronized
  have hall := fun (w : Cond) (h : w ∈ allw) => hts w (List.mem_cons_of_mem _ h)
  have hl := lv_entry ([.ref y, .long t]) (n := 6) (Nat.le_of_ble_eq_true rfl)
  rw [lg_entry_eq]
  generalize (lg_sl ([.ref y, .long t]) ++ List.replicate (6 - (lg_sl ([.ref y, .long t])).length) Slot.unset).toArray = ls at hl ⊢
  have hl : lv_has ls 6 [(0, .ref y), (1, .long t)] := hl
  obtain ⟨hnD1, hnD, hnR1, hnR, hzR, hel, how⟩ := hI
  refine lv_aload_n hx hb dX1_advance_0 rfl (lv_at hl 0 rfl) ?_
  refine lv_lload_n hx hb dX1_advance_1 rfl (lv_at hl 1 rfl) ?_
  refine lv_aload_n hx hb dX1_advance_2 rfl (lv_at hl 0 rfl) ?_
  refine va_get (D := (dC, dI)) (ci := 1) (v := .long now) (C := RX1) (T := TX1) (N := 16) hx hb hall inX1 hown hK hP 0 rfl rfl 5 (by decide) (hall _ kw_328) (fun _ h9 => h9) rfl dX1_advance_3 ?_
  refine xl_lt (tgt := 18) hx hb dX1_advance_6 dX1_advance_7 (by decide) (fun c_1 => ?_) (fun c_1 => ?_)
  · exact absurd c_1 h1
  · refine lv_lload_n hx hb dX1_advance_10 rfl (lv_at hl 1 rfl) ?_
    refine lv_ldc2 (v := 1152921504606846976) hx hb hown (hall _ kw_381) dX1_advance_11 ?_
    refine xl_le (tgt := 22) hx hb dX1_advance_14 dX1_advance_15 (by decide) (fun c_2 => ?_) (fun c_2 => ?_)
    · refine lv_iconst (v := 0) hx hb dX1_advance_22 (by decide) ?_
      refine tp_i (y := nI 0) nI_0.symm ?_
      refine va_put (D := (dC, dI)) (ci := 1) (v := .int (nI 0)) (ty := .int) (C := RX1) (T := TX1) (N := 16) hx hb hall inX1 tyX1 tyX1_ok nmX1 hown hK hP hD hS 0 rfl rfl 0 (by decide) (hall _ kw_323) (fun _ h9 => h9) rfl (by decide +kernel) rfl rfl (Nat.le_of_ble_eq_true rfl) dX1_advance_23 (fun H locs hP hD hS => ?_)
      have hP : va_P (dC, dI) vwCl [(y, .inr (1, [.int (nI 0), .int (nI nD), .int (nI nR), .ref b1, .ref b2, .long now, .ref b3, .ref b4, .ref b5, .int (nI zs.length), .ref b6, .ref b7, .int (nI el), .ref b8, .ref b9, .ref b10])), (b1, .inl (cJ, 512, .inr (.inl vs))), (b2, .inl (cZ, 512, .inl (fun j => bI (ac j)))), (b3, .inl (cI, 8192, .inl (fun j => nI (o j)))), (b4, .inl (cJ, 8192, .inr (.inl mt))), (b5, .inl (cJ, 8192, .inr (.inl mw))), (b6, .inl (cJ, 16, .inr (.inl nv))), (b7, .inl (cJ, 16, .inr (.inl dl))), (b8, .inl (cJ, 8208, .inr (.inl rt))), (b9, .inl (cJ, 8208, .inr (.inl rv))), (b10, .inl (cZ, 8208, .inl (fun j => bI (mk j))))] H := hP
      have hD : va_D A [(y, .inr (1, [.int (nI 0), .int (nI nD), .int (nI nR), .ref b1, .ref b2, .long now, .ref b3, .ref b4, .ref b5, .int (nI zs.length), .ref b6, .ref b7, .int (nI el), .ref b8, .ref b9, .ref b10])), (b1, .inl (cJ, 512, .inr (.inl vs))), (b2, .inl (cZ, 512, .inl (fun j => bI (ac j)))), (b3, .inl (cI, 8192, .inl (fun j => nI (o j)))), (b4, .inl (cJ, 8192, .inr (.inl mt))), (b5, .inl (cJ, 8192, .inr (.inl mw))), (b6, .inl (cJ, 16, .inr (.inl nv))), (b7, .inl (cJ, 16, .inr (.inl dl))), (b8, .inl (cJ, 8208, .inr (.inl rt))), (b9, .inl (cJ, 8208, .inr (.inl rv))), (b10, .inl (cZ, 8208, .inl (fun j => bI (mk j))))] := hD
      refine lv_aload_n hx hb dX1_advance_26 rfl (lv_at hl 0 rfl) ?_
      refine va_get (D := (dC, dI)) (ci := 1) (v := .int (nI 0)) (C := RX1) (T := TX1) (N := 16) hx hb hall inX1 hown hK hP 0 rfl rfl 0 (by decide) (hall _ kw_323) (fun _ h9 => h9) rfl dX1_advance_27 ?_
      refine xz_le (tgt := 35) hx hb (by omega) dX1_advance_30 (by decide) (fun c_3 => ?_) (fun c_3 => ?_)
      · refine lv_aload_n hx hb dX1_advance_35 rfl (lv_at hl 0 rfl) ?_
        refine lv_lload_n hx hb dX1_advance_36 rfl (lv_at hl 1 rfl) ?_
        refine va_put (D := (dC, dI)) (ci := 1) (v := .long t) (ty := .long) (C := RX1) (T := TX1) (N := 16) hx hb hall inX1 tyX1 tyX1_ok nmX1 hown hK hP hD hS 0 rfl rfl 5 (by decide) (hall _ kw_328) (fun _ h9 => h9) rfl (by decide +kernel) rfl rfl (Nat.le_of_ble_eq_true rfl) dX1_advance_37 (fun H locs hP hD hS => ?_)
        have hP : va_P (dC, dI) vwCl [(y, .inr (1, [.int (nI 0), .int (nI nD), .int (nI nR), .ref b1, .ref b2, .long t, .ref b3, .ref b4, .ref b5, .int (nI zs.length), .ref b6, .ref b7, .int (nI el), .ref b8, .ref b9, .ref b10])), (b1, .inl (cJ, 512, .inr (.inl vs))), (b2, .inl (cZ, 512, .inl (fun j => bI (ac j)))), (b3, .inl (cI, 8192, .inl (fun j => nI (o j)))), (b4, .inl (cJ, 8192, .inr (.inl mt))), (b5, .inl (cJ, 8192, .inr (.inl mw))), (b6, .inl (cJ, 16, .inr (.inl nv))), (b7, .inl (cJ, 16, .inr (.inl dl))), (b8, .inl (cJ, 8208, .inr (.inl rt))), (b9, .inl (cJ, 8208, .inr (.inl rv))), (b10, .inl (cZ, 8208, .inl (fun j => bI (mk j))))] H := hP
        have hD : va_D A [(y, .inr (1, [.int (nI 0), .int (nI nD), .int (nI nR), .ref b1, .ref b2, .long t, .ref b3, .ref b4, .ref b5, .int (nI zs.length), .ref b6, .ref b7, .int (nI el), .ref b8, .ref b9, .ref b10])), (b1, .inl (cJ, 512, .inr (.inl vs))), (b2, .inl (cZ, 512, .inl (fun j => bI (ac j)))), (b3, .inl (cI, 8192, .inl (fun j => nI (o j)))), (b4, .inl (cJ, 8192, .inr (.inl mt))), (b5, .inl (cJ, 8192, .inr (.inl mw))), (b6, .inl (cJ, 16, .inr (.inl nv))), (b7, .inl (cJ, 16, .inr (.inl dl))), (b8, .inl (cJ, 8208, .inr (.inl rt))), (b9, .inl (cJ, 8208, .inr (.inl rv))), (b10, .inl (cZ, 8208, .inl (fun j => bI (mk j))))] := hD
        refine lv_iconst (v := 0) hx hb dX1_advance_40 (by decide) ?_
        refine tp_i (y := nI 0) nI_0.symm ?_
        refine lv_istore_n (lv' := [(3, .int (nI 0)), (0, .ref y), (1, .long t)]) hx hb dX1_advance_41 rfl hl (by decide) rfl (fun ls hl => ?_)
        have hloop3 : ∀ (oc : Nat → Nat) (tc vc : Nat → Int64) (H : Heap) (locs : List Loc), wz (wla t zs) oc tc vc → va_P (dC, dI) vwCl [(y, .inr (1, [.int (nI 0), .int (nI nD), .int (nI nR), .ref b1, .ref b2, .long t, .ref b3, .ref b4, .ref b5, .int (nI ((wla t zs).length)), .ref b6, .ref b7, .int (nI el), .ref b8, .ref b9, .ref b10])), (b1, .inl (cJ, 512, .inr (.inl (wvs t zs vs)))), (b2, .inl (cZ, 512, .inl (fun j => bI ((was t zs (wfl ac nD)) j)))), (b3, .inl (cI, 8192, .inl (fun j => nI (oc j)))), (b4, .inl (cJ, 8192, .inr (.inl tc))), (b5, .inl (cJ, 8192, .inr (.inl vc))), (b6, .inl (cJ, 16, .inr (.inl nv))), (b7, .inl (cJ, 16, .inr (.inl dl))), (b8, .inl (cJ, 8208, .inr (.inl rt))), (b9, .inl (cJ, 8208, .inr (.inl rv))), (b10, .inl (cZ, 8208, .inl (fun j => bI (mk j))))] H → va_D A [(y, .inr (1, [.int (nI 0), .int (nI nD), .int (nI nR), .ref b1, .ref b2, .long t, .ref b3, .ref b4, .ref b5, .int (nI ((wla t zs).length)), .ref b6, .ref b7, .int (nI el), .ref b8, .ref b9, .ref b10])), (b1, .inl (cJ, 512, .inr (.inl (wvs t zs vs)))), (b2, .inl (cZ, 512, .inl (fun j => bI ((was t zs (wfl ac nD)) j)))), (b3, .inl (cI, 8192, .inl (fun j => nI (oc j)))), (b4, .inl (cJ, 8192, .inr (.inl tc))), (b5, .inl (cJ, 8192, .inr (.inl vc))), (b6, .inl (cJ, 16, .inr (.inl nv))), (b7, .inl (cJ, 16, .inr (.inl dl))), (b8, .inl (cJ, 8208, .inr (.inl rt))), (b9, .inl (cJ, 8208, .inr (.inl rv))), (b10, .inl (cZ, 8208, .inl (fun j => bI (mk j))))] → va_S A s.heap H locs → ∀ (n k c0 : Nat) (ls : Array Slot), k + n = nD → c0 ≤ k → c0 + wcn (was t zs (wfl ac nD)) n k = wcn (was t zs (wfl ac nD)) nD 0 → lv_has ls 6 [(0, .ref y), (4, .int (nI c0)), (5, .int (nI k))] → W p l e (headSpec wsX1_advance ({ frames := 0, cells := 0, slots := 0, locals := 0 })).room s m (([.ref y, .long t] : List Value).toArray) below meth c H locs 0 0 (MQ below (va_Qi (fun (v : Int32) (_ : Unit) => v = nI (wcn (was t zs (wfl ac nD)) nD 0)) (fun _ t9 => ∃ (o9 : Nat → Nat) (t8 w9 : Nat → Int64), wz (wla t zs) o9 t8 w9 ∧ va_P (dC, dI) vwCl (wm y b1 b2 b3 b4 b5 b6 b7 b8 b9 b10 cI cJ cZ 0 nD nR (wvs t zs vs) (was t zs (wfl ac nD)) t o9 t8 w9 ((wla t zs).length) nv dl el rt rv mk) t9.heap ∧ va_K (dC, dI) vwCl [(cI, .int), (cJ, .long), (cZ, .boolean)] t9 ∧ va_D A (wm y b1 b2 b3 b4 b5 b6 b7 b8 b9 b10 cI cJ cZ 0 nD nR (wvs t zs vs) (was t zs (wfl ac nD)) t o9 t8 w9 ((wla t zs).length) nv dl el rt rv mk)) A) (([.ref y, .long t] : List Value).toArray) s 0 0 A) (F0 m 183 ls []) := by
          intro oc tc vc H locs hF hP hD hS n
          induction n with
          | zero =>
            intro k c0 ls hk hck hc hl
            refine lv_iload hx hb dX1_advance_183 (lv_at hl 2 rfl) ?_
            refine lv_aload_n hx hb dX1_advance_185 rfl (lv_at hl 0 rfl) ?_
            refine va_get (D := (dC, dI)) (ci := 1) (v := .int (nI nD)) (C := RX1) (T := TX1) (N := 16) hx hb hall inX1 hown hK hP 0 rfl rfl 1 (by decide) (hall _ kw_324) (fun _ h9 => h9) rfl dX1_advance_186 ?_
            refine xc_ge (tgt := 219) hx hb (by omega) (by omega) dX1_advance_189 (by decide) (fun c_4 => ?_) (fun c_4 => ?_)
            · refine lv_iload hx hb dX1_advance_219 (lv_at hl 1 rfl) ?_
              exact W.iret (v := nI c0) hx hb hr (fun t9 ht hW => ⟨⟨nI c0, (), rfl, congrArg nI hc, oc, tc, vc, hF, by rw [ht]; exact hP, va_K.moved hW.alike hK, hD⟩, hS.F ht⟩) hS.2.2 dX1_advance_221
            · exact absurd c_4 (by omega)
          | succ n ih =>
            intro k c0 ls hk hck hc hl
            refine lv_iload hx hb dX1_advance_183 (lv_at hl 2 rfl) ?_
            refine lv_aload_n hx hb dX1_advance_185 rfl (lv_at hl 0 rfl) ?_
            refine va_get (D := (dC, dI)) (ci := 1) (v := .int (nI nD)) (C := RX1) (T := TX1) (N := 16) hx hb hall inX1 hown hK hP 0 rfl rfl 1 (by decide) (hall _ kw_324) (fun _ h9 => h9) rfl dX1_advance_186 ?_
            refine xc_ge (tgt := 219) hx hb (by omega) (by omega) dX1_advance_189 (by decide) (fun c_5 => ?_) (fun c_5 => ?_)
            · exact absurd c_5 (by omega)
            · refine lv_aload_n hx hb dX1_advance_192 rfl (lv_at hl 0 rfl) ?_
              refine va_get (D := (dC, dI)) (ci := 1) (v := .ref b2) (C := RX1) (T := TX1) (N := 16) hx hb hall inX1 hown hK hP 0 rfl rfl 4 (by decide) (hall _ kw_327) (fun _ h9 => h9) rfl dX1_advance_193 ?_
              refine lv_iload hx hb dX1_advance_196 (lv_at hl 2 rfl) ?_
              refine xa_zald hx hb hK hP 2 2 rfl rfl (by omega) (by omega) dX1_advance_198 ?_
              refine xb_eq (tgt := 209) hx hb dX1_advance_199 (by decide) (fun c_6 => ?_) (fun c_6 => ?_)
              · have c_A := c_6
                refine lv_iload hx hb dX1_advance_209 (lv_at hl 1 rfl) ?_
                refine lv_istore (lv' := [(4, .int (nI c0)), (0, .ref y), (5, .int (nI k))]) hx hb dX1_advance_211 hl (by decide) rfl (fun ls hl => ?_)
                refine lv_iinc (v := nI (k + 1)) (lv' := [(5, .int (nI (k + 1))), (4, .int (nI c0)), (0, .ref y)]) hx hb dX1_advance_213 hl (k := 2) rfl (nI_1 k) (by decide) rfl (fun ls hl => ?_)
                refine lv_goto (tgt := 183) hx hb dX1_advance_216 (by decide) ?_
                exact ih (k + 1) (c0) ls (by omega) (by omega) (by rw [← hc]; show _ = _ + ((if was t zs (wfl ac nD) k = true then 1 else 0) + _); first | rw [if_pos c_A]; omega | rw [if_neg (by rw [c_A]; decide)]; omega) (lv_sub hl [2, 1, 0] rfl)
              · have c_A := c_6
                refine lv_iload hx hb dX1_advance_202 (lv_at hl 1 rfl) ?_
                refine lv_iconst (v := 1) hx hb dX1_advance_204 (by decide) ?_
                refine lv_iadd hx hb dX1_advance_205 ?_
                refine tp_i (y := nI (c0 + 1)) (nI_1 c0) ?_
                refine lv_goto (tgt := 211) hx hb dX1_advance_206 (by decide) ?_
                refine lv_istore (lv' := [(4, .int (nI (c0 + 1))), (0, .ref y), (5, .int (nI k))]) hx hb dX1_advance_211 hl (by decide) rfl (fun ls hl => ?_)
                refine lv_iinc (v := nI (k + 1)) (lv' := [(5, .int (nI (k + 1))), (4, .int (nI (c0 + 1))), (0, .ref y)]) hx hb dX1_advance_213 hl (k := 2) rfl (nI_1 k) (by decide) rfl (fun ls hl => ?_)
                refine lv_goto (tgt := 183) hx hb dX1_advance_216 (by decide) ?_
                exact ih (k + 1) (c0 + 1) ls (by omega) (by omega) (by rw [← hc]; show _ = _ + ((if was t zs (wfl ac nD) k = true then 1 else 0) + _); first | rw [if_pos c_A]; omega | rw [if_neg (by rw [c_A]; decide)]; omega) (lv_sub hl [2, 1, 0] rfl)
        have hloop2 : ∀ (ss : List ZT) (k : Nat) (F : List ZT) (oc : Nat → Nat) (tc vc vsc : Nat → Int64) (acc : Nat → Bool) (H : Heap) (locs : List Loc) (ls : Array Slot), zs.drop k = ss → k ≤ zs.length → F.length ≤ k → wz F oc tc vc → (∀ j, k ≤ j → oc j = o j ∧ tc j = mt j ∧ vc j = mw j) → F ++ wla t ss = wla t zs → wvs t ss vsc = wvs t zs vs → was t ss acc = was t zs (wfl ac nD) → va_P (dC, dI) vwCl [(y, .inr (1, [.int (nI 0), .int (nI nD), .int (nI nR), .ref b1, .ref b2, .long t, .ref b3, .ref b4, .ref b5, .int (nI zs.length), .ref b6, .ref b7, .int (nI el), .ref b8, .ref b9, .ref b10])), (b1, .inl (cJ, 512, .inr (.inl vsc))), (b2, .inl (cZ, 512, .inl (fun j => bI (acc j)))), (b3, .inl (cI, 8192, .inl (fun j => nI (oc j)))), (b4, .inl (cJ, 8192, .inr (.inl tc))), (b5, .inl (cJ, 8192, .inr (.inl vc))), (b6, .inl (cJ, 16, .inr (.inl nv))), (b7, .inl (cJ, 16, .inr (.inl dl))), (b8, .inl (cJ, 8208, .inr (.inl rt))), (b9, .inl (cJ, 8208, .inr (.inl rv))), (b10, .inl (cZ, 8208, .inl (fun j => bI (mk j))))] H → va_D A [(y, .inr (1, [.int (nI 0), .int (nI nD), .int (nI nR), .ref b1, .ref b2, .long t, .ref b3, .ref b4, .ref b5, .int (nI zs.length), .ref b6, .ref b7, .int (nI el), .ref b8, .ref b9, .ref b10])), (b1, .inl (cJ, 512, .inr (.inl vsc))), (b2, .inl (cZ, 512, .inl (fun j => bI (acc j)))), (b3, .inl (cI, 8192, .inl (fun j => nI (oc j)))), (b4, .inl (cJ, 8192, .inr (.inl tc))), (b5, .inl (cJ, 8192, .inr (.inl vc))), (b6, .inl (cJ, 16, .inr (.inl nv))), (b7, .inl (cJ, 16, .inr (.inl dl))), (b8, .inl (cJ, 8208, .inr (.inl rt))), (b9, .inl (cJ, 8208, .inr (.inl rv))), (b10, .inl (cZ, 8208, .inl (fun j => bI (mk j))))] → va_S A s.heap H locs → lv_has ls 6 [(0, .ref y), (1, .long t), (3, .int (nI F.length)), (4, .int (nI k))] → W p l e (headSpec wsX1_advance ({ frames := 0, cells := 0, slots := 0, locals := 0 })).room s m (([.ref y, .long t] : List Value).toArray) below meth c H locs 0 0 (MQ below (va_Qi (fun (v : Int32) (_ : Unit) => v = nI (wcn (was t zs (wfl ac nD)) nD 0)) (fun _ t9 => ∃ (o9 : Nat → Nat) (t8 w9 : Nat → Int64), wz (wla t zs) o9 t8 w9 ∧ va_P (dC, dI) vwCl (wm y b1 b2 b3 b4 b5 b6 b7 b8 b9 b10 cI cJ cZ 0 nD nR (wvs t zs vs) (was t zs (wfl ac nD)) t o9 t8 w9 ((wla t zs).length) nv dl el rt rv mk) t9.heap ∧ va_K (dC, dI) vwCl [(cI, .int), (cJ, .long), (cZ, .boolean)] t9 ∧ va_D A (wm y b1 b2 b3 b4 b5 b6 b7 b8 b9 b10 cI cJ cZ 0 nD nR (wvs t zs vs) (was t zs (wfl ac nD)) t o9 t8 w9 ((wla t zs).length) nv dl el rt rv mk)) A) (([.ref y, .long t] : List Value).toArray) s 0 0 A) (F0 m 68 ls []) := by
          intro ss
          induction ss with
          | nil =>
            intro k F oc tc vc vsc acc H locs ls hss hkl hFk hF hO hE hvs hac hP hD hS hl
            have hk := wz_nil hss
            obtain rfl : F = wla t zs := (List.append_nil F).symm.trans hE
            obtain rfl : vsc = wvs t zs vs := hvs
            obtain rfl : acc = was t zs (wfl ac nD) := hac
            refine lv_iload hx hb dX1_advance_68 (lv_at hl 3 rfl) ?_
            refine lv_aload_n hx hb dX1_advance_70 rfl (lv_at hl 0 rfl) ?_
            refine va_get (D := (dC, dI)) (ci := 1) (v := .int (nI zs.length)) (C := RX1) (T := TX1) (N := 16) hx hb hall inX1 hown hK hP 0 rfl rfl 9 (by decide) (hall _ kw_332) (fun _ h9 => h9) rfl dX1_advance_71 ?_
            refine xc_ge (tgt := 172) hx hb (by omega) (by omega) dX1_advance_74 (by decide) (fun c_7 => ?_) (fun c_7 => ?_)
            · refine lv_aload_n hx hb dX1_advance_172 rfl (lv_at hl 0 rfl) ?_
              refine lv_iload_n hx hb dX1_advance_173 rfl (lv_at hl 2 rfl) ?_
              refine va_put (D := (dC, dI)) (ci := 1) (v := .int (nI (wla t zs).length)) (ty := .int) (C := RX1) (T := TX1) (N := 16) hx hb hall inX1 tyX1 tyX1_ok nmX1 hown hK hP hD hS 0 rfl rfl 9 (by decide) (hall _ kw_332) (fun _ h9 => h9) rfl (by decide +kernel) rfl rfl (Nat.le_of_ble_eq_true rfl) dX1_advance_174 (fun H locs hP hD hS => ?_)
              have hP : va_P (dC, dI) vwCl [(y, .inr (1, [.int (nI 0), .int (nI nD), .int (nI nR), .ref b1, .ref b2, .long t, .ref b3, .ref b4, .ref b5, .int (nI (wla t zs).length), .ref b6, .ref b7, .int (nI el), .ref b8, .ref b9, .ref b10])), (b1, .inl (cJ, 512, .inr (.inl (wvs t zs vs)))), (b2, .inl (cZ, 512, .inl (fun j => bI ((was t zs (wfl ac nD)) j)))), (b3, .inl (cI, 8192, .inl (fun j => nI (oc j)))), (b4, .inl (cJ, 8192, .inr (.inl tc))), (b5, .inl (cJ, 8192, .inr (.inl vc))), (b6, .inl (cJ, 16, .inr (.inl nv))), (b7, .inl (cJ, 16, .inr (.inl dl))), (b8, .inl (cJ, 8208, .inr (.inl rt))), (b9, .inl (cJ, 8208, .inr (.inl rv))), (b10, .inl (cZ, 8208, .inl (fun j => bI (mk j))))] H := hP
              have hD : va_D A [(y, .inr (1, [.int (nI 0), .int (nI nD), .int (nI nR), .ref b1, .ref b2, .long t, .ref b3, .ref b4, .ref b5, .int (nI (wla t zs).length), .ref b6, .ref b7, .int (nI el), .ref b8, .ref b9, .ref b10])), (b1, .inl (cJ, 512, .inr (.inl (wvs t zs vs)))), (b2, .inl (cZ, 512, .inl (fun j => bI ((was t zs (wfl ac nD)) j)))), (b3, .inl (cI, 8192, .inl (fun j => nI (oc j)))), (b4, .inl (cJ, 8192, .inr (.inl tc))), (b5, .inl (cJ, 8192, .inr (.inl vc))), (b6, .inl (cJ, 16, .inr (.inl nv))), (b7, .inl (cJ, 16, .inr (.inl dl))), (b8, .inl (cJ, 8208, .inr (.inl rt))), (b9, .inl (cJ, 8208, .inr (.inl rv))), (b10, .inl (cZ, 8208, .inl (fun j => bI (mk j))))] := hD
              refine lv_iconst (v := 0) hx hb dX1_advance_177 (by decide) ?_
              refine tp_i (y := nI 0) nI_0.symm ?_
              refine lv_istore (lv' := [(4, .int (nI 0)), (0, .ref y), (1, .long t), (3, .int (nI (wla t zs).length))]) hx hb dX1_advance_178 hl (by decide) rfl (fun ls hl => ?_)
              refine lv_iconst (v := 0) hx hb dX1_advance_180 (by decide) ?_
              refine tp_i (y := nI 0) nI_0.symm ?_
              refine lv_istore (lv' := [(5, .int (nI 0)), (4, .int (nI 0)), (0, .ref y), (1, .long t), (3, .int (nI (wla t zs).length))]) hx hb dX1_advance_181 hl (by decide) rfl (fun ls hl => ?_)
              exact hloop3 oc tc vc H locs hF hP hD hS nD 0 0 ls (by omega) (by omega) (by omega) (lv_sub hl [2, 1, 0] rfl)
            · exact absurd c_7 (by omega)
          | cons z tl ih =>
            intro k F oc tc vc vsc acc H locs ls hss hkl hFk hF hO hE hvs hac hP hD hS hl
            obtain ⟨hk, hzk, htl⟩ := wz_drop hss
            obtain ⟨ez1, ez2, ez3⟩ := hZ k z hzk
            have hod := how z (List.mem_of_getElem? hzk)
            refine lv_iload hx hb dX1_advance_68 (lv_at hl 3 rfl) ?_
            refine lv_aload_n hx hb dX1_advance_70 rfl (lv_at hl 0 rfl) ?_
            refine va_get (D := (dC, dI)) (ci := 1) (v := .int (nI zs.length)) (C := RX1) (T := TX1) (N := 16) hx hb hall inX1 hown hK hP 0 rfl rfl 9 (by decide) (hall _ kw_332) (fun _ h9 => h9) rfl dX1_advance_71 ?_
            refine xc_ge (tgt := 172) hx hb (by omega) (by omega) dX1_advance_74 (by decide) (fun c_8 => ?_) (fun c_8 => ?_)
            · exact absurd c_8 (by omega)
            · refine lv_aload_n hx hb dX1_advance_77 rfl (lv_at hl 0 rfl) ?_
              refine va_get (D := (dC, dI)) (ci := 1) (v := .ref b4) (C := RX1) (T := TX1) (N := 16) hx hb hall inX1 hown hK hP 0 rfl rfl 7 (by decide) (hall _ kw_330) (fun _ h9 => h9) rfl dX1_advance_78 ?_
              refine lv_iload hx hb dX1_advance_81 (lv_at hl 3 rfl) ?_
              refine xa_lald hx hb hK hP 4 1 rfl rfl (by omega) (by omega) dX1_advance_83 ?_
              refine tp_l (y := z.2.1) ((hO k (Nat.le_refl k)).2.1.trans ez2) ?_
              refine lv_lload_n hx hb dX1_advance_84 rfl (lv_at hl 1 rfl) ?_
              refine xl_gt (tgt := 124) hx hb dX1_advance_85 dX1_advance_86 (by decide) (fun c_9 => ?_) (fun c_9 => ?_)
              · have c_A := c_9
                refine lv_aload_n hx hb dX1_advance_124 rfl (lv_at hl 0 rfl) ?_
                refine va_get (D := (dC, dI)) (ci := 1) (v := .ref b3) (C := RX1) (T := TX1) (N := 16) hx hb hall inX1 hown hK hP 0 rfl rfl 6 (by decide) (hall _ kw_329) (fun _ h9 => h9) rfl dX1_advance_125 ?_
                refine lv_iload_n hx hb dX1_advance_128 rfl (lv_at hl 2 rfl) ?_
                refine lv_aload_n hx hb dX1_advance_129 rfl (lv_at hl 0 rfl) ?_
                refine va_get (D := (dC, dI)) (ci := 1) (v := .ref b3) (C := RX1) (T := TX1) (N := 16) hx hb hall inX1 hown hK hP 0 rfl rfl 6 (by decide) (hall _ kw_329) (fun _ h9 => h9) rfl dX1_advance_130 ?_
                refine lv_iload hx hb dX1_advance_133 (lv_at hl 3 rfl) ?_
                refine xa_iald hx hb hK hP 3 0 rfl rfl (by omega) (by omega) dX1_advance_135 ?_
                refine tp_i (y := nI z.1) (by rw [(hO k (Nat.le_refl k)).1, ez1]) ?_
                refine xa_iast hx hb hK hP hD hS 3 0 rfl rfl (by omega) (by omega) dX1_advance_136 (fun H locs hP hD hS => ?_)
                have hP : va_P (dC, dI) vwCl [(y, .inr (1, [.int (nI 0), .int (nI nD), .int (nI nR), .ref b1, .ref b2, .long t, .ref b3, .ref b4, .ref b5, .int (nI zs.length), .ref b6, .ref b7, .int (nI el), .ref b8, .ref b9, .ref b10])), (b1, .inl (cJ, 512, .inr (.inl vsc))), (b2, .inl (cZ, 512, .inl (fun j => bI (acc j)))), (b3, .inl (cI, 8192, .inl (upd (fun j => nI (oc j)) F.length (nI z.1)))), (b4, .inl (cJ, 8192, .inr (.inl tc))), (b5, .inl (cJ, 8192, .inr (.inl vc))), (b6, .inl (cJ, 16, .inr (.inl nv))), (b7, .inl (cJ, 16, .inr (.inl dl))), (b8, .inl (cJ, 8208, .inr (.inl rt))), (b9, .inl (cJ, 8208, .inr (.inl rv))), (b10, .inl (cZ, 8208, .inl (fun j => bI (mk j))))] H := hP
                have hD : va_D A [(y, .inr (1, [.int (nI 0), .int (nI nD), .int (nI nR), .ref b1, .ref b2, .long t, .ref b3, .ref b4, .ref b5, .int (nI zs.length), .ref b6, .ref b7, .int (nI el), .ref b8, .ref b9, .ref b10])), (b1, .inl (cJ, 512, .inr (.inl vsc))), (b2, .inl (cZ, 512, .inl (fun j => bI (acc j)))), (b3, .inl (cI, 8192, .inl (upd (fun j => nI (oc j)) F.length (nI z.1)))), (b4, .inl (cJ, 8192, .inr (.inl tc))), (b5, .inl (cJ, 8192, .inr (.inl vc))), (b6, .inl (cJ, 16, .inr (.inl nv))), (b7, .inl (cJ, 16, .inr (.inl dl))), (b8, .inl (cJ, 8208, .inr (.inl rt))), (b9, .inl (cJ, 8208, .inr (.inl rv))), (b10, .inl (cZ, 8208, .inl (fun j => bI (mk j))))] := hD
                rw [un_nI] at hP hD
                refine lv_aload_n hx hb dX1_advance_137 rfl (lv_at hl 0 rfl) ?_
                refine va_get (D := (dC, dI)) (ci := 1) (v := .ref b4) (C := RX1) (T := TX1) (N := 16) hx hb hall inX1 hown hK hP 0 rfl rfl 7 (by decide) (hall _ kw_330) (fun _ h9 => h9) rfl dX1_advance_138 ?_
                refine lv_iload_n hx hb dX1_advance_141 rfl (lv_at hl 2 rfl) ?_
                refine lv_aload_n hx hb dX1_advance_142 rfl (lv_at hl 0 rfl) ?_
                refine va_get (D := (dC, dI)) (ci := 1) (v := .ref b4) (C := RX1) (T := TX1) (N := 16) hx hb hall inX1 hown hK hP 0 rfl rfl 7 (by decide) (hall _ kw_330) (fun _ h9 => h9) rfl dX1_advance_143 ?_
                refine lv_iload hx hb dX1_advance_146 (lv_at hl 3 rfl) ?_
                refine xa_lald hx hb hK hP 4 1 rfl rfl (by omega) (by omega) dX1_advance_148 ?_
                refine tp_l (y := z.2.1) ((hO k (Nat.le_refl k)).2.1.trans ez2) ?_
                refine xa_last hx hb hK hP hD hS 4 1 rfl rfl (by omega) (by omega) dX1_advance_149 (fun H locs hP hD hS => ?_)
                have hP : va_P (dC, dI) vwCl [(y, .inr (1, [.int (nI 0), .int (nI nD), .int (nI nR), .ref b1, .ref b2, .long t, .ref b3, .ref b4, .ref b5, .int (nI zs.length), .ref b6, .ref b7, .int (nI el), .ref b8, .ref b9, .ref b10])), (b1, .inl (cJ, 512, .inr (.inl vsc))), (b2, .inl (cZ, 512, .inl (fun j => bI (acc j)))), (b3, .inl (cI, 8192, .inl (fun j => nI (un oc F.length z.1 j)))), (b4, .inl (cJ, 8192, .inr (.inl (vp_updL tc F.length z.2.1)))), (b5, .inl (cJ, 8192, .inr (.inl vc))), (b6, .inl (cJ, 16, .inr (.inl nv))), (b7, .inl (cJ, 16, .inr (.inl dl))), (b8, .inl (cJ, 8208, .inr (.inl rt))), (b9, .inl (cJ, 8208, .inr (.inl rv))), (b10, .inl (cZ, 8208, .inl (fun j => bI (mk j))))] H := hP
                have hD : va_D A [(y, .inr (1, [.int (nI 0), .int (nI nD), .int (nI nR), .ref b1, .ref b2, .long t, .ref b3, .ref b4, .ref b5, .int (nI zs.length), .ref b6, .ref b7, .int (nI el), .ref b8, .ref b9, .ref b10])), (b1, .inl (cJ, 512, .inr (.inl vsc))), (b2, .inl (cZ, 512, .inl (fun j => bI (acc j)))), (b3, .inl (cI, 8192, .inl (fun j => nI (un oc F.length z.1 j)))), (b4, .inl (cJ, 8192, .inr (.inl (vp_updL tc F.length z.2.1)))), (b5, .inl (cJ, 8192, .inr (.inl vc))), (b6, .inl (cJ, 16, .inr (.inl nv))), (b7, .inl (cJ, 16, .inr (.inl dl))), (b8, .inl (cJ, 8208, .inr (.inl rt))), (b9, .inl (cJ, 8208, .inr (.inl rv))), (b10, .inl (cZ, 8208, .inl (fun j => bI (mk j))))] := hD
                refine lv_aload_n hx hb dX1_advance_150 rfl (lv_at hl 0 rfl) ?_
                refine va_get (D := (dC, dI)) (ci := 1) (v := .ref b5) (C := RX1) (T := TX1) (N := 16) hx hb hall inX1 hown hK hP 0 rfl rfl 8 (by decide) (hall _ kw_331) (fun _ h9 => h9) rfl dX1_advance_151 ?_
                refine lv_iload_n hx hb dX1_advance_154 rfl (lv_at hl 2 rfl) ?_
                refine lv_aload_n hx hb dX1_advance_155 rfl (lv_at hl 0 rfl) ?_
                refine va_get (D := (dC, dI)) (ci := 1) (v := .ref b5) (C := RX1) (T := TX1) (N := 16) hx hb hall inX1 hown hK hP 0 rfl rfl 8 (by decide) (hall _ kw_331) (fun _ h9 => h9) rfl dX1_advance_156 ?_
                refine lv_iload hx hb dX1_advance_159 (lv_at hl 3 rfl) ?_
                refine xa_lald hx hb hK hP 5 1 rfl rfl (by omega) (by omega) dX1_advance_161 ?_
                refine tp_l (y := z.2.2) ((hO k (Nat.le_refl k)).2.2.trans ez3) ?_
                refine xa_last hx hb hK hP hD hS 5 1 rfl rfl (by omega) (by omega) dX1_advance_162 (fun H locs hP hD hS => ?_)
                have hP : va_P (dC, dI) vwCl [(y, .inr (1, [.int (nI 0), .int (nI nD), .int (nI nR), .ref b1, .ref b2, .long t, .ref b3, .ref b4, .ref b5, .int (nI zs.length), .ref b6, .ref b7, .int (nI el), .ref b8, .ref b9, .ref b10])), (b1, .inl (cJ, 512, .inr (.inl vsc))), (b2, .inl (cZ, 512, .inl (fun j => bI (acc j)))), (b3, .inl (cI, 8192, .inl (fun j => nI (un oc F.length z.1 j)))), (b4, .inl (cJ, 8192, .inr (.inl (vp_updL tc F.length z.2.1)))), (b5, .inl (cJ, 8192, .inr (.inl (vp_updL vc F.length z.2.2)))), (b6, .inl (cJ, 16, .inr (.inl nv))), (b7, .inl (cJ, 16, .inr (.inl dl))), (b8, .inl (cJ, 8208, .inr (.inl rt))), (b9, .inl (cJ, 8208, .inr (.inl rv))), (b10, .inl (cZ, 8208, .inl (fun j => bI (mk j))))] H := hP
                have hD : va_D A [(y, .inr (1, [.int (nI 0), .int (nI nD), .int (nI nR), .ref b1, .ref b2, .long t, .ref b3, .ref b4, .ref b5, .int (nI zs.length), .ref b6, .ref b7, .int (nI el), .ref b8, .ref b9, .ref b10])), (b1, .inl (cJ, 512, .inr (.inl vsc))), (b2, .inl (cZ, 512, .inl (fun j => bI (acc j)))), (b3, .inl (cI, 8192, .inl (fun j => nI (un oc F.length z.1 j)))), (b4, .inl (cJ, 8192, .inr (.inl (vp_updL tc F.length z.2.1)))), (b5, .inl (cJ, 8192, .inr (.inl (vp_updL vc F.length z.2.2)))), (b6, .inl (cJ, 16, .inr (.inl nv))), (b7, .inl (cJ, 16, .inr (.inl dl))), (b8, .inl (cJ, 8208, .inr (.inl rt))), (b9, .inl (cJ, 8208, .inr (.inl rv))), (b10, .inl (cZ, 8208, .inl (fun j => bI (mk j))))] := hD
                refine lv_iinc (v := nI (F.length + 1)) (lv' := [(3, .int (nI (F.length + 1))), (0, .ref y), (1, .long t), (4, .int (nI k))]) hx hb dX1_advance_163 hl (k := 2) rfl (nI_1 _) (by decide) rfl (fun ls hl => ?_)
                refine lv_iinc (v := nI (k + 1)) (lv' := [(4, .int (nI (k + 1))), (3, .int (nI (F.length + 1))), (0, .ref y), (1, .long t)]) hx hb dX1_advance_166 hl (k := 3) rfl (nI_1 k) (by decide) rfl (fun ls hl => ?_)
                refine lv_goto (tgt := 68) hx hb dX1_advance_169 (by decide) ?_
                exact ih (k + 1) (F ++ [z]) _ _ _ vsc acc H locs ls htl (by omega) (by rw [wz_len]; omega) (wz_push z hF) (fun j hj => ⟨(if_neg (by omega)).trans (hO j (by omega)).1, (pk_uLn (by omega)).trans (hO j (by omega)).2.1, (pk_uLn (by omega)).trans (hO j (by omega)).2.2⟩) (by rw [← hE, wla_take c_A, List.append_assoc]; rfl) (by rw [← hvs]; show _ = wvs t tl (if t < z.2.1 then _ else _); rw [if_pos c_A]) (by rw [← hac]; show _ = was t tl (if t < z.2.1 then _ else _); rw [if_pos c_A]) hP hD hS (by rw [wz_len]; exact lv_sub hl [2, 3, 1, 0] rfl)
              · have c_A := c_9
                refine lv_aload_n hx hb dX1_advance_89 rfl (lv_at hl 0 rfl) ?_
                refine va_get (D := (dC, dI)) (ci := 1) (v := .ref b2) (C := RX1) (T := TX1) (N := 16) hx hb hall inX1 hown hK hP 0 rfl rfl 4 (by decide) (hall _ kw_327) (fun _ h9 => h9) rfl dX1_advance_90 ?_
                refine lv_aload_n hx hb dX1_advance_93 rfl (lv_at hl 0 rfl) ?_
                refine va_get (D := (dC, dI)) (ci := 1) (v := .ref b3) (C := RX1) (T := TX1) (N := 16) hx hb hall inX1 hown hK hP 0 rfl rfl 6 (by decide) (hall _ kw_329) (fun _ h9 => h9) rfl dX1_advance_94 ?_
                refine lv_iload hx hb dX1_advance_97 (lv_at hl 3 rfl) ?_
                refine xa_iald hx hb hK hP 3 0 rfl rfl (by omega) (by omega) dX1_advance_99 ?_
                refine tp_i (y := nI z.1) (by rw [(hO k (Nat.le_refl k)).1, ez1]) ?_
                refine lv_iconst (v := 1) hx hb dX1_advance_100 (by decide) ?_
                refine tp_i (y := bI true) bI_t ?_
                refine xa_zast hx hb hK hP hD hS 2 2 rfl rfl (by omega) (by omega) dX1_advance_101 (fun H locs hP hD hS => ?_)
                have hP : va_P (dC, dI) vwCl [(y, .inr (1, [.int (nI 0), .int (nI nD), .int (nI nR), .ref b1, .ref b2, .long t, .ref b3, .ref b4, .ref b5, .int (nI zs.length), .ref b6, .ref b7, .int (nI el), .ref b8, .ref b9, .ref b10])), (b1, .inl (cJ, 512, .inr (.inl vsc))), (b2, .inl (cZ, 512, .inl (fun j => bI (ub acc z.1 true j)))), (b3, .inl (cI, 8192, .inl (fun j => nI (oc j)))), (b4, .inl (cJ, 8192, .inr (.inl tc))), (b5, .inl (cJ, 8192, .inr (.inl vc))), (b6, .inl (cJ, 16, .inr (.inl nv))), (b7, .inl (cJ, 16, .inr (.inl dl))), (b8, .inl (cJ, 8208, .inr (.inl rt))), (b9, .inl (cJ, 8208, .inr (.inl rv))), (b10, .inl (cZ, 8208, .inl (fun j => bI (mk j))))] H := hP
                have hD : va_D A [(y, .inr (1, [.int (nI 0), .int (nI nD), .int (nI nR), .ref b1, .ref b2, .long t, .ref b3, .ref b4, .ref b5, .int (nI zs.length), .ref b6, .ref b7, .int (nI el), .ref b8, .ref b9, .ref b10])), (b1, .inl (cJ, 512, .inr (.inl vsc))), (b2, .inl (cZ, 512, .inl (fun j => bI (ub acc z.1 true j)))), (b3, .inl (cI, 8192, .inl (fun j => nI (oc j)))), (b4, .inl (cJ, 8192, .inr (.inl tc))), (b5, .inl (cJ, 8192, .inr (.inl vc))), (b6, .inl (cJ, 16, .inr (.inl nv))), (b7, .inl (cJ, 16, .inr (.inl dl))), (b8, .inl (cJ, 8208, .inr (.inl rt))), (b9, .inl (cJ, 8208, .inr (.inl rv))), (b10, .inl (cZ, 8208, .inl (fun j => bI (mk j))))] := hD
                refine lv_aload_n hx hb dX1_advance_102 rfl (lv_at hl 0 rfl) ?_
                refine va_get (D := (dC, dI)) (ci := 1) (v := .ref b1) (C := RX1) (T := TX1) (N := 16) hx hb hall inX1 hown hK hP 0 rfl rfl 3 (by decide) (hall _ kw_326) (fun _ h9 => h9) rfl dX1_advance_103 ?_
                refine lv_aload_n hx hb dX1_advance_106 rfl (lv_at hl 0 rfl) ?_
                refine va_get (D := (dC, dI)) (ci := 1) (v := .ref b3) (C := RX1) (T := TX1) (N := 16) hx hb hall inX1 hown hK hP 0 rfl rfl 6 (by decide) (hall _ kw_329) (fun _ h9 => h9) rfl dX1_advance_107 ?_
                refine lv_iload hx hb dX1_advance_110 (lv_at hl 3 rfl) ?_
                refine xa_iald hx hb hK hP 3 0 rfl rfl (by omega) (by omega) dX1_advance_112 ?_
                refine tp_i (y := nI z.1) (by rw [(hO k (Nat.le_refl k)).1, ez1]) ?_
                refine lv_aload_n hx hb dX1_advance_113 rfl (lv_at hl 0 rfl) ?_
                refine va_get (D := (dC, dI)) (ci := 1) (v := .ref b5) (C := RX1) (T := TX1) (N := 16) hx hb hall inX1 hown hK hP 0 rfl rfl 8 (by decide) (hall _ kw_331) (fun _ h9 => h9) rfl dX1_advance_114 ?_
                refine lv_iload hx hb dX1_advance_117 (lv_at hl 3 rfl) ?_
                refine xa_lald hx hb hK hP 5 1 rfl rfl (by omega) (by omega) dX1_advance_119 ?_
                refine tp_l (y := z.2.2) ((hO k (Nat.le_refl k)).2.2.trans ez3) ?_
                refine xa_last hx hb hK hP hD hS 1 1 rfl rfl (by omega) (by omega) dX1_advance_120 (fun H locs hP hD hS => ?_)
                have hP : va_P (dC, dI) vwCl [(y, .inr (1, [.int (nI 0), .int (nI nD), .int (nI nR), .ref b1, .ref b2, .long t, .ref b3, .ref b4, .ref b5, .int (nI zs.length), .ref b6, .ref b7, .int (nI el), .ref b8, .ref b9, .ref b10])), (b1, .inl (cJ, 512, .inr (.inl (vp_updL vsc z.1 z.2.2)))), (b2, .inl (cZ, 512, .inl (fun j => bI (ub acc z.1 true j)))), (b3, .inl (cI, 8192, .inl (fun j => nI (oc j)))), (b4, .inl (cJ, 8192, .inr (.inl tc))), (b5, .inl (cJ, 8192, .inr (.inl vc))), (b6, .inl (cJ, 16, .inr (.inl nv))), (b7, .inl (cJ, 16, .inr (.inl dl))), (b8, .inl (cJ, 8208, .inr (.inl rt))), (b9, .inl (cJ, 8208, .inr (.inl rv))), (b10, .inl (cZ, 8208, .inl (fun j => bI (mk j))))] H := hP
                have hD : va_D A [(y, .inr (1, [.int (nI 0), .int (nI nD), .int (nI nR), .ref b1, .ref b2, .long t, .ref b3, .ref b4, .ref b5, .int (nI zs.length), .ref b6, .ref b7, .int (nI el), .ref b8, .ref b9, .ref b10])), (b1, .inl (cJ, 512, .inr (.inl (vp_updL vsc z.1 z.2.2)))), (b2, .inl (cZ, 512, .inl (fun j => bI (ub acc z.1 true j)))), (b3, .inl (cI, 8192, .inl (fun j => nI (oc j)))), (b4, .inl (cJ, 8192, .inr (.inl tc))), (b5, .inl (cJ, 8192, .inr (.inl vc))), (b6, .inl (cJ, 16, .inr (.inl nv))), (b7, .inl (cJ, 16, .inr (.inl dl))), (b8, .inl (cJ, 8208, .inr (.inl rt))), (b9, .inl (cJ, 8208, .inr (.inl rv))), (b10, .inl (cZ, 8208, .inl (fun j => bI (mk j))))] := hD
                refine lv_goto (tgt := 166) hx hb dX1_advance_121 (by decide) ?_
                refine lv_iinc (v := nI (k + 1)) (lv' := [(4, .int (nI (k + 1))), (0, .ref y), (1, .long t), (3, .int (nI F.length))]) hx hb dX1_advance_166 hl (k := 3) rfl (nI_1 k) (by decide) rfl (fun ls hl => ?_)
                refine lv_goto (tgt := 68) hx hb dX1_advance_169 (by decide) ?_
                exact ih (k + 1) F oc tc vc (vp_updL vsc z.1 z.2.2) (ub acc z.1 true) H locs ls htl (by omega) (by omega) hF (fun j hj => hO j (by omega)) (by rw [← hE, wla_skip c_A]) (by rw [← hvs]; show _ = wvs t tl (if t < z.2.1 then _ else _); rw [if_neg c_A]) (by rw [← hac]; show _ = was t tl (if t < z.2.1 then _ else _); rw [if_neg c_A]) hP hD hS (lv_sub hl [1, 2, 3, 0] rfl)
        have hloop1 : ∀ (n k : Nat) (H : Heap) (locs : List Loc) (ls : Array Slot), k + n = nD → va_P (dC, dI) vwCl [(y, .inr (1, [.int (nI 0), .int (nI nD), .int (nI nR), .ref b1, .ref b2, .long t, .ref b3, .ref b4, .ref b5, .int (nI zs.length), .ref b6, .ref b7, .int (nI el), .ref b8, .ref b9, .ref b10])), (b1, .inl (cJ, 512, .inr (.inl vs))), (b2, .inl (cZ, 512, .inl (fun j => bI ((wfl ac k) j)))), (b3, .inl (cI, 8192, .inl (fun j => nI (o j)))), (b4, .inl (cJ, 8192, .inr (.inl mt))), (b5, .inl (cJ, 8192, .inr (.inl mw))), (b6, .inl (cJ, 16, .inr (.inl nv))), (b7, .inl (cJ, 16, .inr (.inl dl))), (b8, .inl (cJ, 8208, .inr (.inl rt))), (b9, .inl (cJ, 8208, .inr (.inl rv))), (b10, .inl (cZ, 8208, .inl (fun j => bI (mk j))))] H → va_D A [(y, .inr (1, [.int (nI 0), .int (nI nD), .int (nI nR), .ref b1, .ref b2, .long t, .ref b3, .ref b4, .ref b5, .int (nI zs.length), .ref b6, .ref b7, .int (nI el), .ref b8, .ref b9, .ref b10])), (b1, .inl (cJ, 512, .inr (.inl vs))), (b2, .inl (cZ, 512, .inl (fun j => bI ((wfl ac k) j)))), (b3, .inl (cI, 8192, .inl (fun j => nI (o j)))), (b4, .inl (cJ, 8192, .inr (.inl mt))), (b5, .inl (cJ, 8192, .inr (.inl mw))), (b6, .inl (cJ, 16, .inr (.inl nv))), (b7, .inl (cJ, 16, .inr (.inl dl))), (b8, .inl (cJ, 8208, .inr (.inl rt))), (b9, .inl (cJ, 8208, .inr (.inl rv))), (b10, .inl (cZ, 8208, .inl (fun j => bI (mk j))))] → va_S A s.heap H locs → lv_has ls 6 [(0, .ref y), (1, .long t), (3, .int (nI k))] → W p l e (headSpec wsX1_advance ({ frames := 0, cells := 0, slots := 0, locals := 0 })).room s m (([.ref y, .long t] : List Value).toArray) below meth c H locs 0 0 (MQ below (va_Qi (fun (v : Int32) (_ : Unit) => v = nI (wcn (was t zs (wfl ac nD)) nD 0)) (fun _ t9 => ∃ (o9 : Nat → Nat) (t8 w9 : Nat → Int64), wz (wla t zs) o9 t8 w9 ∧ va_P (dC, dI) vwCl (wm y b1 b2 b3 b4 b5 b6 b7 b8 b9 b10 cI cJ cZ 0 nD nR (wvs t zs vs) (was t zs (wfl ac nD)) t o9 t8 w9 ((wla t zs).length) nv dl el rt rv mk) t9.heap ∧ va_K (dC, dI) vwCl [(cI, .int), (cJ, .long), (cZ, .boolean)] t9 ∧ va_D A (wm y b1 b2 b3 b4 b5 b6 b7 b8 b9 b10 cI cJ cZ 0 nD nR (wvs t zs vs) (was t zs (wfl ac nD)) t o9 t8 w9 ((wla t zs).length) nv dl el rt rv mk)) A) (([.ref y, .long t] : List Value).toArray) s 0 0 A) (F0 m 42 ls []) := by
          intro n
          induction n with
          | zero =>
            intro k H locs ls hk hP hD hS hl
            obtain rfl : nD = k := by omega
            refine lv_iload_n hx hb dX1_advance_42 rfl (lv_at hl 2 rfl) ?_
            refine lv_aload_n hx hb dX1_advance_43 rfl (lv_at hl 0 rfl) ?_
            refine va_get (D := (dC, dI)) (ci := 1) (v := .int (nI nD)) (C := RX1) (T := TX1) (N := 16) hx hb hall inX1 hown hK hP 0 rfl rfl 1 (by decide) (hall _ kw_324) (fun _ h9 => h9) rfl dX1_advance_44 ?_
            refine xc_ge (tgt := 63) hx hb (by omega) (by omega) dX1_advance_47 (by decide) (fun c_10 => ?_) (fun c_10 => ?_)
            · refine lv_iconst (v := 0) hx hb dX1_advance_63 (by decide) ?_
              refine tp_i (y := nI 0) nI_0.symm ?_
              refine lv_istore_n (lv' := [(3, .int (nI 0)), (0, .ref y), (1, .long t)]) hx hb dX1_advance_64 rfl hl (by decide) rfl (fun ls hl => ?_)
              refine lv_iconst (v := 0) hx hb dX1_advance_65 (by decide) ?_
              refine tp_i (y := nI 0) nI_0.symm ?_
              refine lv_istore (lv' := [(4, .int (nI 0)), (3, .int (nI 0)), (0, .ref y), (1, .long t)]) hx hb dX1_advance_66 hl (by decide) rfl (fun ls hl => ?_)
              exact hloop2 zs 0 [] o mt mw vs (wfl ac nD) H locs ls rfl (by omega) (Nat.zero_le _) (fun j e he => by cases he) (fun j _ => ⟨rfl, rfl, rfl⟩) rfl rfl rfl hP hD hS (lv_sub hl [2, 3, 1, 0] rfl)
            · exact absurd c_10 (by omega)
          | succ n ih =>
            intro k H locs ls hk hP hD hS hl
            refine lv_iload_n hx hb dX1_advance_42 rfl (lv_at hl 2 rfl) ?_
            refine lv_aload_n hx hb dX1_advance_43 rfl (lv_at hl 0 rfl) ?_
            refine va_get (D := (dC, dI)) (ci := 1) (v := .int (nI nD)) (C := RX1) (T := TX1) (N := 16) hx hb hall inX1 hown hK hP 0 rfl rfl 1 (by decide) (hall _ kw_324) (fun _ h9 => h9) rfl dX1_advance_44 ?_
            refine xc_ge (tgt := 63) hx hb (by omega) (by omega) dX1_advance_47 (by decide) (fun c_11 => ?_) (fun c_11 => ?_)
            · exact absurd c_11 (by omega)
            · refine lv_aload_n hx hb dX1_advance_50 rfl (lv_at hl 0 rfl) ?_
              refine va_get (D := (dC, dI)) (ci := 1) (v := .ref b2) (C := RX1) (T := TX1) (N := 16) hx hb hall inX1 hown hK hP 0 rfl rfl 4 (by decide) (hall _ kw_327) (fun _ h9 => h9) rfl dX1_advance_51 ?_
              refine lv_iload_n hx hb dX1_advance_54 rfl (lv_at hl 2 rfl) ?_
              refine lv_iconst (v := 0) hx hb dX1_advance_55 (by decide) ?_
              refine tp_i (y := bI false) bI_f ?_
              refine xa_zast hx hb hK hP hD hS 2 2 rfl rfl (by omega) (by omega) dX1_advance_56 (fun H locs hP hD hS => ?_)
              have hP : va_P (dC, dI) vwCl [(y, .inr (1, [.int (nI 0), .int (nI nD), .int (nI nR), .ref b1, .ref b2, .long t, .ref b3, .ref b4, .ref b5, .int (nI zs.length), .ref b6, .ref b7, .int (nI el), .ref b8, .ref b9, .ref b10])), (b1, .inl (cJ, 512, .inr (.inl vs))), (b2, .inl (cZ, 512, .inl (fun j => bI (ub (wfl ac k) k false j)))), (b3, .inl (cI, 8192, .inl (fun j => nI (o j)))), (b4, .inl (cJ, 8192, .inr (.inl mt))), (b5, .inl (cJ, 8192, .inr (.inl mw))), (b6, .inl (cJ, 16, .inr (.inl nv))), (b7, .inl (cJ, 16, .inr (.inl dl))), (b8, .inl (cJ, 8208, .inr (.inl rt))), (b9, .inl (cJ, 8208, .inr (.inl rv))), (b10, .inl (cZ, 8208, .inl (fun j => bI (mk j))))] H := hP
              have hD : va_D A [(y, .inr (1, [.int (nI 0), .int (nI nD), .int (nI nR), .ref b1, .ref b2, .long t, .ref b3, .ref b4, .ref b5, .int (nI zs.length), .ref b6, .ref b7, .int (nI el), .ref b8, .ref b9, .ref b10])), (b1, .inl (cJ, 512, .inr (.inl vs))), (b2, .inl (cZ, 512, .inl (fun j => bI (ub (wfl ac k) k false j)))), (b3, .inl (cI, 8192, .inl (fun j => nI (o j)))), (b4, .inl (cJ, 8192, .inr (.inl mt))), (b5, .inl (cJ, 8192, .inr (.inl mw))), (b6, .inl (cJ, 16, .inr (.inl nv))), (b7, .inl (cJ, 16, .inr (.inl dl))), (b8, .inl (cJ, 8208, .inr (.inl rt))), (b9, .inl (cJ, 8208, .inr (.inl rv))), (b10, .inl (cZ, 8208, .inl (fun j => bI (mk j))))] := hD
              refine lv_iinc (v := nI (k + 1)) (lv' := [(3, .int (nI (k + 1))), (0, .ref y), (1, .long t)]) hx hb dX1_advance_57 hl (k := 2) rfl (nI_1 k) (by decide) rfl (fun ls hl => ?_)
              refine lv_goto (tgt := 42) hx hb dX1_advance_60 (by decide) ?_
              exact ih (k + 1) H locs ls (by omega) (by rw [← wfl_s]; exact hP) (by rw [← wfl_s]; exact hD) hS (lv_sub hl [1, 2, 0] rfl)
        exact hloop1 nD 0 H locs ls (by omega) (by rw [wfl_0]; exact hP) (by rw [wfl_0]; exact hD) hS (lv_sub hl [1, 2, 0] rfl)
      · exact absurd c_3 (by omega)
    · exact absurd (Int64.not_le.mp c_2) h2
