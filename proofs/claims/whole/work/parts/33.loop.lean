set_option maxHeartbeats 8000000 in
set_option maxRecDepth 100000 in
/-- the law's loop: at its head class and reference agree -/
theorem law_loop {p : Program} {l : Launch} {e : Env} {s : State} {m : MethodId} {below : List Frame} {meth : Method} {c : Code} {dC : Nat → ClassId} {dI : Nat → Nat → Nat} {b L : Nat} {xs : Nat → Int32} (hst : l.stackTraces = false) (hL : L ≤ 2562) (C0 : lw_At p s m meth c b L xs) (hok : xt_ok s) (hnk : xt_nk s) {x a1 a2 a5 a6 a7 y b1 b2 b3 b4 b5 b6 b7 b8 b9 b10 q : Nat} {cI cJ cZ : ClassId} {nD nR : Nat} (hK : va_K (dC, dI) vwCl [(cI, .int), (cJ, .long), (cZ, .boolean)] s) : ∀ (n i : Nat), i ≤ L + 2 → L + 3 ≤ i + n → ∀ (a3 a4 : Nat) (dv : Nat → Int64) (r : Nat → Nat) (cap : Nat) (ti va ev ed : Nat → Int64) (ec : Nat) (ad : Nat → Int32) (ac : Nat) (now : Int64) (th : Nat) (vs : Nat → Int64) (mac : Nat → Bool) (o : Nat → Nat) (mt mw : Nat → Int64) (zs : List ZT) (nv dl : Nat → Int64) (rt rv : Nat → Int64) (mk : Nat → Bool) (ou : Nat → Int64) (G : Nat) (H : Heap) (locs : List Loc), wrel nD nR cap ec ac dv r ti va ev ed ad now vs mac zs nv dl → wz zs o mt mw → (G ≤ 4 * cap ∨ cap = nR ∧ G ≤ 6 * nR) → va_P (dC, dI) vwCl (wlw x a1 a2 a3 a4 a5 a6 a7 y b1 b2 b3 b4 b5 b6 b7 b8 b9 b10 q cI cJ cZ nD nR dv r cap ti va ev ed ec ad ac now th vs mac now o mt mw zs.length nv dl ec rt rv mk ou) H → va_D (fun z : Nat => s.heap.size ≤ z) (wlw x a1 a2 a3 a4 a5 a6 a7 y b1 b2 b3 b4 b5 b6 b7 b8 b9 b10 q cI cJ cZ nD nR dv r cap ti va ev ed ec ad ac now th vs mac now o mt mw zs.length nv dl ec rt rv mk ou) → va_S (fun z : Nat => s.heap.size ≤ z) s.heap H locs → ∀ ls : Array Slot, lv_has ls 8 [(0, .ref b), (1, .ref x), (2, .ref y), (3, .ref q), (4, .int (nI i))] → W p l e room_1 s m #[Value.ref b] below meth c H locs (20 + 2 * i) (70000 + 6 * i + G) (lw_Z below #[Value.ref b] s) (F0 m 43 ls []) := by
  obtain ⟨hx, hb, hr, hml, hown, hts, hX, hbl, hlocks, hgv⟩ := id C0
  have hA : ∀ z : Nat, s.heap.size ≤ z → (fun z : Nat => s.heap.size ≤ z) z := fun _ h => h
  have hbA : ¬ (fun z : Nat => s.heap.size ≤ z) b := Nat.not_le.mpr hbl
  intro n
  induction n with
  | zero => intro i h1 h2; exact absurd h2 (by omega)
  | succ n ih =>
    intro i hi hin a3 a4 dv r cap ti va ev ed ec ad ac now th vs mac o mt mw zs nv dl rt rv mk ou G H locs hR hZ hG hP hD hS ls hl
    obtain ⟨hnD1, hnD, hnR1, hnR, hcap, -⟩ := id hR.1
    have hG6 : G ≤ 49152 := by omega
    refine lv_iload hx hb dL_law_43 (lv_at hl 4 rfl) ?_
    refine lv_aload_n hx hb dL_law_45 rfl (lv_at hl 0 rfl) ?_
    refine va_slen hx hb hX hbl hbA hS dL_law_46 ?_
    refine lv_iconst (v := 5) hx hb dL_law_47 (by decide) ?_
    refine lv_isub hx hb dL_law_48 ?_
    refine lv_icmp_gt (tgt := 926) hx hb dL_law_49 (by decide) (fun c_1 => ?_) (fun c_1 => ?_)
    · refine lv_iconst (v := 1) hx hb dL_law_926 (by decide) ?_
      refine va_forget (fun q hq => hS.2.2 q hq) ?_
      refine W.widen (k := 601024) (n := 7293000) (by omega) (by omega) ?_
      exact lw_ret hx hb hr hlocks dL_law_927
    have h5 := xw_i (by omega) hL c_1
    have KK : lwK p l e s m below meth c dC dI b x a1 a2 a5 a6 a7 y b1 b2 b3 b4 b5 b6 b7 b8 b9 b10 q cI cJ cZ nD nR i := by
      intro a3 a4 dv r cap ti va ev ed ec ad ac now th vs mac o mt mw zs nv dl rt rv mk ou G H locs hR hZ hG hP hD hS ls hl
      refine lv_iinc (v := nI (i + 5)) (lv' := [(4, .int (nI (i + 5))), (0, .ref b), (1, .ref x), (2, .ref y), (3, .ref q)]) hx hb dL_law_920 hl (k := 4) rfl (nI_add i 5) (by decide) rfl (fun ls hl => ?_)
      refine lv_goto (tgt := 43) hx hb dL_law_923 (by decide) ?_
      refine W.widen (k := 20 + 2 * (i + 5)) (n := 70000 + 6 * (i + 5) + G) (by omega) (by omega) ?_
      exact ih (i + 5) (by omega) (by omega) a3 a4 dv r cap ti va ev ed ec ad ac now th vs mac o mt mw zs nv dl rt rv mk ou G H locs hR hZ hG hP hD hS ls (lv_sub hl [1, 2, 3, 4, 0] rfl)
    refine lv_aload_n hx hb dL_law_52 rfl (lv_at hl 0 rfl) ?_
    refine lv_iload hx hb dL_law_53 (lv_at hl 4 rfl) ?_
    refine va_sld hx hb hX hbl hbA hS (vp_in_nI (show i < L by omega) (by omega)) dL_law_55 ?_
    refine lv_bipush (v := 15) hx hb dL_law_56 (by decide) ?_
    refine lv_iand hx hb dL_law_58 ?_
    refine lv_topi (fun z ez => ?_)
    by_cases c0 : z.toInt < 0 ∨ 12 < z.toInt
    · refine lv_tableOut (tgt := 920) hx hb dL_law_59 c0 (by decide) ?_
      refine W.widen (k := 20 + 2 * i + 2) (n := 70000 + 6 * i + 6 + G) (by omega) (by omega) ?_
      exact KK a3 a4 dv r cap ti va ev ed ec ad ac now th vs mac o mt mw zs nv dl rt rv mk ou G H locs hR hZ hG hP hD hS ls hl
    obtain k0 | k1 | k2 | k3 | k4 | k5 | k6 | k7 | k8 | k9 | k10 | k11 | k12 : z.toInt = 0 ∨ z.toInt = 1 ∨ z.toInt = 2 ∨ z.toInt = 3 ∨ z.toInt = 4 ∨ z.toInt = 5 ∨ z.toInt = 6 ∨ z.toInt = 7 ∨ z.toInt = 8 ∨ z.toInt = 9 ∨ z.toInt = 10 ∨ z.toInt = 11 ∨ z.toInt = 12 := by omega
    · refine lv_tableIn (off := 65) (tgt := 124) hx hb dL_law_59 (by omega) (by omega) (by rw [k0]; rfl) (by decide) ?_
      exact l_element hst hL C0 hok hnk hK i h5 KK a3 a4 dv r cap ti va ev ed ec ad ac now th vs mac o mt mw zs nv dl rt rv mk ou G H locs hR hZ hG hP hD hS ls hl
    · refine lv_tableIn (off := 177) (tgt := 236) hx hb dL_law_59 (by omega) (by omega) (by rw [k1]; rfl) (by decide) ?_
      exact l_drop hst hL C0 hok hnk hK i h5 KK a3 a4 dv r cap ti va ev ed ec ad ac now th vs mac o mt mw zs nv dl rt rv mk ou G H locs hR hZ hG hP hD hS ls hl
    · refine lv_tableIn (off := 190) (tgt := 249) hx hb dL_law_59 (by omega) (by omega) (by rw [k2]; rfl) (by decide) ?_
      exact l_assign hst hL C0 hok hnk hK i h5 KK a3 a4 dv r cap ti va ev ed ec ad ac now th vs mac o mt mw zs nv dl rt rv mk ou G H locs hR hZ hG hP hD hS ls hl
    · refine lv_tableIn (off := 302) (tgt := 361) hx hb dL_law_59 (by omega) (by omega) (by rw [k3]; rfl) (by decide) ?_
      exact l_start hst hL C0 hok hnk hK i h5 KK a3 a4 dv r cap ti va ev ed ec ad ac now th vs mac o mt mw zs nv dl rt rv mk ou G H locs hR hZ hG hP hD hS ls hl
    · refine lv_tableIn (off := 402) (tgt := 461) hx hb dL_law_59 (by omega) (by omega) (by rw [k4]; rfl) (by decide) ?_
      exact l_advance hst hL C0 hok hnk hK i h5 KK a3 a4 dv r cap ti va ev ed ec ad ac now th vs mac o mt mw zs nv dl rt rv mk ou G H locs hR hZ hG hP hD hS ls hl
    · refine lv_tableIn (off := 490) (tgt := 549) hx hb dL_law_59 (by omega) (by omega) (by rw [k5]; rfl) (by decide) ?_
      exact l_active hst hL C0 hok hnk hK i h5 KK a3 a4 dv r cap ti va ev ed ec ad ac now th vs mac o mt mw zs nv dl rt rv mk ou G H locs hR hZ hG hP hD hS ls hl
    · refine lv_tableIn (off := 515) (tgt := 574) hx hb dL_law_59 (by omega) (by omega) (by rw [k6]; rfl) (by decide) ?_
      exact l_now hst hL C0 hok hnk hK i h5 KK a3 a4 dv r cap ti va ev ed ec ad ac now th vs mac o mt mw zs nv dl rt rv mk ou G H locs hR hZ hG hP hD hS ls hl
    · refine lv_tableIn (off := 529) (tgt := 588) hx hb dL_law_59 (by omega) (by omega) (by rw [k7]; rfl) (by decide) ?_
      exact l_next hst hL C0 hok hnk hK i h5 KK a3 a4 dv r cap ti va ev ed ec ad ac now th vs mac o mt mw zs nv dl rt rv mk ou G H locs hR hZ hG hP hD hS ls hl
    · refine lv_tableIn (off := 543) (tgt := 602) hx hb dL_law_59 (by omega) (by omega) (by rw [k8]; rfl) (by decide) ?_
      exact l_value hst hL C0 hok hnk hK i h5 KK a3 a4 dv r cap ti va ev ed ec ad ac now th vs mac o mt mw zs nv dl rt rv mk ou G H locs hR hZ hG hP hD hS ls hl
    · refine lv_tableIn (off := 598) (tgt := 657) hx hb dL_law_59 (by omega) (by omega) (by rw [k9]; rfl) (by decide) ?_
      exact l_count hst hL C0 hok hnk hK i h5 KK a3 a4 dv r cap ti va ev ed ec ad ac now th vs mac o mt mw zs nv dl rt rv mk ou G H locs hR hZ hG hP hD hS ls hl
    · refine lv_tableIn (off := 654) (tgt := 713) hx hb dL_law_59 (by omega) (by omega) (by rw [k10]; rfl) (by decide) ?_
      by_cases hz0 : xs (i + 3) = 0
      · exact l_at0 hst hL C0 hok hnk hK i h5 hz0 KK a3 a4 dv r cap ti va ev ed ec ad ac now th vs mac o mt mw zs nv dl rt rv mk ou G H locs hR hZ hG hP hD hS ls hl
      · exact l_at1 hst hL C0 hok hnk hK i h5 hz0 KK a3 a4 dv r cap ti va ev ed ec ad ac now th vs mac o mt mw zs nv dl rt rv mk ou G H locs hR hZ hG hP hD hS ls hl
    · refine lv_tableIn (off := 749) (tgt := 808) hx hb dL_law_59 (by omega) (by omega) (by rw [k11]; rfl) (by decide) ?_
      exact l_projected hst hL C0 hok hnk hK i h5 KK a3 a4 dv r cap ti va ev ed ec ad ac now th vs mac o mt mw zs nv dl rt rv mk ou G H locs hR hZ hG hP hD hS ls hl
    · refine lv_tableIn (off := 848) (tgt := 907) hx hb dL_law_59 (by omega) (by omega) (by rw [k12]; rfl) (by decide) ?_
      exact l_total hst hL C0 hok hnk hK i h5 KK a3 a4 dv r cap ti va ev ed ec ad ac now th vs mac o mt mw zs nv dl rt rv mk ou G H locs hR hZ hG hP hD hS ls hl
