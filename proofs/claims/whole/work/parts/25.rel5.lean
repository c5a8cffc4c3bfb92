/-! the row that an assignment leaves -/
def wrl (fs lm : Int64) (mo : Int32) (L : List PT) : List XT := (L.filter (fun e => decide (e.1 < fs))).map (fun e => (e.1, e.2, decide (mo = 1 ∨ e.1 < fs - lm)))
theorem wro_rl (d : Nat) (fs lm : Int64) (mo : Int32) : ∀ zs : List ZT, wro d fs lm mo zs = wrl fs lm mo (wrw d zs)
  | [] => rfl
  | z :: tl => by
    have ih := wro_rl d fs lm mo tl
    show (if z.1 = d ∧ z.2.1 < fs then (z.2.1, z.2.2, decide (mo = 1 ∨ z.2.1 < fs - lm)) :: wro d fs lm mo tl else wro d fs lm mo tl) = wrl fs lm mo (if z.1 = d then z.2 :: wrw d tl else wrw d tl)
    rw [ih]
    by_cases q : z.1 = d
    · rw [if_pos q]
      unfold wrl
      by_cases q2 : z.2.1 < fs
      · rw [if_pos ⟨q, q2⟩, List.filter_cons_of_pos (by simpa using q2)]; rfl
      · rw [if_neg (fun h => q2 h.2), List.filter_cons_of_neg (by simpa using q2)]
    · rw [if_neg q, if_neg (fun h => q h.1)]
theorem wtk_iff {t : Int64} : ∀ {L : List PT}, wup L → ∀ {j : Nat} {e : PT}, L[j]? = some e → (e.1 ≤ t ↔ j < wtk t L)
  | [], _, _, _, h => by cases h
  | x :: tl, hu, j, e, h => by
    have h2 := List.pairwise_cons.mp hu
    by_cases q : x.1 ≤ t
    · have hk : wtk t (x :: tl) = wtk t tl + 1 := if_pos q
      rw [hk]
      cases j with
      | zero => cases h; exact ⟨fun _ => by omega, fun _ => q⟩
      | succ j =>
        have := wtk_iff h2.2 (j := j) (e := e) (t := t) h
        exact ⟨fun a => by have := this.mp a; omega, fun a => this.mpr (by omega)⟩
    · have hk : wtk t (x :: tl) = 0 := if_neg q
      rw [hk]
      refine ⟨fun a => absurd a ?_, fun a => absurd a (Nat.not_lt_zero j)⟩
      cases j with
      | zero => cases h; exact q
      | succ j => exact i64_lt_le q (h2.1 e (List.mem_of_getElem? h))
theorem wsg_mem {f g : Nat → Int64} {n a : Nat} {e : PT} (h : e ∈ wsg f g n a) : ∃ j, j < n ∧ e = (f (a + j), g (a + j)) := by
  obtain ⟨j, hj⟩ := List.getElem?_of_mem h
  have hl : j < n := by
    have := (List.getElem?_eq_some_iff.mp hj).1
    rw [wsg_len] at this
    exact this
  rw [wsg_get f g n a j hl] at hj
  exact ⟨j, hl, (Option.some.inj hj).symm⟩
theorem wsg_up {f g : Nat → Int64} : ∀ {n a : Nat}, (∀ i j, i < j → j < n → f (a + i) < f (a + j)) → wup (wsg f g n a) := by
  intro n
  induction n with
  | zero => intro a _; exact List.Pairwise.nil
  | succ n ih =>
    intro a h
    refine List.pairwise_cons.mpr ⟨fun e he => ?_, ih (fun i j h1 h2 => by
      have := h (i + 1) (j + 1) (by omega) (by omega)
      rw [show a + (i + 1) = a + 1 + i by omega, show a + (j + 1) = a + 1 + j by omega] at this
      exact this)⟩
    obtain ⟨j, hj, rfl⟩ := wsg_mem he
    have := h 0 (j + 1) (by omega) (by omega)
    rw [Nat.add_zero, show a + (j + 1) = a + 1 + j by omega] at this
    exact this
section WREL4
variable {nD nR cap ec ac : Nat} {dv : Nat → Int64} {r : Nat → Nat} {ti va ev ed : Nat → Int64} {ad : Nat → Int32} {now : Int64} {vs : Nat → Int64} {mac : Nat → Bool} {zs : List ZT} {nv dl : Nat → Int64}
theorem wrel_cut (h : wrel nD nR cap ec ac dv r ti va ev ed ad now vs mac zs nv dl) {d : Nat} {mo : Int32} {t : Int64} (hd : d < nD) (hz : 0 < ec) (hg : wf_lg mo (ed 0) t ∧ wf_dg ed now ec 0 (-1)) {cut pl sm : Nat} (hcut : cut = wf_fb ti (now + ed 0 - 1) (r (d + 1) - r d) (r d)) (hpl : pl = wf_fb ti (now + ed 0 - wf_lim mo (ed 0) t - 1) (cut - r d) (r d)) (hsm : sm = wf_ss va (ev 0) pl (cut - pl)) {lm : Int64} (hlm : lm = if mo = 0 then dl 0 else t) :
    (r d ≤ pl ∧ pl ≤ sm ∧ sm ≤ cut ∧ cut ≤ r (d + 1)) ∧ (∀ j, r d ≤ j → j < cut → ti j < now + ed 0) ∧ wmr (wro d (now + dl 0) lm mo zs ++ wel now dl nv ec 0) = wxt ti va pl sm (cut - r d) (r d) ++ wel now dl nv ec 0 ∧ (wro d (now + dl 0) lm mo zs).length = cut - r d := by
  obtain ⟨hr, hu⟩ := h.2.2.2.2.2.1 d hd
  have hel := h.2.2.2.2.1
  have hs := wrel_sum h (j := 0) hz
  have hdd := h.1.2.2.2.2.2.2.2.2.1 d hd
  have c1 := wf_fb_le ti (now + ed 0 - 1) (r (d + 1) - r d) (r d)
  rw [← hcut] at c1
  have c2 := wf_fb_le ti (now + ed 0 - wf_lim mo (ed 0) t - 1) (cut - r d) (r d)
  rw [← hpl] at c2
  have c3 := wf_ss_le va (ev 0) pl (cut - pl)
  rw [← hsm] at c3
  have hfs : ∀ e : Int64, e ≤ now + ed 0 - 1 ↔ e < now + ed 0 := fun e => i64_pred (by rw [hs.1]; omega) (by rw [hs.1]; omega)
  have ec0 : cut - r d = wtk (now + ed 0 - 1) (wrw d zs) := by rw [hcut, wfb_tk ti va, ← hr]; omega
  have htk : (wrw d zs).filter (fun e => decide (e.1 < now + ed 0)) = wsg ti va (cut - r d) (r d) := by
    have e1 : (fun e : PT => decide (e.1 < now + ed 0)) = fun e : PT => decide (e.1 ≤ now + ed 0 - 1) := by
      funext e
      exact decide_eq_decide.mpr (hfs e.1).symm
    rw [e1, wup_take hu, ← ec0]
    have e2 := wsg_take ti va (r (d + 1) - r d) (r d) (cut - r d) (by omega)
    rw [← hr] at e2
    exact e2
  have hu2 : wup (wsg ti va (cut - r d) (r d)) := by
    rw [← htk]
    exact hu.filter _
  have hbel : ∀ j, r d ≤ j → j < cut → ti j < now + ed 0 := by
    intro j h1 h2
    have hm : (ti j, va j) ∈ (wrw d zs).filter (fun e => decide (e.1 < now + ed 0)) := by
      rw [htk]
      have := wsg_get ti va (cut - r d) (r d) (j - r d) (by omega)
      rw [show r d + (j - r d) = j by omega] at this
      exact List.mem_of_getElem? this
    simpa using (List.mem_filter.mp hm).2
  have hlim : (0 : Int) ≤ (wf_lim mo (ed 0) t).toInt ∧ (wf_lim mo (ed 0) t).toInt ≤ (ed 0).toInt ∧ (mo ≠ 1 → lm = wf_lim mo (ed 0) t) ∧ (mo = 1 → wf_lim mo (ed 0) t = 0) := by
    have e0 : (0 : Int64).toInt = 0 := by decide
    rw [hlm, (hel 0 hz).2.1]
    rcases hg.1 with ⟨m2, t1, t2⟩ | m0 | m1
    · have n0 : ¬ mo = 0 := by rw [m2]; decide
      have e1 : wf_lim mo (ed 0) t = t := by unfold wf_lim; rw [if_neg n0, if_pos m2]
      rw [e1, if_neg n0]
      rw [Int64.lt_iff_toInt_lt] at t1 t2
      rw [e0] at t1
      exact ⟨by omega, by omega, fun _ => rfl, fun q => absurd q (by rw [m2]; decide)⟩
    · have e1 : wf_lim mo (ed 0) t = ed 0 := by unfold wf_lim; rw [if_pos m0]
      rw [e1, if_pos m0]
      exact ⟨hs.2.2.2.1, Int.le_refl _, fun _ => rfl, fun q => absurd q (by rw [m0]; decide)⟩
    · have e1 : wf_lim mo (ed 0) t = 0 := by unfold wf_lim; rw [if_neg (by rw [m1]; decide), if_neg (by rw [m1]; decide)]
      rw [e1, e0]
      exact ⟨Int.le_refl _, hs.2.2.2.1, fun q => absurd m1 q, fun _ => rfl⟩
  have hsub : (now + ed 0 - wf_lim mo (ed 0) t).toInt = now.toInt + (ed 0).toInt - (wf_lim mo (ed 0) t).toInt := by
    rw [i64_sub (by rw [hs.1]; omega) (by rw [hs.1]; omega), hs.1]
  have hpred : ∀ e : Int64, e ≤ now + ed 0 - wf_lim mo (ed 0) t - 1 ↔ e < now + ed 0 - wf_lim mo (ed 0) t := fun e => i64_pred (by rw [hsub]; omega) (by rw [hsub]; omega)
  have ep : pl = r d + wtk (now + ed 0 - wf_lim mo (ed 0) t - 1) (wsg ti va (cut - r d) (r d)) := by rw [hpl]; exact wfb_tk ti va _ _ _
  have hmark : ∀ j, j < cut - r d → (mo = 1 ∨ ti (r d + j) < now + ed 0 - lm ↔ r d + j < pl) := by
    intro j hj
    have i1 := wtk_iff (t := now + ed 0 - wf_lim mo (ed 0) t - 1) hu2 (wsg_get ti va (cut - r d) (r d) j hj)
    have i2 : r d + j < pl ↔ ti (r d + j) < now + ed 0 - wf_lim mo (ed 0) t := by
      rw [← hpred]
      exact ⟨fun a => i1.mpr (by omega), fun a => by have := i1.mp a; omega⟩
    rw [i2]
    by_cases q : mo = 1
    · rw [hlim.2.2.2 q]
      refine ⟨fun _ => ?_, fun _ => Or.inl q⟩
      have e0 : now + ed 0 - 0 = now + ed 0 := Int64.sub_zero _
      rw [e0]
      exact hbel _ (by omega) (by omega)
    · rw [hlim.2.2.1 q]
      exact ⟨fun a => a.resolve_left q, Or.inr⟩
  have hro : wro d (now + dl 0) lm mo zs = wxs ti va pl (cut - r d) (r d) := by
    rw [wro_rl, (hel 0 hz).2.1]
    unfold wrl
    rw [htk]
    refine wxs_map (fun j hj => ?_)
    show (ti (r d + j), va (r d + j), decide (mo = 1 ∨ ti (r d + j) < now + ed 0 - lm)) = _
    rw [decide_eq_decide.mpr (hmark j hj)]
  refine ⟨⟨by omega, by omega, by omega, by omega⟩, hbel, ?_, by rw [hro, wxs_len]⟩
  rw [hro]
  obtain ⟨n', hn'⟩ : ∃ n', ec = n' + 1 := ⟨ec - 1, by omega⟩
  refine wmr_xs (E := cut) (v := ev 0) (e0 := (now + dl 0, nv 0, true)) (fun j e he => wel_mark now dl nv ec 0 j e he) (by rw [hn']; rfl) (hel 0 hz).1 (by omega) hsm _ _ (by omega)
theorem wrel_st (h : wrel nD nR cap ec ac dv r ti va ev ed ad now vs mac zs nv dl) {d : Nat} {mo : Int32} {t : Int64} (hd : d < nD) (hz : 0 < ec) (hg : wf_lg mo (ed 0) t ∧ wf_dg ed now ec 0 (-1)) {cut pl sm : Nat} (hcut : cut = wf_fb ti (now + ed 0 - 1) (r (d + 1) - r d) (r d)) (hpl : pl = wf_fb ti (now + ed 0 - wf_lim mo (ed 0) t - 1) (cut - r d) (r d)) (hsm : sm = wf_ss va (ev 0) pl (cut - pl)) {lm : Int64} (hlm : lm = if mo = 0 then dl 0 else t) :
    wst (wro d (now + dl 0) lm mo zs).length (wmr (wro d (now + dl 0) lm mo zs ++ wel now dl nv ec 0)) = (pl - r d) + (cut - sm) := by
  obtain ⟨⟨a1, a2, a3, a4⟩, -, e1, e2⟩ := wrel_cut h hd hz hg hcut hpl hsm hlm
  have e3 := wxt_len ti va pl sm (cut - r d) (r d)
  rw [e1, e2]
  have e4 := wkp_st (wxt ti va pl sm (cut - r d) (r d)) (wel now dl nv ec 0)
  rw [e3] at e4
  rw [e4, wkp_xt (by omega) a2 (by omega), List.length_append, wsg_len, wsg_len]
  omega
theorem wrel_assign {cap' : Nat} {T1 V1 : Nat → Int64} (h : wrel nD nR cap ec ac dv r ti va ev ed ad now vs mac zs nv dl) {d : Nat} {mo : Int32} {t : Int64} (hd : d < nD) (hz : 0 < ec) (hg : wf_lg mo (ed 0) t ∧ wf_dg ed now ec 0 (-1)) {cut pl sm : Nat} (hcut : cut = wf_fb ti (now + ed 0 - 1) (r (d + 1) - r d) (r d)) (hpl : pl = wf_fb ti (now + ed 0 - wf_lim mo (ed 0) t - 1) (cut - r d) (r d)) (hsm : sm = wf_ss va (ev 0) pl (cut - pl)) {lm : Int64} (hlm : lm = if mo = 0 then dl 0 else t)
    (hroom : r nD - (sm - pl + (r (d + 1) - cut)) + ec ≤ nR) (hq : r nD + (pl + cut - sm + ec) - r (d + 1) ≤ cap') (hc8 : cap' ≤ 8192) (hT : ∀ j, j < r nD → T1 j = va_cpy ti ti sm pl (cut - sm) j) (hV : ∀ j, j < r nD → V1 j = va_cpy va va sm pl (cut - sm) j) :
    wrel nD nR cap' 0 ac dv (wf_sh r d (pl + cut - sm + ec) (r (d + 1)) (nD + 1)) (wf_pt (va_cpy T1 T1 (r (d + 1)) (pl + cut - sm + ec) (r nD - r (d + 1))) (pl + cut - sm) (fun i => now + ed i) ec) (wf_pt (va_cpy V1 V1 (r (d + 1)) (pl + cut - sm + ec) (r nD - r (d + 1))) (pl + cut - sm) ev ec) ev ed ad now vs mac (wot d zs ++ wml d (wmr (wro d (now + dl 0) lm mo zs ++ wel now dl nv ec 0))) nv dl := by
  obtain ⟨⟨a1, a2, a3, a4⟩, hbel, e1, e2⟩ := wrel_cut h hd hz hg hcut hpl hsm hlm
  have hs := fun j hj => wrel_sum h (j := j) hj
  have h' := h
  obtain ⟨hI, b2, b3, b4, b5, b6, b7, b8, b9⟩ := h
  have hI' := hI
  obtain ⟨g1, g2, g3, g4, g5, g6, g7, g8, g9, g10, g11⟩ := hI
  have hdd := g9 d hd
  have hdn := wf_le g9 (show d + 1 ≤ nD by omega) (Nat.le_refl _)
  have hdg := (wdg_iff ed now ec 0 (-1)).mp hg.2
  rw [e1]
  -- the new row
  have hrow : wrw d (wot d zs ++ wml d (wxt ti va pl sm (cut - r d) (r d) ++ wel now dl nv ec 0)) = wsg ti va (pl - r d) (r d) ++ wsg ti va (cut - sm) sm ++ wsg (fun i => now + ed i) ev ec 0 := by
    rw [wrw_app, wrw_wot_s, List.nil_append, wrw_ml_s, wkp_app, wkp_xt (by omega) a2 (by omega), wkp_el, show r d + (cut - r d) - sm = cut - sm by omega]
    congr 1
    exact wsg_congr (fun j hj => by rw [Nat.zero_add]; exact ⟨by show now + dl j = now + ed j; rw [(b5 j hj).2.1], (b5 j hj).1⟩)
  have ho : ∀ k, k < nD → k ≠ d → wrw k (wot d zs ++ wml d (wxt ti va pl sm (cut - r d) (r d) ++ wel now dl nv ec 0)) = wrw k zs := fun k _ hk => by
    rw [wrw_app, wrw_wot_o hk, wrw_ml_o hk, List.append_nil]
  have helr : ∀ i j, i < j → j < ec → (ed i).toInt < (ed j).toInt := by
    intro i j hij
    induction j with
    | zero => intro _; omega
    | succ j ih =>
      intro hj
      have := (hdg (j + 1) hj).1
      rw [if_neg (by omega), Nat.zero_add, Nat.add_sub_cancel, Int64.lt_iff_toInt_lt] at this
      by_cases q : i = j
      · subst q; exact this
      · have := ih (by omega) (by omega)
        omega
  have hat : ∀ j, r d ≤ j → j < r (d + 1) → (ti j, va j) ∈ wrw d zs := by
    intro j h1 h2
    rw [(b6 d hd).1]
    have := wsg_get ti va (r (d + 1) - r d) (r d) (j - r d) (by omega)
    rw [show r d + (j - r d) = j by omega] at this
    exact List.mem_of_getElem? this
  have hold : ∀ e ∈ wsg ti va (pl - r d) (r d) ++ wsg ti va (cut - sm) sm, ∃ j, r d ≤ j ∧ j < cut ∧ e = (ti j, va j) := by
    intro e he
    rcases List.mem_append.mp he with he | he
    · obtain ⟨j, hj, rfl⟩ := wsg_mem he
      exact ⟨r d + j, by omega, by omega, rfl⟩
    · obtain ⟨j, hj, rfl⟩ := wsg_mem he
      exact ⟨sm + j, by omega, by omega, rfl⟩
  have hup : wup (wsg ti va (pl - r d) (r d) ++ wsg ti va (cut - sm) sm ++ wsg (fun i => now + ed i) ev ec 0) := by
    refine List.pairwise_append.mpr ⟨?_, wsg_up (fun i j hij hj => ?_), fun x hx y hy => ?_⟩
    · have hu := (b6 d hd).2
      rw [(b6 d hd).1] at hu
      refine List.Pairwise.sublist ?_ hu
      have q1 := wsg_add ti va (pl - r d) ((sm - pl) + ((cut - sm) + (r (d + 1) - cut))) (r d)
      have q2 := wsg_add ti va (sm - pl) ((cut - sm) + (r (d + 1) - cut)) pl
      have q3 := wsg_add ti va (cut - sm) (r (d + 1) - cut) sm
      rw [show r d + (pl - r d) = pl by omega, q2, show pl + (sm - pl) = sm by omega, q3, show pl - r d + ((sm - pl) + ((cut - sm) + (r (d + 1) - cut))) = r (d + 1) - r d by omega] at q1
      rw [q1]
      exact List.Sublist.append (List.Sublist.refl _) ((List.sublist_append_left _ _).trans (List.sublist_append_right _ _))
    · rw [Nat.zero_add, Nat.zero_add, Int64.lt_iff_toInt_lt, (hs i (by omega)).1, (hs j hj).1]
      have := helr i j hij hj
      omega
    · obtain ⟨j, h1, h2, rfl⟩ := hold x hx
      obtain ⟨k, hk, rfl⟩ := wsg_mem hy
      have q1 := hbel j h1 h2
      show ti j < now + ed (0 + k)
      rw [Nat.zero_add, Int64.lt_iff_toInt_lt, (hs k hk).1]
      rw [Int64.lt_iff_toInt_lt, (hs 0 hz).1] at q1
      rcases Nat.eq_zero_or_pos k with z | z
      · subst z; exact q1
      · have := helr 0 k z hk
        omega
  have hrows := wput_rows (d := d) (e := pl + cut - sm + ec) (ti' := wf_pt (va_cpy T1 T1 (r (d + 1)) (pl + cut - sm + ec) (r nD - r (d + 1))) (pl + cut - sm) (fun i => now + ed i) ec) (va' := wf_pt (va_cpy V1 V1 (r (d + 1)) (pl + cut - sm + ec) (r nD - r (d + 1))) (pl + cut - sm) ev ec) (zs' := wot d zs ++ wml d (wxt ti va pl sm (cut - r d) (r d) ++ wel now dl nv ec 0)) g9 hd (by omega)
    (fun j hj => by
      unfold wf_pt
      rw [if_neg (by omega), if_neg (by omega), pk_cpy_out (Or.inl (by omega)), pk_cpy_out (Or.inl (by omega)), hT j (by omega), hV j (by omega), pk_cpy_out (Or.inl (by omega)), pk_cpy_out (Or.inl (by omega))]
      exact ⟨rfl, rfl⟩)
    (fun i hi => by
      unfold wf_pt
      rw [if_neg (by omega), if_neg (by omega), pk_cpy_in (by omega) (by omega), pk_cpy_in (by omega) (by omega), show r (d + 1) + (pl + cut - sm + ec + i - (pl + cut - sm + ec)) = r (d + 1) + i by omega, hT _ (by omega), hV _ (by omega), pk_cpy_out (Or.inr (by omega)), pk_cpy_out (Or.inr (by omega))]
      exact ⟨rfl, rfl⟩)
    (fun k hk => (b6 k hk).1) ho (by
      rw [hrow, show pl + cut - sm + ec - r d = (pl - r d) + ((cut - sm) + ec) by omega, wsg_add _ _ (pl - r d), wsg_add _ _ (cut - sm), show r d + (pl - r d) = pl by omega, show pl + (cut - sm) = pl + cut - sm by omega, List.append_assoc]
      congr 1
      · refine wsg_congr (fun j hj => ?_)
        unfold wf_pt
        rw [if_neg (by omega), if_neg (by omega), pk_cpy_out (Or.inl (by omega)), pk_cpy_out (Or.inl (by omega)), hT _ (by omega), hV _ (by omega), pk_cpy_out (Or.inl (by omega)), pk_cpy_out (Or.inl (by omega))]
        exact ⟨rfl, rfl⟩
      · congr 1
        · refine wsg_congr (fun j hj => ?_)
          unfold wf_pt
          rw [if_neg (by omega), if_neg (by omega), pk_cpy_out (Or.inl (by omega)), pk_cpy_out (Or.inl (by omega)), hT _ (by omega), hV _ (by omega), pk_cpy_in (by omega) (by omega), pk_cpy_in (by omega) (by omega), show sm + (pl + j - pl) = sm + j by omega]
          exact ⟨rfl, rfl⟩
        · refine wsg_congr (fun j hj => ?_)
          unfold wf_pt
          rw [if_pos (by omega), if_pos (by omega), show pl + cut - sm + j - (pl + cut - sm) = j by omega, Nat.zero_add]
          exact ⟨rfl, rfl⟩)
  have hnew : ∀ z ∈ wot d zs ++ wml d (wxt ti va pl sm (cut - r d) (r d) ++ wel now dl nv ec 0), z.1 < nD ∧ now ≤ z.2.1 ∧ z.2.1 ≤ 1152921504606846976 := by
    intro z hzm
    rcases List.mem_append.mp hzm with hm | hm
    · have := (List.mem_filter.mp hm).1
      exact ⟨b2 z this, b7 z this⟩
    · have h1 := wml_own d _ z hm
      have h2 : z.2 ∈ wrw d (wot d zs ++ wml d (wxt ti va pl sm (cut - r d) (r d) ++ wel now dl nv ec 0)) := wrw_mem.mpr (by have e : (d, z.2) = z := (by rw [← h1]); rw [e]; exact hzm)
      rw [hrow] at h2
      refine ⟨by rw [h1]; exact hd, ?_⟩
      rcases List.mem_append.mp h2 with h2 | h2
      · obtain ⟨j, k1, k2, e⟩ := hold _ h2
        have := wrw_mem.mp (hat j k1 (by omega))
        rw [e]
        exact b7 _ this
      · obtain ⟨j, hj, e⟩ := wsg_mem h2
        rw [e]
        show now ≤ now + ed (0 + j) ∧ now + ed (0 + j) ≤ 1152921504606846976
        rw [Nat.zero_add]
        refine ⟨?_, by have := (hdg j hj).2; rw [Nat.zero_add] at this; exact this⟩
        rw [Int64.le_iff_toInt_le, (hs j hj).1]
        have := (hs j hj).2.2.2.1
        omega
  refine ⟨wput_R hI' hd (by omega) (by omega) (by omega) hc8 (by omega), fun z hz => (hnew z hz).1, b3, b4, fun j hj => absurd hj (Nat.not_lt_zero j), fun k hk => ⟨hrows k hk, ?_⟩, fun z hz => (hnew z hz).2, b8, b9⟩
  by_cases q : k = d
  · subst q
    rw [hrow]
    exact hup
  · rw [ho k hk q]
    exact (b6 k hk).2
end WREL4
