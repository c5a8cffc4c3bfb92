/-! what changes keep of the relation -/
section WREL2
variable {nD nR cap ec ac : Nat} {dv : Nat → Int64} {r : Nat → Nat} {ti va ev ed : Nat → Int64} {ad : Nat → Int32} {now : Int64} {vs : Nat → Int64} {mac : Nat → Bool} {zs : List ZT} {nv dl : Nat → Int64}
theorem wrel_drop (h : wrel nD nR cap ec ac dv r ti va ev ed ad now vs mac zs nv dl) : wrel nD nR cap 0 ac dv r ti va ev ed ad now vs mac zs nv dl := by
  obtain ⟨⟨h1, h2, h3, h4, h5, h6, h7, h8, h9, h10, h11⟩, b2, b3, b4, b5, b6, b7, b8, b9⟩ := h
  exact ⟨⟨h1, h2, h3, h4, h5, h6, h7, h8, h9, Nat.zero_le _, h11⟩, b2, b3, b4, fun j hj => absurd hj (Nat.not_lt_zero j), b6, b7, b8, b9⟩
theorem wrel_element (h : wrel nD nR cap ec ac dv r ti va ev ed ad now vs mac zs nv dl) {v t : Int64} (h1 : ¬ t < 0) (h2 : ¬ 1152921504606846976 < t) (h3 : ec < 16) : wrel nD nR cap (ec + 1) ac dv r ti va (vp_updL ev ec v) (vp_updL ed ec t) ad now vs mac zs (vp_updL nv ec v) (vp_updL dl ec t) := by
  obtain ⟨⟨g1, g2, g3, g4, g5, g6, g7, g8, g9, g10, g11⟩, b2, b3, b4, b5, b6, b7, b8, b9⟩ := h
  refine ⟨⟨g1, g2, g3, g4, g5, g6, g7, g8, g9, by omega, g11⟩, b2, b3, b4, fun j hj => ?_, b6, b7, b8, b9⟩
  by_cases q : j = ec
  · subst q
    rw [pk_uLs, pk_uLs, pk_uLs, pk_uLs]
    exact ⟨rfl, rfl, i64_nlt.mp h1, i64_nlt.mp h2⟩
  · rw [pk_uLn q, pk_uLn q, pk_uLn q, pk_uLn q]
    exact b5 j (by omega)
/-- the row d ends at e from now on; those behind it move along -/
theorem wput_R {cap' ec' d e : Nat} (hI : wf_R nD nR cap ec ac r) (hd : d < nD) (he : r d ≤ e) (hroom : r nD + e - r (d + 1) ≤ nR) (hcap : r nD + e - r (d + 1) ≤ cap') (hc8 : cap' ≤ 8192) (hec : ec' ≤ 16) : wf_R nD nR cap' ec' ac (wf_sh r d e (r (d + 1)) (nD + 1)) := by
  obtain ⟨g1, g2, g3, g4, g5, g6, g7, g8, g9, g10, g11⟩ := hI
  have e1 : wf_sh r d e (r (d + 1)) (nD + 1) nD = r nD + e - r (d + 1) := if_pos ⟨hd, by omega⟩
  refine ⟨g1, g2, g3, g4, hc8, by omega, by omega, ?_, fun j hj => ?_, hec, g11⟩
  · exact (if_neg (by omega)).trans g8
  · unfold wf_sh
    have g := g9 j hj
    by_cases q : d < j
    · rw [if_pos ⟨q, by omega⟩, if_pos ⟨by omega, by omega⟩]; omega
    · rw [if_neg (fun h => q h.1)]
      by_cases q2 : d = j
      · subst q2
        rw [if_pos ⟨by omega, by omega⟩]; omega
      · rw [if_neg (fun h => by omega)]; exact g
theorem wput_rows {d e : Nat} {ti' va' : Nat → Int64} {zs' : List ZT} (h9 : ∀ j, j < nD → r j ≤ r (j + 1)) (hd : d < nD) (he : r d ≤ e)
    (hlo : ∀ j, j < r d → ti' j = ti j ∧ va' j = va j) (hhi : ∀ i, i < r nD - r (d + 1) → ti' (e + i) = ti (r (d + 1) + i) ∧ va' (e + i) = va (r (d + 1) + i))
    (hrow : ∀ k, k < nD → wrw k zs = wsg ti va (r (k + 1) - r k) (r k)) (ho : ∀ k, k < nD → k ≠ d → wrw k zs' = wrw k zs) (hs : wrw d zs' = wsg ti' va' (e - r d) (r d)) :
    ∀ k, k < nD → wrw k zs' = wsg ti' va' (wf_sh r d e (r (d + 1)) (nD + 1) (k + 1) - wf_sh r d e (r (d + 1)) (nD + 1) k) (wf_sh r d e (r (d + 1)) (nD + 1) k) := by
  intro k hk
  have hdd := h9 d hd
  by_cases q : k = d
  · subst q
    have e1 : wf_sh r k e (r (k + 1)) (nD + 1) (k + 1) = r (k + 1) + e - r (k + 1) := if_pos ⟨by omega, by omega⟩
    have e2 : wf_sh r k e (r (k + 1)) (nD + 1) k = r k := if_neg (by omega)
    rw [e1, e2, hs, show r (k + 1) + e - r (k + 1) = e by omega]
  · rw [ho k hk q, hrow k hk]
    have hkk := h9 k hk
    by_cases q2 : k < d
    · have e1 : wf_sh r d e (r (d + 1)) (nD + 1) (k + 1) = r (k + 1) := if_neg (by omega)
      have e2 : wf_sh r d e (r (d + 1)) (nD + 1) k = r k := if_neg (by omega)
      have q3 := wf_le h9 (show k + 1 ≤ d by omega) (by omega)
      rw [e1, e2]
      exact wsg_congr (fun j hj => ⟨(hlo _ (by omega)).1.symm, (hlo _ (by omega)).2.symm⟩)
    · have e1 : wf_sh r d e (r (d + 1)) (nD + 1) (k + 1) = r (k + 1) + e - r (d + 1) := if_pos ⟨by omega, by omega⟩
      have e2 : wf_sh r d e (r (d + 1)) (nD + 1) k = r k + e - r (d + 1) := if_pos ⟨by omega, by omega⟩
      have q3 := wf_le h9 (show d + 1 ≤ k by omega) (by omega)
      have q4 := wf_le h9 (show k + 1 ≤ nD by omega) (Nat.le_refl _)
      rw [e1, e2, show r (k + 1) + e - r (d + 1) - (r k + e - r (d + 1)) = r (k + 1) - r k by omega]
      refine wsg_congr (fun j hj => ?_)
      have hh := hhi (r k - r (d + 1) + j) (by omega)
      rw [show e + (r k - r (d + 1) + j) = r k + e - r (d + 1) + j by omega, show r (d + 1) + (r k - r (d + 1) + j) = r k + j by omega] at hh
      exact ⟨hh.1.symm, hh.2.symm⟩
theorem wrw_wot_o {d k : Nat} (h : k ≠ d) : ∀ zs : List ZT, wrw k (wot d zs) = wrw k zs
  | [] => rfl
  | z :: tl => by
    have ih := wrw_wot_o h tl
    by_cases q : z.1 = d
    · have e2 : wrw k (z :: tl) = wrw k tl := if_neg (fun e => h (e.symm.trans q))
      rw [wot_skip q, ih, e2]
    · rw [wot_take q]
      show (if z.1 = k then z.2 :: wrw k (wot d tl) else wrw k (wot d tl)) = (if z.1 = k then z.2 :: wrw k tl else wrw k tl)
      rw [ih]
theorem wrw_wot_s {d : Nat} : ∀ zs : List ZT, wrw d (wot d zs) = []
  | [] => rfl
  | z :: tl => by
    have ih := wrw_wot_s (d := d) tl
    by_cases q : z.1 = d
    · rw [wot_skip q, ih]
    · rw [wot_take q]
      show (if z.1 = d then z.2 :: wrw d (wot d tl) else wrw d (wot d tl)) = []
      rw [if_neg q, ih]
theorem wrel_start (h : wrel nD nR cap ec ac dv r ti va ev ed ad now vs mac zs nv dl) {d : Nat} (hd : d < nD) (t : Int64) :
    wrel nD nR cap ec ac (vp_updL dv d t) (wf_sh r d (r d) (r (d + 1)) (nD + 1)) (va_cpy ti ti (r (d + 1)) (r d) (r nD - r (d + 1))) (va_cpy va va (r (d + 1)) (r d) (r nD - r (d + 1))) ev ed ad now (vp_updL vs d t) mac (wot d zs) nv dl := by
  obtain ⟨hI, b2, b3, b4, b5, b6, b7, b8, b9⟩ := h
  have hI' := hI
  obtain ⟨g1, g2, g3, g4, g5, g6, g7, g8, g9, g10, g11⟩ := hI
  have hdd := g9 d hd
  have hsub : ∀ z ∈ wot d zs, z ∈ zs := fun z hz => (List.mem_filter.mp hz).1
  have hrows := wput_rows (d := d) (e := r d) (ti' := va_cpy ti ti (r (d + 1)) (r d) (r nD - r (d + 1))) (va' := va_cpy va va (r (d + 1)) (r d) (r nD - r (d + 1))) (zs' := wot d zs) g9 hd (Nat.le_refl _)
    (fun j hj => ⟨pk_cpy_out (Or.inl hj), pk_cpy_out (Or.inl hj)⟩) (fun i hi => by
      rw [pk_cpy_in (by omega) (by omega), pk_cpy_in (by omega) (by omega), show r (d + 1) + (r d + i - r d) = r (d + 1) + i by omega]
      exact ⟨rfl, rfl⟩) (fun k hk => (b6 k hk).1) (fun k _ hkd => wrw_wot_o hkd zs) (by rw [wrw_wot_s, Nat.sub_self]; rfl)
  refine ⟨wput_R hI' hd (Nat.le_refl _) (by omega) (by omega) g5 g10, fun z hz => b2 z (hsub z hz), b3, fun j hj => ?_, b5, fun k hk => ⟨hrows k hk, ?_⟩, fun z hz => b7 z (hsub z hz), b8, b9⟩
  · by_cases q : j = d
    · subst q; rw [pk_uLs, pk_uLs]
    · rw [pk_uLn q, pk_uLn q]; exact b4 j hj
  · by_cases q : k = d
    · subst q; rw [wrw_wot_s]; exact List.Pairwise.nil
    · rw [wrw_wot_o q]; exact (b6 k hk).2
theorem wrel_startn (h : wrel nD nR cap ec ac dv r ti va ev ed ad now vs mac zs nv dl) {d : Nat} (hd : d < nD) : zs.length - (wot d zs).length = r (d + 1) - r d := by
  have h1 := wot_wc d zs
  have h2 := wrel_c h hd
  omega
/-! advance -/
theorem wrw_wla (t : Int64) (d : Nat) : ∀ zs : List ZT, wrw d (wla t zs) = (wrw d zs).filter (fun e => decide (t < e.1))
  | [] => rfl
  | z :: tl => by
    have ih := wrw_wla t d tl
    by_cases q : t < z.2.1
    · rw [wla_take q]
      show (if z.1 = d then z.2 :: wrw d (wla t tl) else wrw d (wla t tl)) = (if z.1 = d then z.2 :: wrw d tl else wrw d tl).filter _
      by_cases q2 : z.1 = d
      · rw [if_pos q2, if_pos q2, List.filter_cons_of_pos (by simpa using q), ih]
      · rw [if_neg q2, if_neg q2, ih]
    · rw [wla_skip q]
      show _ = (if z.1 = d then z.2 :: wrw d tl else wrw d tl).filter _
      by_cases q2 : z.1 = d
      · rw [if_pos q2, List.filter_cons_of_neg (by simpa using q), ih]
      · rw [if_neg q2, ih]
theorem wvs_pl (t : Int64) (d : Nat) : ∀ (zs : List ZT) (f : Nat → Int64), wvs t zs f d = wpl t (wrw d zs) (f d)
  | [], _ => rfl
  | z :: tl, f => by
    show wvs t tl (if t < z.2.1 then f else vp_updL f z.1 z.2.2) d = wpl t (if z.1 = d then z.2 :: wrw d tl else wrw d tl) (f d)
    rw [wvs_pl t d tl]
    by_cases q2 : z.1 = d
    · rw [if_pos q2]
      show _ = wpl t (wrw d tl) (if z.2.1 ≤ t then z.2.2 else f d)
      by_cases q : t < z.2.1
      · rw [if_pos q, if_neg (i64_nle.mpr q)]
      · rw [if_neg q, if_pos (i64_nlt.mp q), ← q2, pk_uLs]
    · rw [if_neg q2]
      by_cases q : t < z.2.1
      · rw [if_pos q]
      · rw [if_neg q, pk_uLn (fun e => q2 e.symm)]
theorem was_any (t : Int64) (d : Nat) : ∀ (zs : List ZT) (f : Nat → Bool), was t zs f d = (f d || (wrw d zs).any (fun e => decide (e.1 ≤ t)))
  | [], f => by show f d = (f d || false); rw [Bool.or_false]
  | z :: tl, f => by
    show was t tl (if t < z.2.1 then f else ub f z.1 true) d = (f d || (if z.1 = d then z.2 :: wrw d tl else wrw d tl).any _)
    rw [was_any t d tl]
    by_cases q2 : z.1 = d
    · rw [if_pos q2, List.any_cons]
      by_cases q : t < z.2.1
      · rw [if_pos q, decide_eq_false (i64_nle.mpr q), Bool.false_or]
      · rw [if_neg q, decide_eq_true (i64_nlt.mp q), ← q2, ub_s, Bool.true_or, Bool.or_true]
    · rw [if_neg q2]
      by_cases q : t < z.2.1
      · rw [if_pos q]
      · rw [if_neg q, ub_n (fun e => q2 e.symm)]
theorem wup_any {t : Int64} {L : List PT} (h : wup L) : L.any (fun e => decide (e.1 ≤ t)) = decide (0 < wtk t L) := by
  cases L with
  | nil => rfl
  | cons e tl =>
    have h2 := List.pairwise_cons.mp h
    rw [List.any_cons]
    by_cases q : e.1 ≤ t
    · rw [decide_eq_true q, Bool.true_or]
      have hk : wtk t (e :: tl) = wtk t tl + 1 := if_pos q
      rw [hk, decide_eq_true (by omega)]
    · have hk : wtk t (e :: tl) = 0 := if_neg q
      rw [decide_eq_false q, Bool.false_or, hk, decide_eq_false (Nat.lt_irrefl 0)]
      rw [List.any_eq_false]
      intro x hx
      rw [decide_eq_true_eq]
      exact i64_lt_le q (h2.1 x hx)
theorem wrel_was (h : wrel nD nR cap ec ac dv r ti va ev ed ad now vs mac zs nv dl) (t : Int64) {d : Nat} (hd : d < nD) : was t zs (wfl mac nD) d = decide (r d < wf_lt t r ti d) := by
  obtain ⟨hr, hu⟩ := h.2.2.2.2.2.1 d hd
  have e1 : wfl mac nD d = false := if_pos hd
  rw [was_any, wup_any hu, e1, Bool.false_or]
  have e2 : wf_lt t r ti d = r d + wtk t (wrw d zs) := by rw [hr]; exact wfb_tk ti va t _ _
  rw [e2]
  congr 1
  exact propext ⟨fun h => by omega, fun h => by omega⟩
theorem wrel_wN (h : wrel nD nR cap ec ac dv r ti va ev ed ad now vs mac zs nv dl) (t : Int64) : ∀ k, k ≤ nD → wcn (was t zs (wfl mac nD)) k 0 = wf_N t r ti k := by
  intro k
  induction k with
  | zero => intro _; rfl
  | succ k ih =>
    intro hk
    rw [wcn_add, ih (by omega)]
    show wf_N t r ti k + ((if was t zs (wfl mac nD) (0 + k) = true then 1 else 0) + 0) = wf_N t r ti k + (if r k < wf_lt t r ti k then 1 else 0)
    rw [Nat.zero_add, wrel_was h t (by omega)]
    by_cases q : r k < wf_lt t r ti k
    · rw [decide_eq_true q, if_pos rfl, if_pos q]
    · rw [decide_eq_false q, if_neg (by decide), if_neg q]
theorem wrel_advance (h : wrel nD nR cap ec ac dv r ti va ev ed ad now vs mac zs nv dl) {t : Int64} (h1 : ¬ t < now) (h2 : ¬ 1152921504606846976 < t) {rc : Nat → Nat} {tc vc dc : Nat → Int64} {ac' : Nat → Int32} (hV : wf_V t r ti va dv nD rc tc vc dc ac') :
    wrel nD nR cap ec (wf_N t r ti nD) dc (un rc nD (wf_K t r ti nD)) tc vc ev ed ac' t (wvs t zs vs) (was t zs (wfl mac nD)) (wla t zs) nv dl := by
  have h' := h
  obtain ⟨⟨g1, g2, g3, g4, g5, g6, g7, g8, g9, g10, g11⟩, b2, b3, b4, b5, b6, b7, b8, b9⟩ := h
  obtain ⟨v1, v2, v3, v4, v5, v6, v7⟩ := hV
  have hr : ∀ j, j ≤ nD → un rc nD (wf_K t r ti nD) j = wf_K t r ti j := by
    intro j hj
    unfold un
    by_cases q : j = nD
    · subst q; exact if_pos rfl
    · rw [if_neg q]; exact v1 j (by omega)
  have hK := wf_K_le (t := t) (ti := ti) g8 g9 nD (Nat.le_refl _)
  have hsub : ∀ z ∈ wla t zs, z ∈ zs ∧ t < z.2.1 := fun z hz => by
    have := List.mem_filter.mp hz
    exact ⟨this.1, by simpa using this.2⟩
  have htn : (0 : Int64) ≤ t := Int64.le_trans b3.1 (i64_nlt.mp h1)
  refine ⟨⟨g1, g2, g3, g4, g5, ?_, ?_, ?_, fun j hj => ?_, g10, wf_N_le nD⟩, fun z hz => b2 z (hsub z hz).1, ⟨htn, i64_nlt.mp h2⟩, fun d hd => ?_, b5, fun d hd => ⟨?_, ?_⟩, fun z hz => ⟨Int64.le_of_lt (hsub z hz).2, (b7 z (hsub z hz).1).2⟩, (wrel_wN h' t nD (Nat.le_refl _)).symm, fun d hd hq => ?_⟩
  · rw [hr nD (Nat.le_refl _)]; omega
  · rw [hr nD (Nat.le_refl _)]; omega
  · rw [hr 0 (by omega)]; rfl
  · rw [hr j (by omega), hr (j + 1) (by omega)]
    exact wf_K_mono (t := t) (r := r) (ti := ti) 1 j
  · rw [wvs_pl, wpl_fb (b6 d hd).1 (b6 d hd).2, v5 d hd, b4 d hd]
    have e2 : wf_fb ti t (r (d + 1) - r d) (r d) = wf_lt t r ti d := rfl
    rw [e2]
    by_cases q : r d < wf_lt t r ti d
    · rw [if_pos q, if_neg (by omega)]
    · rw [if_neg q, if_pos (by omega)]
  · have hl := wf_lt_in t r ti d (g9 d hd)
    have e1 : wf_K t r ti (d + 1) = wf_K t r ti d + (r (d + 1) - wf_lt t r ti d) := rfl
    have e2 : wf_lt t r ti d = r d + wtk t (wrw d zs) := by rw [(b6 d hd).1]; exact wfb_tk ti va t _ _
    rw [hr d (by omega), hr (d + 1) (by omega), wrw_wla, wup_drop (b6 d hd).2, e1, Nat.add_sub_cancel_left]
    have e3 : (wrw d zs).drop (wtk t (wrw d zs)) = wsg ti va (r (d + 1) - r d - wtk t (wrw d zs)) (r d + wtk t (wrw d zs)) := by
      have := wtk_le t (wrw d zs)
      rw [(b6 d hd).1, wsg_len] at this
      rw [(b6 d hd).1]
      exact wsg_drop ti va _ _ _ this
    rw [e3, ← e2, show r (d + 1) - r d - wtk t (wrw d zs) = r (d + 1) - wf_lt t r ti d by omega]
    exact wsg_congr (fun j hj => ⟨(v3 d hd j hj).1.symm, (v3 d hd j hj).2.symm⟩)
  · rw [wrw_wla]
    exact (b6 d hd).2.filter _
  · rw [wrel_was h' t hd, decide_eq_true_eq] at hq
    rw [wrel_wN h' t d (by omega)]
    exact v7 d hd hq
end WREL2
