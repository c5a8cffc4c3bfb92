/-! the relation, and what reads keep of it -/
def wrel (nD nR cap ec ac : Nat) (dv : Nat → Int64) (r : Nat → Nat) (ti va ev ed : Nat → Int64) (ad : Nat → Int32) (now : Int64) (vs : Nat → Int64) (mac : Nat → Bool) (zs : List ZT) (nv dl : Nat → Int64) : Prop :=
  wf_R nD nR cap ec ac r ∧ (∀ z ∈ zs, z.1 < nD) ∧ ((0 : Int64) ≤ now ∧ now ≤ 1152921504606846976) ∧ (∀ d, d < nD → vs d = dv d) ∧ (∀ j, j < ec → nv j = ev j ∧ dl j = ed j ∧ (0 : Int64) ≤ ed j ∧ ed j ≤ 1152921504606846976) ∧ (∀ d, d < nD → wrw d zs = wsg ti va (r (d + 1) - r d) (r d) ∧ wup (wrw d zs)) ∧ (∀ z ∈ zs, now ≤ z.2.1 ∧ z.2.1 ≤ 1152921504606846976) ∧ ac = wcn mac nD 0 ∧ ∀ d, d < nD → mac d = true → ad (wcn mac d 0) = nI d
section WREL
variable {nD nR cap ec ac : Nat} {dv : Nat → Int64} {r : Nat → Nat} {ti va ev ed : Nat → Int64} {ad : Nat → Int32} {now : Int64} {vs : Nat → Int64} {mac : Nat → Bool} {zs : List ZT} {nv dl : Nat → Int64}
theorem wrel_c (h : wrel nD nR cap ec ac dv r ti va ev ed ad now vs mac zs nv dl) {d : Nat} (hd : d < nD) : wc d zs = r (d + 1) - r d := by
  rw [wrw_len, (h.2.2.2.2.2.1 d hd).1, wsg_len]
theorem wrel_len (h : wrel nD nR cap ec ac dv r ti va ev ed ad now vs mac zs nv dl) : zs.length = r nD :=
  wrw_sum h.1.2.2.2.2.2.2.2.1 h.1.2.2.2.2.2.2.2.2.1 h.2.1 (fun _ hd => wrel_c h hd)
theorem wrel_I (h : wrel nD nR cap ec ac dv r ti va ev ed ad now vs mac zs nv dl) : wm_I nD nR ec zs := by
  have hl := wrel_len h
  obtain ⟨⟨h1, h2, h3, h4, h5, h6, h7, h8, h9, h10, h11⟩, hz, -⟩ := h
  exact ⟨h1, h2, h3, h4, by omega, h10, hz⟩
/-! next -/
def wmin (S : Int64 → Prop) (m : Int64) : Prop := (m = -1 ∧ ∀ t, ¬ S t) ∨ (S m ∧ ∀ t, S t → m ≤ t)
theorem wmin_one {S : Int64 → Prop} {m n : Int64} (h1 : wmin S m) (h2 : wmin S n) : m = n := by
  rcases h1 with ⟨rfl, a⟩ | ⟨a, b⟩
  · rcases h2 with ⟨rfl, -⟩ | ⟨c, -⟩
    · rfl
    · exact absurd c (a _)
  · rcases h2 with ⟨-, c⟩ | ⟨c, d⟩
    · exact absurd a (c _)
    · exact Int64.le_antisymm (b n c) (d m a)
theorem wmin_cong {S T : Int64 → Prop} {m : Int64} (h : ∀ t, S t ↔ T t) (h1 : wmin S m) : wmin T m := by
  rcases h1 with ⟨a, b⟩ | ⟨a, b⟩
  · exact Or.inl ⟨a, fun t ht => b t ((h t).mpr ht)⟩
  · exact Or.inr ⟨(h m).mp a, fun t ht => b t ((h t).mpr ht)⟩
theorem wmin_add {S T : Int64 → Prop} {m u : Int64} (h : wmin S m) (hS : ∀ t, S t → (0 : Int64) ≤ t) (hu : T u) (hT : ∀ t, T t → u ≤ t) : wmin (fun t => S t ∨ T t) (if m = -1 ∨ u < m then u else m) := by
  right
  rcases h with ⟨rfl, b⟩ | ⟨a, b⟩
  · rw [if_pos (Or.inl rfl)]
    exact ⟨Or.inr hu, fun t ht => ht.elim (fun q => absurd q (b t)) (hT t)⟩
  · by_cases q : u < m
    · rw [if_pos (Or.inr q)]
      refine ⟨Or.inr hu, fun t ht => ht.elim (fun q2 => ?_) (hT t)⟩
      have := b t q2
      rw [Int64.le_iff_toInt_le] at *
      rw [Int64.lt_iff_toInt_lt] at q
      omega
    · have hm : ¬ m = -1 := by
        intro e
        have := hS m a
        rw [e] at this
        exact absurd this (by decide)
      rw [if_neg (fun e => e.elim hm q)]
      refine ⟨Or.inl a, fun t ht => ht.elim (b t) (fun q2 => ?_)⟩
      have := hT t q2
      rw [Int64.le_iff_toInt_le] at *
      rw [Int64.lt_iff_toInt_lt] at q
      omega
theorem wnx_min : ∀ (zs : List ZT) (S : Int64 → Prop) (m : Int64), wmin S m → (∀ t, S t → (0 : Int64) ≤ t) → (∀ z ∈ zs, (0 : Int64) ≤ z.2.1) → wmin (fun t => S t ∨ ∃ z ∈ zs, z.2.1 = t) (wnx zs m)
  | [], S, m, h, _, _ => wmin_cong (fun t => ⟨Or.inl, fun q => q.elim id (fun ⟨_, hz, _⟩ => by cases hz)⟩) h
  | z :: tl, S, m, h, hS, hz => by
    have h1 := wmin_add (T := fun t => z.2.1 = t) h hS rfl (fun t ht => by rw [ht]; exact Int64.le_refl _)
    have h2 := wnx_min tl _ _ h1 (fun t ht => ht.elim (hS t) (fun q => by rw [← q]; exact hz z List.mem_cons_self)) (fun y hy => hz y (List.mem_cons_of_mem _ hy))
    refine wmin_cong (fun t => ⟨fun q => ?_, fun q => ?_⟩) h2
    · rcases q with (q | q) | ⟨y, hy, q⟩
      · exact Or.inl q
      · exact Or.inr ⟨z, List.mem_cons_self, q⟩
      · exact Or.inr ⟨y, List.mem_cons_of_mem _ hy, q⟩
    · rcases q with q | ⟨y, hy, q⟩
      · exact Or.inl (Or.inl q)
      · rcases List.mem_cons.mp hy with rfl | hy
        · exact Or.inl (Or.inr q)
        · exact Or.inr ⟨y, hy, q⟩
theorem wfnx_min (hrow : ∀ d, d < nD → wrw d zs = wsg ti va (r (d + 1) - r d) (r d) ∧ wup (wrw d zs)) (h0 : ∀ z ∈ zs, (0 : Int64) ≤ z.2.1) : ∀ (n d : Nat) (S : Int64 → Prop) (m : Int64), d + n = nD → wmin S m → (∀ t, S t → (0 : Int64) ≤ t) → wmin (fun t => S t ∨ ∃ k, d ≤ k ∧ k < nD ∧ ∃ e ∈ wrw k zs, e.1 = t) (wf_nx r ti n d m) := by
  intro n
  induction n with
  | zero =>
    intro d S m hd h _
    exact wmin_cong (fun t => ⟨Or.inl, fun q => q.elim id (fun ⟨k, h1, h2, _⟩ => by omega)⟩) h
  | succ n ih =>
    intro d S m hd h hS
    obtain ⟨hr, hu⟩ := hrow d (by omega)
    have hnn : ∀ e ∈ wrw d zs, (0 : Int64) ≤ e.1 := fun e he => h0 _ (wrw_mem.mp he)
    have h1 : wmin (fun t => S t ∨ ∃ e ∈ wrw d zs, e.1 = t) (if r (d + 1) - r d = 0 then m else if m = -1 then ti (r d) else if ti (r d) < m then ti (r d) else m) := by
      by_cases q : r (d + 1) - r d = 0
      · rw [if_pos q]
        rw [q] at hr
        rw [hr]
        exact wmin_cong (fun t => ⟨Or.inl, fun q => q.elim id (fun ⟨_, hz, _⟩ => by cases hz)⟩) h
      · rw [if_neg q]
        obtain ⟨n', hn'⟩ : ∃ n', r (d + 1) - r d = n' + 1 := ⟨r (d + 1) - r d - 1, by omega⟩
        rw [hn'] at hr
        have hr' : wrw d zs = (ti (r d), va (r d)) :: wsg ti va n' (r d + 1) := hr
        rw [hr'] at hu ⊢
        have hu2 := List.pairwise_cons.mp hu
        have h2 := wmin_add (T := fun t => ∃ e ∈ (ti (r d), va (r d)) :: wsg ti va n' (r d + 1), e.1 = t) (u := ti (r d)) h hS ⟨_, List.mem_cons_self, rfl⟩ (fun t ⟨e, he, hte⟩ => by
          rcases List.mem_cons.mp he with rfl | he
          · rw [← hte]; exact Int64.le_refl _
          · rw [← hte]; exact Int64.le_of_lt (hu2.1 e he))
        have hif : (if m = -1 then ti (r d) else if ti (r d) < m then ti (r d) else m) = (if m = -1 ∨ ti (r d) < m then ti (r d) else m) := by
          by_cases q1 : m = -1
          · rw [if_pos q1, if_pos (Or.inl q1)]
          · by_cases q2 : ti (r d) < m
            · rw [if_neg q1, if_pos q2, if_pos (Or.inr q2)]
            · rw [if_neg q1, if_neg q2, if_neg (fun e => e.elim q1 q2)]
        rw [hif]
        exact h2
    have h2 := ih (d + 1) _ _ (by omega) h1 (fun t ht => ht.elim (hS t) (fun ⟨e, he, hte⟩ => by rw [← hte]; exact hnn e he))
    refine wmin_cong (fun t => ⟨fun q => ?_, fun q => ?_⟩) h2
    · rcases q with (q | q) | ⟨k, h1, h2, q⟩
      · exact Or.inl q
      · exact Or.inr ⟨d, Nat.le_refl d, by omega, q⟩
      · exact Or.inr ⟨k, by omega, h2, q⟩
    · rcases q with q | ⟨k, h1, h2, q⟩
      · exact Or.inl (Or.inl q)
      · rcases Nat.eq_or_lt_of_le h1 with e | e
        · subst e; exact Or.inl (Or.inr q)
        · exact Or.inr ⟨k, e, h2, q⟩
theorem wrel_next (h : wrel nD nR cap ec ac dv r ti va ev ed ad now vs mac zs nv dl) : wnx zs (-1) = wf_nx r ti nD 0 (-1) := by
  obtain ⟨-, hz, hn, -, -, hrow, ht, -⟩ := h
  have h0 : ∀ z ∈ zs, (0 : Int64) ≤ z.2.1 := fun z hz => Int64.le_trans hn.1 (ht z hz).1
  have hb : wmin (fun _ => False) (-1) := Or.inl ⟨rfl, fun _ => id⟩
  have h1 := wnx_min zs _ _ hb (fun t q => q.elim) h0
  have h2 := wfnx_min (nD := nD) hrow h0 nD 0 _ _ (Nat.zero_add _) hb (fun t q => q.elim)
  refine wmin_one h1 (wmin_cong (fun t => ⟨fun q => ?_, fun q => ?_⟩) h2)
  · rcases q with q | ⟨k, -, -, e, he, hte⟩
    · exact q.elim
    · exact Or.inr ⟨_, wrw_mem.mp he, hte⟩
  · rcases q with q | ⟨z, hz', hte⟩
    · exact q.elim
    · exact Or.inr ⟨z.1, Nat.zero_le _, hz z hz', z.2, wrw_mem.mpr hz', hte⟩
/-! at -/
theorem wfi_some {d q : Nat} {e : PT} : ∀ (zs : List ZT) (k c : Nat), c ≤ q → (wrw d zs)[q - c]? = some e → ∃ k0, wfi d q zs k c = some (k + k0) ∧ zs[k0]? = some (d, e)
  | [], _, _, _, h => by cases h
  | z :: tl, k, c, hc, h => by
    obtain ⟨z1, z2⟩ := z
    by_cases hz : z1 = d
    · subst hz
      have hw : wrw z1 ((z1, z2) :: tl) = z2 :: wrw z1 tl := if_pos rfl
      rw [hw] at h
      by_cases hq : c = q
      · subst hq
        rw [Nat.sub_self] at h
        refine ⟨0, ?_, ?_⟩
        · show (if z1 = z1 then (if c = c then some k else wfi z1 c tl (k + 1) (c + 1)) else wfi z1 c tl (k + 1) c) = some (k + 0)
          rw [if_pos rfl, if_pos rfl]; rfl
        · simp only [List.getElem?_cons_zero, Option.some.injEq] at h ⊢
          rw [h]
      · rw [show q - c = (q - (c + 1)) + 1 by omega, List.getElem?_cons_succ] at h
        obtain ⟨k0, h1, h2⟩ := wfi_some tl (k + 1) (c + 1) (by omega) h
        refine ⟨k0 + 1, ?_, h2⟩
        show (if z1 = z1 then (if c = q then some k else wfi z1 q tl (k + 1) (c + 1)) else wfi z1 q tl (k + 1) c) = _
        rw [if_pos rfl, if_neg hq, h1]
        congr 1; omega
    · have hw : wrw d ((z1, z2) :: tl) = wrw d tl := if_neg hz
      rw [hw] at h
      obtain ⟨k0, h1, h2⟩ := wfi_some tl (k + 1) c hc h
      refine ⟨k0 + 1, ?_, h2⟩
      show (if z1 = d then (if c = q then some k else wfi d q tl (k + 1) (c + 1)) else wfi d q tl (k + 1) c) = _
      rw [if_neg hz, h1]
      congr 1; omega
theorem wfi_none {d q : Nat} : ∀ (zs : List ZT) (k c : Nat), c ≤ q → (wrw d zs).length ≤ q - c → wfi d q zs k c = none
  | [], _, _, _, _ => rfl
  | z :: tl, k, c, hc, h => by
    obtain ⟨z1, z2⟩ := z
    show (if z1 = d then (if c = q then some k else wfi d q tl (k + 1) (c + 1)) else wfi d q tl (k + 1) c) = none
    by_cases hz : z1 = d
    · have hw : wrw d ((z1, z2) :: tl) = z2 :: wrw d tl := if_pos hz
      rw [hw, List.length_cons] at h
      rw [if_pos hz, if_neg (by omega)]
      exact wfi_none tl (k + 1) (c + 1) (by omega) (by omega)
    · have hw : wrw d ((z1, z2) :: tl) = wrw d tl := if_neg hz
      rw [hw] at h
      rw [if_neg hz]
      exact wfi_none tl (k + 1) c hc h
theorem wrel_at (h : wrel nD nR cap ec ac dv r ti va ev ed ad now vs mac zs nv dl) {o : Nat → Nat} {mt mw : Nat → Int64} (hZ : wz zs o mt mw) {d q : Nat} (hd : d < nD) (hq : q < r (d + 1) - r d) : ∃ k0, wfi d q zs 0 0 = some k0 ∧ k0 < zs.length ∧ mt k0 = ti (r d + q) ∧ mw k0 = va (r d + q) := by
  have hg := wsg_get ti va (r (d + 1) - r d) (r d) q hq
  rw [← (h.2.2.2.2.2.1 d hd).1] at hg
  obtain ⟨k0, h1, h2⟩ := wfi_some zs 0 0 (Nat.zero_le q) (by rw [Nat.sub_zero]; exact hg)
  rw [Nat.zero_add] at h1
  have h3 := hZ k0 _ h2
  exact ⟨k0, h1, (List.getElem?_eq_some_iff.mp h2).1, h3.2.1, h3.2.2⟩
theorem wrel_atn (h : wrel nD nR cap ec ac dv r ti va ev ed ad now vs mac zs nv dl) {d q : Nat} (hd : d < nD) (hq : r (d + 1) - r d ≤ q) : wfi d q zs 0 0 = none :=
  wfi_none zs 0 0 (Nat.zero_le q) (by rw [(h.2.2.2.2.2.1 d hd).1, wsg_len]; omega)
/-! projected -/
theorem wpl_fb {L : List PT} {n a : Nat} {t v : Int64} (hr : L = wsg ti va n a) (hu : wup L) : wpl t L v = if wf_fb ti t n a ≤ a then v else va (wf_fb ti t n a - 1) := by
  subst hr
  rw [wpl_up hu, wfb_tk ti va]
  have hl := wtk_le t (wsg ti va n a)
  rw [wsg_len] at hl
  rcases Nat.eq_zero_or_pos (wtk t (wsg ti va n a)) with z | z
  · rw [z, if_pos (by omega)]
    cases (wsg ti va n a)[0 - 1]? <;> rfl
  · rw [if_neg (by omega), wsg_get ti va n a _ (by omega)]
    simp only
    rw [if_neg (by omega), show a + (wtk t (wsg ti va n a) - 1) = a + wtk t (wsg ti va n a) - 1 by omega]
theorem wrel_proj (h : wrel nD nR cap ec ac dv r ti va ev ed ad now vs mac zs nv dl) {d : Nat} (hd : d < nD) (t : Int64) : wpj d t zs (vs d) = if wf_fb ti t (r (d + 1) - r d) (r d) ≤ r d then dv d else va (wf_fb ti t (r (d + 1) - r d) (r d) - 1) := by
  obtain ⟨hr, hu⟩ := h.2.2.2.2.2.1 d hd
  rw [wpj_pl, wpl_fb hr hu, h.2.2.2.1 d hd]
/-! active -/
theorem wcn_add (f : Nat → Bool) : ∀ n k d : Nat, wcn f (n + k) d = wcn f n d + wcn f k (d + n)
  | 0, k, d => by rw [Nat.zero_add, Nat.add_zero]; exact (Nat.zero_add _).symm
  | n + 1, k, d => by
    rw [show n + 1 + k = (n + k) + 1 by omega]
    show (if f d = true then 1 else 0) + wcn f (n + k) (d + 1) = ((if f d = true then 1 else 0) + wcn f n (d + 1)) + wcn f k (d + (n + 1))
    rw [wcn_add f n k (d + 1), show d + 1 + n = d + (n + 1) by omega]
    omega
theorem wac_spec (f : Nat → Bool) (q : Nat) : ∀ n d c : Nat, c ≤ q → (c + wcn f n d ≤ q ∧ wac f q n d c = -1) ∨ ∃ k, k < n ∧ f (d + k) = true ∧ c + wcn f k d = q ∧ wac f q n d c = nI (d + k) := by
  intro n
  induction n with
  | zero => intro d c hc; exact Or.inl ⟨hc, rfl⟩
  | succ n ih =>
    intro d c hc
    have e1 : wac f q (n + 1) d c = if f d = true then (if c = q then nI d else wac f q n (d + 1) (c + 1)) else wac f q n (d + 1) c := rfl
    have e2 : ∀ k, wcn f (k + 1) d = (if f d = true then 1 else 0) + wcn f k (d + 1) := fun _ => rfl
    by_cases hf : f d = true
    · by_cases hq : c = q
      · exact Or.inr ⟨0, by omega, hf, hq, by rw [e1, if_pos hf, if_pos hq]; rfl⟩
      · rw [e1, if_pos hf, if_neg hq, e2, if_pos hf]
        rcases ih (d + 1) (c + 1) (by omega) with ⟨h1, h2⟩ | ⟨k, h1, h2, h3, h4⟩
        · exact Or.inl ⟨by omega, h2⟩
        · refine Or.inr ⟨k + 1, by omega, ?_, ?_, ?_⟩
          · rw [show d + (k + 1) = d + 1 + k by omega]; exact h2
          · rw [e2, if_pos hf]; omega
          · rw [h4, show d + (k + 1) = d + 1 + k by omega]
    · rw [e1, if_neg hf, e2, if_neg hf]
      rcases ih (d + 1) c hc with ⟨h1, h2⟩ | ⟨k, h1, h2, h3, h4⟩
      · exact Or.inl ⟨by omega, h2⟩
      · refine Or.inr ⟨k + 1, by omega, ?_, ?_, ?_⟩
        · rw [show d + (k + 1) = d + 1 + k by omega]; exact h2
        · rw [e2, if_neg hf]; omega
        · rw [h4, show d + (k + 1) = d + 1 + k by omega]
theorem wrel_act (h : wrel nD nR cap ec ac dv r ti va ev ed ad now vs mac zs nv dl) {q : Nat} (hq : q < 2 ^ 31) : wf_act ad ac (nI q) = wac mac q nD 0 0 := by
  obtain ⟨⟨-, h2, -, -, -, -, -, -, -, -, h11⟩, -, -, -, -, -, -, hac, had⟩ := h
  unfold wf_act
  have hp : ¬ nI q < 0 := nI_pos hq
  rcases wac_spec mac q nD 0 0 (Nat.zero_le q) with ⟨a, b⟩ | ⟨k, a, b, c, e⟩
  · rw [b, if_neg]
    intro hh
    exact hh.2 ((nI_leI (by omega) hq).mpr (by omega))
  · rw [Nat.zero_add] at b e
    have h3 := wcn_add mac (k + 1) (nD - (k + 1)) 0
    have h4 := wcn_add mac k 1 0
    have h5 : wcn mac 1 (0 + k) = 1 := by
      show (if mac (0 + k) = true then 1 else 0) + 0 = 1
      rw [Nat.zero_add, if_pos b]
    rw [show k + 1 + (nD - (k + 1)) = nD by omega] at h3
    rw [if_pos ⟨hp, fun hh => by have := (nI_leI (show ac < 2 ^ 31 by omega) hq).mp hh; omega⟩, nI_clamp hq, e, ← had k a b]
    congr 1
    omega
theorem wrel_actn {i : Int32} (hi : i < 0) : wf_act ad ac i = -1 := if_neg (fun h => h.1 hi)
end WREL
