/-! an assignment on both sides -/
theorem i64_b {x : Int64} (h : (0 : Int64) ≤ x) (h2 : x ≤ 1152921504606846976) : 0 ≤ x.toInt ∧ x.toInt ≤ 1152921504606846976 := by
  have e1 : (0 : Int64).toInt = 0 := by decide
  have e2 : (1152921504606846976 : Int64).toInt = 1152921504606846976 := by decide +kernel
  rw [Int64.le_iff_toInt_le] at h h2
  rw [e1] at h
  rw [e2] at h2
  exact ⟨h, h2⟩
theorem i64_add {a b : Int64} (h1 : -1152921504606846976 ≤ a.toInt + b.toInt) (h2 : a.toInt + b.toInt ≤ 2305843009213693952) : (a + b).toInt = a.toInt + b.toInt := by
  rw [Int64.toInt_add]
  simp only [Int.bmod]
  split <;> omega
theorem i64_sub {a b : Int64} (h1 : -1152921504606846976 ≤ a.toInt - b.toInt) (h2 : a.toInt - b.toInt ≤ 2305843009213693952) : (a - b).toInt = a.toInt - b.toInt := by
  rw [Int64.toInt_sub]
  simp only [Int.bmod]
  split <;> omega
theorem i64_pred {x e : Int64} (h1 : 0 ≤ x.toInt) (h2 : x.toInt ≤ 2305843009213693952) : e ≤ x - 1 ↔ e < x := by
  have e1 : (1 : Int64).toInt = 1 := by decide
  have e2 : (x - 1).toInt = x.toInt - 1 := by rw [i64_sub (by rw [e1]; omega) (by rw [e1]; omega), e1]
  rw [Int64.le_iff_toInt_le, Int64.lt_iff_toInt_lt, e2]
  omega
theorem wdg_iff (ed : Nat → Int64) (now : Int64) : ∀ (n i : Nat) (b : Int64), wf_dg ed now n i b ↔ ∀ k, k < n → (if k = 0 then b < ed i else ed (i + k - 1) < ed (i + k)) ∧ now + ed (i + k) ≤ 1152921504606846976
  | 0, _, _ => ⟨fun _ k h => absurd h (Nat.not_lt_zero k), fun _ => trivial⟩
  | n + 1, i, b => by
    have ih := wdg_iff ed now n (i + 1) (ed i)
    constructor
    · rintro ⟨h1, h2, h3⟩ k hk
      rcases Nat.eq_zero_or_pos k with z | z
      · subst z
        rw [if_pos rfl]
        exact ⟨i64_nle.mp h1, h2⟩
      · have h4 := ih.mp h3 (k - 1) (by omega)
        rw [show i + 1 + (k - 1) = i + k by omega] at h4
        rw [if_neg (by omega)]
        refine ⟨?_, h4.2⟩
        by_cases q : k - 1 = 0
        · have := h4.1
          rw [if_pos q] at this
          rw [show i + k - 1 = i by omega, show i + k = i + 1 by omega]
          exact this
        · have := h4.1
          rw [if_neg q] at this
          exact this
    · intro h
      have h0 := h 0 (by omega)
      rw [if_pos rfl] at h0
      refine ⟨i64_nle.mpr h0.1, h0.2, ih.mpr (fun k hk => ?_)⟩
      have h1 := h (k + 1) (by omega)
      rw [if_neg (by omega)] at h1
      rw [show i + 1 + k = i + (k + 1) by omega]
      refine ⟨?_, h1.2⟩
      by_cases q : k = 0
      · subst q
        rw [if_pos rfl]
        exact h1.1
      · rw [if_neg q]
        exact h1.1
section WREL3
variable {nD nR cap ec ac : Nat} {dv : Nat → Int64} {r : Nat → Nat} {ti va ev ed : Nat → Int64} {ad : Nat → Int32} {now : Int64} {vs : Nat → Int64} {mac : Nat → Bool} {zs : List ZT} {nv dl : Nat → Int64}
theorem wrel_sum (h : wrel nD nR cap ec ac dv r ti va ev ed ad now vs mac zs nv dl) {j : Nat} (hj : j < ec) : (now + ed j).toInt = now.toInt + (ed j).toInt ∧ 0 ≤ now.toInt ∧ now.toInt ≤ 1152921504606846976 ∧ 0 ≤ (ed j).toInt ∧ (ed j).toInt ≤ 1152921504606846976 := by
  have h1 := i64_b h.2.2.1.1 h.2.2.1.2
  have h2 := i64_b (h.2.2.2.2.1 j hj).2.2.1 (h.2.2.2.2.1 j hj).2.2.2
  exact ⟨i64_add (by omega) (by omega), h1.1, h1.2, h2.1, h2.2⟩
theorem wrel_good (h : wrel nD nR cap ec ac dv r ti va ev ed ad now vs mac zs nv dl) (hz : 0 < ec) (mo : Int32) (t : Int64) : (wf_lg mo (ed 0) t ∧ wf_dg ed now ec 0 (-1)) ↔ wm_g mo t now dl ec := by
  have hel := h.2.2.2.2.1
  have hs := fun j hj => wrel_sum h (j := j) hj
  have e60 : (1152921504606846976 : Int64).toInt = 1152921504606846976 := by decide +kernel
  have em1 : (-1 : Int64).toInt = -1 := by decide
  have hmo : ∀ m : Int32, (m = 2 ∨ m = 0 ∨ m = 1) ↔ (¬ m < 0 ∧ ¬ 2 < m) := by
    intro m
    have e0 : (0 : Int32).toInt = 0 := by decide
    have e1 : (1 : Int32).toInt = 1 := by decide
    have e2 : (2 : Int32).toInt = 2 := by decide
    rw [Int32.lt_iff_toInt_lt, Int32.lt_iff_toInt_lt, ← Int32.toInt_inj, ← Int32.toInt_inj, ← Int32.toInt_inj, e0, e1, e2]
    omega
  have hd : wf_dg ed now ec 0 (-1) ↔ (wm_ri dl ec ∧ ¬ 1152921504606846976 < now + dl (ec - 1)) := by
    rw [wdg_iff]
    constructor
    · intro hk
      refine ⟨fun k h1 h2 => ?_, ?_⟩
      · have := (hk k h2).1
        rw [if_neg (by omega), Nat.zero_add] at this
        rw [(hel (k - 1) (by omega)).2.1, (hel k h2).2.1]
        exact this
      · have := (hk (ec - 1) (by omega)).2
        rw [Nat.zero_add] at this
        rw [(hel (ec - 1) (by omega)).2.1]
        exact i64_nlt.mpr this
    · rintro ⟨hri, hla⟩ k hk
      rw [Nat.zero_add]
      have hmon : ∀ n, k + n < ec → (ed k).toInt ≤ (ed (k + n)).toInt := by
        intro n
        induction n with
        | zero => intro _; exact Int.le_refl _
        | succ n ih =>
          intro hn
          have a1 := ih (by omega)
          have a2 := hri (k + (n + 1)) (by omega) hn
          rw [(hel _ hn).2.1, show k + (n + 1) - 1 = k + n by omega, (hel (k + n) (by omega)).2.1, Int64.lt_iff_toInt_lt] at a2
          omega
      refine ⟨?_, ?_⟩
      · by_cases q : k = 0
        · subst q
          rw [if_pos rfl, Int64.lt_iff_toInt_lt, em1]
          have := (hs 0 hk).2.2.2.1
          omega
        · rw [if_neg q]
          have := hri k (by omega) hk
          rw [(hel (k - 1) (by omega)).2.1, (hel k hk).2.1] at this
          exact this
      · have a1 := hmon (ec - 1 - k) (by omega)
        rw [show k + (ec - 1 - k) = ec - 1 by omega] at a1
        rw [(hel (ec - 1) (by omega)).2.1, Int64.lt_iff_toInt_lt, (hs (ec - 1) (by omega)).1, e60] at hla
        rw [Int64.le_iff_toInt_le, (hs k hk).1, e60]
        omega
  have hl : wf_lg mo (ed 0) t ↔ ((¬ mo < 0 ∧ ¬ 2 < mo) ∧ ¬ (mo = 2 ∧ (t < 0 ∨ dl 0 < t))) := by
    rw [← hmo, (hel 0 hz).2.1]
    unfold wf_lg
    constructor
    · rintro (⟨a, b, c⟩ | a | a)
      · exact ⟨Or.inl a, fun q => q.2.elim b c⟩
      · exact ⟨Or.inr (Or.inl a), fun q => by rw [a] at q; exact absurd q.1 (by decide)⟩
      · exact ⟨Or.inr (Or.inr a), fun q => by rw [a] at q; exact absurd q.1 (by decide)⟩
    · rintro ⟨a | a, b⟩
      · exact Or.inl ⟨a, fun q => b ⟨a, Or.inl q⟩, fun q => b ⟨a, Or.inr q⟩⟩
      · exact Or.inr a
  rw [hd, hl]
  unfold wm_g
  constructor
  · rintro ⟨⟨a, b⟩, c, e⟩
    exact ⟨a, c, e, b⟩
  · rintro ⟨a, c, e, b⟩
    exact ⟨⟨a, b⟩, c, e⟩
end WREL3
/-! marks -/
def wxs (f g : Nat → Int64) (p : Nat) : Nat → Nat → List XT
  | 0, _ => []
  | n + 1, a => (f a, g a, decide (a < p)) :: wxs f g p n (a + 1)
def wxt (f g : Nat → Int64) (p q : Nat) : Nat → Nat → List XT
  | 0, _ => []
  | n + 1, a => (f a, g a, decide (a < p ∨ q ≤ a)) :: wxt f g p q n (a + 1)
theorem wxs_map {f g : Nat → Int64} {p : Nat} {k : PT → XT} : ∀ {n a : Nat}, (∀ j, j < n → k (f (a + j), g (a + j)) = (f (a + j), g (a + j), decide (a + j < p))) → (wsg f g n a).map k = wxs f g p n a := by
  intro n
  induction n with
  | zero => intro a _; rfl
  | succ n ih =>
    intro a h
    show k (f a, g a) :: (wsg f g n (a + 1)).map k = (f a, g a, decide (a < p)) :: wxs f g p n (a + 1)
    rw [ih (fun j hj => by
      have q := h (j + 1) (by omega)
      rw [show a + (j + 1) = a + 1 + j by omega] at q
      exact q)]
    exact congrArg (· :: _) (h 0 (by omega))
theorem wxt_len (f g : Nat → Int64) (p q : Nat) : ∀ n a : Nat, (wxt f g p q n a).length = n
  | 0, _ => rfl
  | n + 1, a => congrArg (· + 1) (wxt_len f g p q n (a + 1))
theorem wxs_len (f g : Nat → Int64) (p : Nat) : ∀ n a : Nat, (wxs f g p n a).length = n
  | 0, _ => rfl
  | n + 1, a => congrArg (· + 1) (wxs_len f g p n (a + 1))
theorem wxt_add (f g : Nat → Int64) (p q : Nat) : ∀ n k a : Nat, wxt f g p q (n + k) a = wxt f g p q n a ++ wxt f g p q k (a + n)
  | 0, k, a => by rw [Nat.zero_add, Nat.add_zero]; rfl
  | n + 1, k, a => by
    rw [show n + 1 + k = (n + k) + 1 by omega]
    show (f a, g a, decide (a < p ∨ q ≤ a)) :: wxt f g p q (n + k) (a + 1) = (f a, g a, decide (a < p ∨ q ≤ a)) :: (wxt f g p q n (a + 1) ++ wxt f g p q k (a + (n + 1)))
    rw [wxt_add f g p q n k (a + 1), show a + 1 + n = a + (n + 1) by omega]
theorem wss_spec (va : Nat → Int64) (v : Int64) (a : Nat) : ∀ n : Nat, (∀ j, wf_ss va v a n ≤ j → j < a + n → va j = v) ∧ (a < wf_ss va v a n → va (wf_ss va v a n - 1) ≠ v)
  | 0 => ⟨fun j h1 h2 => by
      have h1 : a ≤ j := h1
      omega, fun h => absurd h (Nat.lt_irrefl a)⟩
  | n + 1 => by
    have ih := wss_spec va v a n
    have e : wf_ss va v a (n + 1) = if va (a + n) = v then wf_ss va v a n else a + n + 1 := rfl
    rw [e]
    by_cases q : va (a + n) = v
    · rw [if_pos q]
      refine ⟨fun j h1 h2 => ?_, ih.2⟩
      by_cases z : j = a + n
      · rw [z]; exact q
      · exact ih.1 j h1 (by omega)
    · rw [if_neg q]
      exact ⟨fun j h1 h2 => by omega, fun _ => by rw [Nat.add_sub_cancel]; exact q⟩
theorem wmr_id : ∀ {X : List XT}, (∀ (j : Nat) (e : XT), X[j]? = some e → e.2.2 = true) → wmr X = X
  | [], _ => rfl
  | e :: tl, h => by
    have h1 := wmr_id (X := tl) (fun j f hf => h (j + 1) f hf)
    have h2 := h 0 e rfl
    show (e.1, e.2.1, e.2.2 || _) :: wmr tl = e :: tl
    rw [h1, h2, Bool.true_or]
    obtain ⟨a, b, c⟩ := e
    cases h2
    rfl
theorem wmr_xs {f g : Nat → Int64} {p q E : Nat} {v : Int64} {EL : List XT} (hEL : ∀ (j : Nat) (e : XT), EL[j]? = some e → e.2.2 = true) {e0 : XT} (h0 : EL[0]? = some e0) (hv : e0.2.1 = v) (hpE : p ≤ E) (hq : q = wf_ss g v p (E - p)) : ∀ n a : Nat, a + n = E → wmr (wxs f g p n a ++ EL) = wxt f g p q n a ++ EL := by
  have hs := wss_spec g v p (E - p)
  have hle := wf_ss_le g v p (E - p)
  rw [← hq] at hs hle
  intro n
  induction n with
  | zero => intro a _; exact wmr_id hEL
  | succ n ih =>
    intro a ha
    have e1 := ih (a + 1) (by omega)
    show (f a, g a, decide (a < p) || (match (wmr (wxs f g p n (a + 1) ++ EL))[0]? with | none => false | some x => x.2.2 && decide (x.2.1 = g a))) :: wmr (wxs f g p n (a + 1) ++ EL) = (f a, g a, decide (a < p ∨ q ≤ a)) :: (wxt f g p q n (a + 1) ++ EL)
    rw [e1]
    congr 3
    cases n with
    | zero =>
      have e2 : (wxt f g p q 0 (a + 1) ++ EL)[0]? = some e0 := h0
      rw [e2]
      simp only
      rw [hEL 0 e0 h0, hv, Bool.true_and]
      by_cases z : a < p
      · rw [decide_eq_true z, decide_eq_true (Or.inl z), Bool.true_or]
      · rw [decide_eq_false z, Bool.false_or]
        congr 1
        refine propext ⟨fun hh => Or.inr ?_, fun hh => ?_⟩
        · rcases Nat.lt_or_ge a q with z2 | z2
          · have z3 : q = a + 1 := by omega
            have := hs.2 (by omega)
            rw [z3, Nat.add_sub_cancel] at this
            exact absurd hh.symm this
          · exact z2
        · exact (hs.1 a (hh.resolve_left z) (by omega)).symm
    | succ n =>
      have e2 : (wxt f g p q (n + 1) (a + 1) ++ EL)[0]? = some (f (a + 1), g (a + 1), decide (a + 1 < p ∨ q ≤ a + 1)) := rfl
      rw [e2]
      simp only
      by_cases z : a < p
      · rw [decide_eq_true z, decide_eq_true (Or.inl z), Bool.true_or]
      · rw [decide_eq_false z, Bool.false_or, ← Bool.decide_and]
        congr 1
        refine propext ⟨fun hh => Or.inr ?_, fun hh => ?_⟩
        · have z1 : q ≤ a + 1 := hh.1.resolve_left (by omega)
          rcases Nat.lt_or_ge a q with z2 | z2
          · have z3 : q = a + 1 := by omega
            have z4 := hs.2 (by omega)
            rw [z3, Nat.add_sub_cancel, ← hh.2] at z4
            exact absurd (hs.1 (a + 1) (by omega) (by omega)) z4
          · exact z2
        · have z1 := hh.resolve_left z
          exact ⟨Or.inr (by omega), by rw [hs.1 (a + 1) (by omega) (by omega), hs.1 a z1 (by omega)]⟩
/-- the marked ones -/
def wkp : List XT → List PT
  | [] => []
  | e :: tl => if e.2.2 = true then (e.1, e.2.1) :: wkp tl else wkp tl
theorem wkp_app : ∀ a b : List XT, wkp (a ++ b) = wkp a ++ wkp b
  | [], _ => rfl
  | e :: tl, b => by
    have h := wkp_app tl b
    show (if e.2.2 = true then (e.1, e.2.1) :: wkp (tl ++ b) else wkp (tl ++ b)) = (if e.2.2 = true then (e.1, e.2.1) :: wkp tl else wkp tl) ++ wkp b
    rw [h]
    split <;> rfl
theorem wkp_st : ∀ (A B : List XT), wst A.length (A ++ B) = (wkp A).length
  | [], B => by cases B <;> rfl
  | e :: tl, B => by
    have h := wkp_st tl B
    show (if e.2.2 = true then 1 else 0) + wst tl.length (tl ++ B) = (if e.2.2 = true then (e.1, e.2.1) :: wkp tl else wkp tl).length
    rw [h]
    split
    · rw [List.length_cons]; omega
    · omega
theorem wrw_ml_s (d : Nat) : ∀ M : List XT, wrw d (wml d M) = wkp M
  | [] => rfl
  | e :: tl => by
    have h := wrw_ml_s d tl
    show wrw d (if e.2.2 = true then (d, e.1, e.2.1) :: wml d tl else wml d tl) = if e.2.2 = true then (e.1, e.2.1) :: wkp tl else wkp tl
    by_cases q : e.2.2 = true
    · rw [if_pos q, if_pos q]
      show (if d = d then (e.1, e.2.1) :: wrw d (wml d tl) else wrw d (wml d tl)) = _
      rw [if_pos rfl, h]
    · rw [if_neg q, if_neg q, h]
theorem wml_own (d : Nat) : ∀ (M : List XT) (z : ZT), z ∈ wml d M → z.1 = d
  | [], _, h => by cases h
  | e :: tl, z, h => by
    have ih := wml_own d tl z
    have h : z ∈ (if e.2.2 = true then (d, e.1, e.2.1) :: wml d tl else wml d tl) := h
    by_cases q : e.2.2 = true
    · rw [if_pos q] at h
      rcases List.mem_cons.mp h with h | h
      · rw [h]
      · exact ih h
    · rw [if_neg q] at h
      exact ih h
theorem wrw_ml_o {d k : Nat} (h : k ≠ d) : ∀ M : List XT, wrw k (wml d M) = []
  | [] => rfl
  | e :: tl => by
    have ih := wrw_ml_o h tl
    show wrw k (if e.2.2 = true then (d, e.1, e.2.1) :: wml d tl else wml d tl) = []
    by_cases q : e.2.2 = true
    · rw [if_pos q]
      show (if d = k then (e.1, e.2.1) :: wrw k (wml d tl) else wrw k (wml d tl)) = []
      rw [if_neg (fun e => h e.symm), ih]
    · rw [if_neg q, ih]
theorem wkp_all {f g : Nat → Int64} {p q : Nat} : ∀ {n a : Nat}, (∀ j, a ≤ j → j < a + n → j < p ∨ q ≤ j) → wkp (wxt f g p q n a) = wsg f g n a := by
  intro n
  induction n with
  | zero => intro a _; rfl
  | succ n ih =>
    intro a h
    show (if decide (a < p ∨ q ≤ a) = true then (f a, g a) :: wkp (wxt f g p q n (a + 1)) else wkp (wxt f g p q n (a + 1))) = (f a, g a) :: wsg f g n (a + 1)
    rw [if_pos (decide_eq_true (h a (Nat.le_refl a) (by omega))), ih (fun j h1 h2 => h j (by omega) (by omega))]
theorem wkp_no {f g : Nat → Int64} {p q : Nat} : ∀ {n a : Nat}, (∀ j, a ≤ j → j < a + n → ¬ (j < p ∨ q ≤ j)) → wkp (wxt f g p q n a) = [] := by
  intro n
  induction n with
  | zero => intro a _; rfl
  | succ n ih =>
    intro a h
    show (if decide (a < p ∨ q ≤ a) = true then (f a, g a) :: wkp (wxt f g p q n (a + 1)) else wkp (wxt f g p q n (a + 1))) = []
    rw [if_neg (by rw [decide_eq_true_eq]; exact h a (Nat.le_refl a) (by omega)), ih (fun j h1 h2 => h j (by omega) (by omega))]
theorem wkp_xt {f g : Nat → Int64} {p q n a : Nat} (h1 : a ≤ p) (h2 : p ≤ q) (h3 : q ≤ a + n) : wkp (wxt f g p q n a) = wsg f g (p - a) a ++ wsg f g (a + n - q) q := by
  have e1 := wxt_add f g p q (p - a) ((q - p) + (a + n - q)) a
  have e2 := wxt_add f g p q (q - p) (a + n - q) p
  rw [show p - a + ((q - p) + (a + n - q)) = n by omega, show a + (p - a) = p by omega, e2, show p + (q - p) = q by omega] at e1
  rw [e1, wkp_app, wkp_app, wkp_all (fun j a1 a2 => by omega), wkp_no (fun j a1 a2 => by omega), wkp_all (fun j a1 a2 => by omega), List.nil_append]
theorem wkp_el (now : Int64) (dl nv : Nat → Int64) : ∀ n k : Nat, wkp (wel now dl nv n k) = wsg (fun i => now + dl i) nv n k
  | 0, _ => rfl
  | n + 1, k => by
    show (if true = true then (now + dl k, nv k) :: wkp (wel now dl nv n (k + 1)) else wkp (wel now dl nv n (k + 1))) = (now + dl k, nv k) :: wsg (fun i => now + dl i) nv n (k + 1)
    rw [if_pos rfl, wkp_el now dl nv n (k + 1)]
