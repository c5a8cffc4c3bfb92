/-! the reference's list, when entries are pushed, taken away, marked -/
theorem wz_push {F : List ZT} {oc : Nat → Nat} {tc vc : Nat → Int64} (z : ZT) (h : wz F oc tc vc) : wz (F ++ [z]) (un oc F.length z.1) (vp_updL tc F.length z.2.1) (vp_updL vc F.length z.2.2) := by
  intro j e he
  by_cases q : j = F.length
  · subst q
    rw [List.getElem?_append_right (Nat.le_refl _), Nat.sub_self] at he
    cases he
    exact ⟨if_pos rfl, pk_uLs, pk_uLs⟩
  · have hj : j < F.length := by
      have h1 := (List.getElem?_eq_some_iff.mp he).1
      rw [List.length_append] at h1
      simp at h1
      omega
    rw [List.getElem?_append_left hj] at he
    obtain ⟨h1, h2, h3⟩ := h j e he
    exact ⟨(if_neg q).trans h1, (pk_uLn q).trans h2, (pk_uLn q).trans h3⟩
theorem wz_len {α : Type} (F : List α) (z : α) : (F ++ [z]).length = F.length + 1 := by simp
/-- those of the other drivers -/
def wot (d : Nat) (zs : List ZT) : List ZT := zs.filter (fun z => decide (¬ z.1 = d))
theorem wot_skip {d : Nat} {z : ZT} {tl : List ZT} (h : z.1 = d) : wot d (z :: tl) = wot d tl := by
  unfold wot
  rw [List.filter_cons_of_neg (by simp [h])]
theorem wot_take {d : Nat} {z : ZT} {tl : List ZT} (h : ¬ z.1 = d) : wot d (z :: tl) = z :: wot d tl := by
  unfold wot
  rw [List.filter_cons_of_pos (by simp [h])]
/-- the marked ones of n rows from k on, as a driver's transactions -/
def wmk (d : Nat) (rt rv : Nat → Int64) (mk : Nat → Bool) : Nat → Nat → List ZT
  | 0, _ => []
  | n + 1, k => if mk k = true then (d, rt k, rv k) :: wmk d rt rv mk n (k + 1) else wmk d rt rv mk n (k + 1)
/-- those behind t -/
def wla (t : Int64) (zs : List ZT) : List ZT := zs.filter (fun z => decide (t < z.2.1))
theorem wla_skip {t : Int64} {z : ZT} {tl : List ZT} (h : ¬ t < z.2.1) : wla t (z :: tl) = wla t tl := by
  unfold wla
  rw [List.filter_cons_of_neg (by simp [h])]
theorem wla_take {t : Int64} {z : ZT} {tl : List ZT} (h : t < z.2.1) : wla t (z :: tl) = z :: wla t tl := by
  unfold wla
  rw [List.filter_cons_of_pos (by simp [h])]
def wvs (t : Int64) : List ZT → (Nat → Int64) → (Nat → Int64)
  | [], f => f
  | z :: tl, f => wvs t tl (if t < z.2.1 then f else vp_updL f z.1 z.2.2)
def was (t : Int64) : List ZT → (Nat → Bool) → (Nat → Bool)
  | [], f => f
  | z :: tl, f => was t tl (if t < z.2.1 then f else ub f z.1 true)
def wfl (ac : Nat → Bool) (k : Nat) : Nat → Bool := fun j => if j < k then false else ac j
theorem wfl_0 (ac : Nat → Bool) : wfl ac 0 = ac := by
  funext j
  exact if_neg (Nat.not_lt_zero j)
theorem wfl_s (ac : Nat → Bool) (k : Nat) : ub (wfl ac k) k false = wfl ac (k + 1) := by
  funext j
  unfold ub wfl
  by_cases h : j = k
  · subst h; rw [if_pos rfl, if_pos (by omega)]
  · rw [if_neg h]
    by_cases h2 : j < k
    · rw [if_pos h2, if_pos (by omega)]
    · rw [if_neg h2, if_neg (by omega)]
def wcn (ac : Nat → Bool) : Nat → Nat → Nat
  | 0, _ => 0
  | n + 1, d => (if ac d = true then 1 else 0) + wcn ac n (d + 1)
theorem wot_len (d : Nat) (zs : List ZT) : (wot d zs).length ≤ zs.length := List.length_filter_le _ _
theorem wla_len (t : Int64) (zs : List ZT) : (wla t zs).length ≤ zs.length := List.length_filter_le _ _
