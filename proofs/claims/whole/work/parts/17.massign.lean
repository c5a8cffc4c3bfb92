/-! an assignment in the reference: its row of (time, value, marked) -/
theorem i32_le0 (i : Int32) : i ≤ 0 ↔ i < 1 := by
  rw [Int32.le_iff_toInt_le, Int32.lt_iff_toInt_lt, show (1 : Int32).toInt = 1 from by decide, Int32.toInt_zero]
  omega
section XA4
variable {p : Program} {l : Launch} {e : Env} {R : Room} {s : State} {m : MethodId} {args : Array Value} {below : List Frame} {meth : Method} {c : Code} {H : Heap} {locs : List Loc} {cells slots : Nat} {Q : State → Prop}
variable {cc : ByteArray} {pc : Nat} {ls : Array Slot} {rest : List Value} {D : va_G} {cl : List vw_C} {ws : va_W} {tys : List (ClassId × FieldType)} {A : Nat → Prop} {H0 : Heap} {a b : Nat}
theorem xa_newz (hx : p.tables.exec = Jvm.exec) (hb : c.code = cc) (harr : (Cond.arrayClass .boolean).before args s = true) (hK : va_K D cl tys s) (hP : va_P D cl ws H) (hD : va_D A ws) (hS : va_S A H0 H locs) (hA : ∀ q, H0.size ≤ q → A q)
    {N : Nat} (hN : N ≤ 65536) (hcells : cells + 1 ≤ R.cells) (hslots : slots + N ≤ R.slots) (hdg : decode cc pc = .ok (.newarray .boolean, 2))
    (kk : ∀ (q : Nat) (cA : ClassId) (H1 : Heap), va_K D cl (tys ++ [(cA, .boolean)]) s → va_P D cl (ws ++ [(q, .inl (cA, N, .inl (fun _ => 0)))]) H1 → va_D A (ws ++ [(q, .inl (cA, N, .inl (fun _ => 0)))]) → va_S A H0 H1 locs →
      W p l e R s m args below meth c H1 locs (cells + 1) (slots + N) Q (F0 m (pc + 2) ls (.ref q :: rest))) : W p l e R s m args below meth c H locs cells slots Q (F0 m pc ls (.int (nI N) :: rest)) :=
  va_newa (atype := .boolean) (ty := .boolean) (N' := N) (a0 := (N, .inl (fun _ => 0))) hx hb harr rfl hK hP hD hS hA (fun _ => rfl) (nI_pos (by omega)) (nI_clamp (by omega)) (by show N * 1 ≤ 536870912; omega) hcells hslots hdg kk
theorem xk_sameZ {U : State} {c1 c2 : ClassId} {t1 t2 : Nat} (hK : va_K D cl tys U) (h1 : tys[t1]? = some (c1, .boolean)) (h2 : tys[t2]? = some (c2, .boolean)) : c1 = c2 := by
  have e1 : U.vm.findClass ("[" ++ (FieldType.boolean).toString) = some c1 := (hK.2 t1 _ h1).2
  have e2 : U.vm.findClass ("[" ++ (FieldType.boolean).toString) = some c2 := (hK.2 t2 _ h2).2
  exact Option.some.inj (e1.symm.trans e2)
end XA4
abbrev XT : Type := Int64 × Int64 × Bool
def wx (X : List XT) (rt rv : Nat → Int64) (mk : Nat → Bool) : Prop := ∀ (j : Nat) (e : XT), X[j]? = some e → rt j = e.1 ∧ rv j = e.2.1 ∧ mk j = e.2.2
theorem ub_s {g : Nat → Bool} {k : Nat} {v : Bool} : ub g k v k = v := if_pos rfl
theorem ub_n {g : Nat → Bool} {k j : Nat} {v : Bool} (h : j ≠ k) : ub g k v j = g j := if_neg h
theorem wx_push {X : List XT} {rt rv : Nat → Int64} {mk : Nat → Bool} (x : XT) (h : wx X rt rv mk) : wx (X ++ [x]) (vp_updL rt X.length x.1) (vp_updL rv X.length x.2.1) (ub mk X.length x.2.2) := by
  intro j e he
  by_cases q : j = X.length
  · subst q
    rw [List.getElem?_append_right (Nat.le_refl _), Nat.sub_self] at he
    cases he
    exact ⟨pk_uLs, pk_uLs, ub_s⟩
  · have hj : j < X.length := by
      have h1 := (List.getElem?_eq_some_iff.mp he).1
      rw [wz_len] at h1
      omega
    rw [List.getElem?_append_left hj] at he
    obtain ⟨h1, h2, h3⟩ := h j e he
    exact ⟨(pk_uLn q).trans h1, (pk_uLn q).trans h2, (ub_n q).trans h3⟩
def wro (d : Nat) (fs lm : Int64) (mo : Int32) : List ZT → List XT
  | [] => []
  | z :: tl => if z.1 = d ∧ z.2.1 < fs then (z.2.1, z.2.2, decide (mo = 1 ∨ z.2.1 < fs - lm)) :: wro d fs lm mo tl else wro d fs lm mo tl
theorem wro_len (d : Nat) (fs lm : Int64) (mo : Int32) : ∀ zs : List ZT, (wro d fs lm mo zs).length ≤ wc d zs
  | [] => Nat.le_refl 0
  | z :: tl => by
    have h := wro_len d fs lm mo tl
    show (if z.1 = d ∧ z.2.1 < fs then (z.2.1, z.2.2, decide (mo = 1 ∨ z.2.1 < fs - lm)) :: wro d fs lm mo tl else wro d fs lm mo tl).length ≤ (if z.1 = d then 1 else 0) + wc d tl
    by_cases q : z.1 = d ∧ z.2.1 < fs
    · rw [if_pos q, if_pos q.1, List.length_cons]; omega
    · rw [if_neg q]; omega
def wel (now : Int64) (dl nv : Nat → Int64) : Nat → Nat → List XT
  | 0, _ => []
  | n + 1, k => (now + dl k, nv k, true) :: wel now dl nv n (k + 1)
theorem wel_len (now : Int64) (dl nv : Nat → Int64) : ∀ n k : Nat, (wel now dl nv n k).length = n
  | 0, _ => rfl
  | n + 1, k => congrArg (· + 1) (wel_len now dl nv n (k + 1))
theorem wel_mark (now : Int64) (dl nv : Nat → Int64) : ∀ (n k j : Nat) (e : XT), (wel now dl nv n k)[j]? = some e → e.2.2 = true
  | 0, _, j, e, h => by cases h
  | n + 1, k, 0, e, h => by cases h; rfl
  | n + 1, k, j + 1, e, h => wel_mark now dl nv n (k + 1) j e h
/-- marks go from the last to the first -/
def wmr : List XT → List XT
  | [] => []
  | e :: tl => (e.1, e.2.1, e.2.2 || (match (wmr tl)[0]? with | none => false | some f => f.2.2 && decide (f.2.1 = e.2.1))) :: wmr tl
theorem wmr_len : ∀ X : List XT, (wmr X).length = X.length
  | [] => rfl
  | e :: tl => congrArg (· + 1) (wmr_len tl)
theorem wmr_get : ∀ (X : List XT) (j : Nat) (e : XT), X[j]? = some e → (wmr X)[j]? = some (e.1, e.2.1, e.2.2 || (match (wmr X)[j + 1]? with | none => false | some f => f.2.2 && decide (f.2.1 = e.2.1)))
  | [], j, e, h => by cases h
  | x :: tl, 0, e, h => by cases h; rfl
  | x :: tl, j + 1, e, h => wmr_get tl j e h
theorem wmr_mark {X : List XT} {j : Nat} {e : XT} (h : X[j]? = some e) (hm : e.2.2 = true) : (wmr X)[j]? = some e := by
  rw [wmr_get X j e h, hm]
  obtain ⟨a, b, c⟩ := e
  cases hm
  rfl
/-- how many of the first n are marked -/
def wst : Nat → List XT → Nat
  | 0, _ => 0
  | _ + 1, [] => 0
  | n + 1, e :: tl => (if e.2.2 = true then 1 else 0) + wst n tl
theorem wst_le : ∀ (n : Nat) (M : List XT), wst n M ≤ n
  | 0, _ => Nat.le_refl 0
  | _ + 1, [] => Nat.zero_le _
  | n + 1, e :: tl => by
    have h := wst_le n tl
    show (if e.2.2 = true then 1 else 0) + wst n tl ≤ n + 1
    split <;> omega
/-- the marked ones as a driver's transactions -/
def wml (d : Nat) : List XT → List ZT
  | [] => []
  | e :: tl => if e.2.2 = true then (d, e.1, e.2.1) :: wml d tl else wml d tl
theorem wml_len (d : Nat) : ∀ M : List XT, (wml d M).length = wst M.length M
  | [] => rfl
  | e :: tl => by
    have h := wml_len d tl
    show (if e.2.2 = true then (d, e.1, e.2.1) :: wml d tl else wml d tl).length = (if e.2.2 = true then 1 else 0) + wst tl.length tl
    by_cases q : e.2.2 = true
    · rw [if_pos q, if_pos q, List.length_cons]; omega
    · rw [if_neg q, if_neg q]; omega
theorem wst_add : ∀ (n k : Nat) (M : List XT), wst (n + k) M = wst n M + wst k (M.drop n)
  | 0, k, M => by rw [Nat.zero_add, List.drop_zero]; exact (Nat.zero_add _).symm
  | n + 1, k, [] => by
    have h : wst (n + 1 + k) [] = 0 := by rw [show n + 1 + k = (n + k) + 1 by omega]; rfl
    rw [h]
    cases k <;> rfl
  | n + 1, k, e :: tl => by
    rw [show n + 1 + k = (n + k) + 1 by omega]
    show (if e.2.2 = true then 1 else 0) + wst (n + k) tl = ((if e.2.2 = true then 1 else 0) + wst n tl) + wst k (tl.drop n)
    rw [wst_add n k tl]
    omega
theorem wst_all : ∀ (M : List XT), (∀ (j : Nat) (e : XT), M[j]? = some e → e.2.2 = true) → wst M.length M = M.length
  | [], _ => rfl
  | e :: tl, h => by
    have q := wst_all tl (fun j f hf => h (j + 1) f hf)
    show (if e.2.2 = true then 1 else 0) + wst tl.length tl = tl.length + 1
    rw [if_pos (h 0 e rfl)]
    omega
theorem wot_wc (d : Nat) : ∀ zs : List ZT, (wot d zs).length + wc d zs = zs.length
  | [] => rfl
  | z :: tl => by
    have h := wot_wc d tl
    show (wot d (z :: tl)).length + ((if z.1 = d then 1 else 0) + wc d tl) = tl.length + 1
    by_cases q : z.1 = d
    · rw [wot_skip q, if_pos q]; omega
    · rw [wot_take q, if_neg q, List.length_cons]; omega
theorem wx_drop {X tl : List XT} {k : Nat} {e : XT} (h : X.drop k = e :: tl) : k < X.length ∧ X[k]? = some e ∧ X.drop (k + 1) = tl := by
  have h1 : k < X.length := by
    rcases Nat.lt_or_ge k X.length with q | q
    · exact q
    · rw [List.drop_eq_nil_of_le q] at h; cases h
  rw [List.drop_eq_getElem_cons h1] at h
  injection h with h2 h3
  exact ⟨h1, by rw [List.getElem?_eq_getElem h1, h2], h3⟩
theorem wmk_ml (d : Nat) {M : List XT} {rt rv : Nat → Int64} {mk : Nat → Bool} (h : wx M rt rv mk) : ∀ (S : List XT) (k : Nat), M.drop k = S → wmk d rt rv mk S.length k = wml d S
  | [], _, _ => rfl
  | e :: tl, k, hS => by
    obtain ⟨h1, h2, h3⟩ := wx_drop hS
    obtain ⟨q1, q2, q3⟩ := h k e h2
    have ih := wmk_ml d h tl (k + 1) h3
    show (if mk k = true then (d, rt k, rv k) :: wmk d rt rv mk tl.length (k + 1) else wmk d rt rv mk tl.length (k + 1)) = (if e.2.2 = true then (d, e.1, e.2.1) :: wml d tl else wml d tl)
    rw [ih, q1, q2, q3]
theorem wcn_st {M : List XT} {rt rv : Nat → Int64} {mk : Nat → Bool} (h : wx M rt rv mk) : ∀ (n k : Nat), k + n ≤ M.length → wcn mk n k = wst n (M.drop k) := by
  intro n
  induction n with
  | zero => intro k _; rfl
  | succ n ih =>
    intro k hk
    rw [List.drop_eq_getElem_cons (show k < M.length by omega)]
    have q := (h k M[k] (List.getElem?_eq_getElem (by omega))).2.2
    show (if mk k = true then 1 else 0) + wcn mk n (k + 1) = (if M[k].2.2 = true then 1 else 0) + wst n (M.drop (k + 1))
    rw [ih (k + 1) (by omega), q]
/-- what an assignment makes of the marks: all of them, the first n by their own marks yet -/
def wbm (E : List XT) (n : Nat) (mk : Nat → Bool) : Prop := (∀ (j : Nat) (e : XT), j < n → E[j]? = some e → mk j = e.2.2) ∧ ∀ (j : Nat) (f : XT), n ≤ j → (wmr E)[j]? = some f → mk j = f.2.2
theorem wbm_end {E : List XT} {rt rv : Nat → Int64} {mk0 mk : Nat → Bool} (h0 : wx E rt rv mk0) (h : wbm E 0 mk) : wx (wmr E) rt rv mk := by
  intro j f hf
  have hj : j < E.length := by
    have := (List.getElem?_eq_some_iff.mp hf).1
    rw [wmr_len] at this
    exact this
  have he := wmr_get E j E[j] (List.getElem?_eq_getElem hj)
  obtain ⟨q1, q2, -⟩ := h0 j E[j] (List.getElem?_eq_getElem hj)
  have h9 := h.2 j f (Nat.zero_le j) hf
  rw [hf] at he
  cases he
  exact ⟨q1, q2, h9⟩
theorem wbm_init {E : List XT} {rt rv : Nat → Int64} {mk : Nat → Bool} {n : Nat} (h0 : wx E rt rv mk) (hn : ∀ (j : Nat) (e : XT), n ≤ j → E[j]? = some e → e.2.2 = true) : wbm E n mk := by
  refine ⟨fun j e _ he => (h0 j e he).2.2, fun j f hj hf => ?_⟩
  have hl : j < E.length := by
    have := (List.getElem?_eq_some_iff.mp hf).1
    rw [wmr_len] at this
    exact this
  have he := List.getElem?_eq_getElem hl
  have hm := hn j _ hj he
  rw [wmr_mark he hm] at hf
  cases hf
  exact (h0 j _ he).2.2
theorem wbm_step {E : List XT} {rt rv : Nat → Int64} {mk0 mk : Nat → Bool} {n : Nat} (h0 : wx E rt rv mk0) (h : wbm E (n + 1) mk) (hn : n + 1 < E.length) {b : Bool} (hb : b = (mk n || (mk (n + 1) && decide (rv (n + 1) = rv n)))) : wbm E n (ub mk n b) := by
  have he := List.getElem?_eq_getElem (show n < E.length by omega)
  have hf : (wmr E)[n + 1]? = some ((wmr E)[n + 1]'(by rw [wmr_len]; exact hn)) := List.getElem?_eq_getElem (by rw [wmr_len]; exact hn)
  generalize (wmr E)[n + 1]'(by rw [wmr_len]; exact hn) = f at hf
  generalize E[n] = e at he
  have g1 := wmr_get E n e he
  rw [hf] at g1
  have hv1 : rv n = e.2.1 := (h0 n e he).2.1
  have hv2 : rv (n + 1) = f.2.1 := by
    have he2 := List.getElem?_eq_getElem hn
    have g2 := wmr_get E (n + 1) _ he2
    rw [hf] at g2
    cases g2
    exact (h0 (n + 1) _ he2).2.1
  have hm1 : mk n = e.2.2 := h.1 n e (by omega) he
  have hm2 : mk (n + 1) = f.2.2 := h.2 (n + 1) f (Nat.le_refl _) hf
  refine ⟨fun j x hj hx => ?_, fun j x hj hx => ?_⟩
  · rw [ub_n (by omega)]
    exact h.1 j x (by omega) hx
  · by_cases q : j = n
    · subst q
      rw [g1] at hx
      cases hx
      rw [ub_s, hb, hm1, hm2, hv1, hv2]
    · rw [ub_n q]
      exact h.2 j x (by omega) hx
theorem wE_st {R : List XT} {now : Int64} {dl nv : Nat → Int64} {el : Nat} : wst (R ++ wel now dl nv el 0).length (wmr (R ++ wel now dl nv el 0)) = wst R.length (wmr (R ++ wel now dl nv el 0)) + el := by
  have hl : ((wmr (R ++ wel now dl nv el 0)).drop R.length).length = el := by
    rw [List.length_drop, wmr_len, List.length_append, wel_len]; omega
  have h := wst_all ((wmr (R ++ wel now dl nv el 0)).drop R.length) (fun j e he => by
    rw [List.getElem?_drop] at he
    have hj : R.length + j < (R ++ wel now dl nv el 0).length := by
      have := (List.getElem?_eq_some_iff.mp he).1
      rw [wmr_len] at this
      exact this
    have h2 := List.getElem?_eq_getElem hj
    have h3 : ((R ++ wel now dl nv el 0)[R.length + j]).2.2 = true := by
      have h4 := h2
      rw [List.getElem?_append_right (Nat.le_add_right _ _)] at h4
      exact wel_mark now dl nv el 0 _ _ h4
    rw [wmr_mark h2 h3] at he
    cases he
    exact h3)
  rw [hl] at h
  rw [List.length_append, wel_len, wst_add, h]
theorem wE_mark {R : List XT} {now : Int64} {dl nv : Nat → Int64} {el : Nat} : ∀ (j : Nat) (e : XT), R.length ≤ j → (R ++ wel now dl nv el 0)[j]? = some e → e.2.2 = true := by
  intro j e hj he
  rw [List.getElem?_append_right hj] at he
  exact wel_mark now dl nv el 0 _ _ he
def wm_g (mo : Int32) (t now : Int64) (dl : Nat → Int64) (el : Nat) : Prop := (¬ mo < 0 ∧ ¬ 2 < mo) ∧ wm_ri dl el ∧ ¬ 1152921504606846976 < now + dl (el - 1) ∧ ¬ (mo = 2 ∧ (t < 0 ∨ dl 0 < t))
