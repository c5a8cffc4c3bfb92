/-! the class's state: its eight cells; what holds of its numbers; what its methods compute -/
abbrev wr (x a1 a2 a3 a4 a5 a6 a7 : Nat) (cI cJ : ClassId) (nD nR : Nat) (dv : Nat → Int64) (r : Nat → Nat) (cap : Nat) (ti va ev ed : Nat → Int64) (ec : Nat) (ad : Nat → Int32) (ac : Nat) (now : Int64) : va_W :=
  [(x, .inr (0, [.int (nI nD), .int (nI nR), .ref a1, .ref a2, .ref a3, .ref a4, .ref a5, .ref a6, .int (nI ec), .ref a7, .int (nI ac), .long now])), (a1, .inl (cJ, nD, .inr (.inl dv))), (a2, .inl (cI, nD + 1, .inl (fun j => nI (r j)))), (a3, .inl (cJ, cap, .inr (.inl ti))), (a4, .inl (cJ, cap, .inr (.inl va))), (a5, .inl (cJ, 16, .inr (.inl ev))), (a6, .inl (cJ, 16, .inr (.inl ed))), (a7, .inl (cI, nD, .inl ad))]
/-- the numbers of an object that is in order: drivers, room, places, elements, active ones, where the rows begin -/
def wf_R (nD nR cap ec ac : Nat) (r : Nat → Nat) : Prop := 1 ≤ nD ∧ nD ≤ 512 ∧ 1 ≤ nR ∧ nR ≤ 8192 ∧ cap ≤ 8192 ∧ r nD ≤ cap ∧ r nD ≤ nR ∧ r 0 = 0 ∧ (∀ j, j < nD → r j ≤ r (j + 1)) ∧ ec ≤ 16 ∧ ac ≤ nD
theorem wf_mono {nD : Nat} {r : Nat → Nat} (h : ∀ j, j < nD → r j ≤ r (j + 1)) : ∀ n i : Nat, i + n ≤ nD → r i ≤ r (i + n) := by
  intro n
  induction n with
  | zero => intro i _; exact Nat.le_refl _
  | succ n ih => intro i hi; exact Nat.le_trans (ih i (by omega)) (h (i + n) (by omega))
theorem wf_le {nD : Nat} {r : Nat → Nat} (h : ∀ j, j < nD → r j ≤ r (j + 1)) {i j : Nat} (hij : i ≤ j) (hj : j ≤ nD) : r i ≤ r j := by
  have q := wf_mono h (j - i) i (by omega)
  rw [show i + (j - i) = j by omega] at q
  exact q
/-- the first of n places from a on whose time is behind t; else the place behind them -/
def wf_fb (ti : Nat → Int64) (t : Int64) : Nat → Nat → Nat
  | 0, a => a
  | n + 1, a => if ti a ≤ t then wf_fb ti t n (a + 1) else a
/-- from place a + n down to a: behind the last one that holds another value -/
def wf_ss (va : Nat → Int64) (v : Int64) (a : Nat) : Nat → Nat
  | 0 => a
  | n + 1 => if va (a + n) = v then wf_ss va v a n else a + n + 1
theorem wf_fb_le (ti : Nat → Int64) (t : Int64) : ∀ n a : Nat, a ≤ wf_fb ti t n a ∧ wf_fb ti t n a ≤ a + n := by
  intro n
  induction n with
  | zero => intro a; exact ⟨Nat.le_refl a, Nat.le_refl a⟩
  | succ n ih =>
    intro a
    unfold wf_fb
    split
    · have h := ih (a + 1)
      omega
    · omega
theorem wf_ss_le (va : Nat → Int64) (v : Int64) (a : Nat) : ∀ n : Nat, a ≤ wf_ss va v a n ∧ wf_ss va v a n ≤ a + n := by
  intro n
  induction n with
  | zero => exact ⟨Nat.le_refl a, Nat.le_refl a⟩
  | succ n ih =>
    unfold wf_ss
    split
    · omega
    · omega
def wf_act (ad : Nat → Int32) (ac : Nat) (i : Int32) : Int32 := if ¬ i < 0 ∧ ¬ nI ac ≤ i then ad i.toNatClampNeg else -1
def wf_lim (mo : Int32) (f t : Int64) : Int64 := if mo = 0 then f else if mo = 2 then t else 0
def wf_lg (mo : Int32) (f t : Int64) : Prop := (mo = 2 ∧ ¬ t < 0 ∧ ¬ f < t) ∨ mo = 0 ∨ mo = 1
/-- the delays rise from b on, and no time is above 2^60 -/
def wf_dg (ed : Nat → Int64) (now : Int64) : Nat → Nat → Int64 → Prop
  | 0, _, _ => True
  | n + 1, i, b => ¬ ed i ≤ b ∧ now + ed i ≤ 1152921504606846976 ∧ wf_dg ed now n (i + 1) (ed i)
/-- the least first time of n rows from d on, and le -/
def wf_nx (r : Nat → Nat) (ti : Nat → Int64) : Nat → Nat → Int64 → Int64
  | 0, _, le => le
  | n + 1, d, le => wf_nx r ti n (d + 1) (if r (d + 1) - r d = 0 then le else if le = -1 then ti (r d) else if ti (r d) < le then ti (r d) else le)
/-! what the throws ask of the start -/
def xt_rt : List String := ["java/lang/RuntimeException", "java/lang/Exception"]
def xt_heap : List Cond := [.laysStatic Bundle.tN "UNASSIGNED_STACK" Bundle.steD, .laysStatic Bundle.tN "SUPPRESSED_SENTINEL" Bundle.listD, .isRef (.static Bundle.tN "UNASSIGNED_STACK" Bundle.steD), .isRef (.static Bundle.tN "SUPPRESSED_SENTINEL" Bundle.listD)]
def xt_lk : List Cond := [.classLink RX0 47 "java/lang/IllegalArgumentException", .classLink RX0 57 "java/lang/IllegalStateException", .classLink RX0 120 "java/lang/IndexOutOfBoundsException", .initialized "java/lang/IllegalArgumentException", .initialized "java/lang/IllegalStateException", .initialized "java/lang/IndexOutOfBoundsException"]
def xt_all : List Cond := xt_lk ++ (Bundle.ownAtoms RX0 51 "java/lang/IllegalArgumentException" xt_rt ++ (Bundle.ownAtoms RX0 61 "java/lang/IllegalStateException" xt_rt ++ Bundle.ownAtoms RX0 124 "java/lang/IndexOutOfBoundsException" xt_rt))
theorem xt_in1 : ∀ w ∈ Bundle.ownAtoms RX0 51 "java/lang/IllegalArgumentException" xt_rt, w ∈ xt_all := fun _ h => List.mem_append_right _ (List.mem_append_left _ h)
theorem xt_in2 : ∀ w ∈ Bundle.ownAtoms RX0 61 "java/lang/IllegalStateException" xt_rt, w ∈ xt_all := fun _ h => List.mem_append_right _ (List.mem_append_right _ (List.mem_append_left _ h))
theorem xt_in3 : ∀ w ∈ Bundle.ownAtoms RX0 124 "java/lang/IndexOutOfBoundsException" xt_rt, w ∈ xt_all := fun _ h => List.mem_append_right _ (List.mem_append_right _ (List.mem_append_right _ h))
def xt_strs : List (Nat × String) := [(49, "the delay is below 0 or above 2^60"), (59, "there are 16 elements"), (66, "no element is laid down"), (76, "the mode, the limit or the delays are wrong"), (93, "there is no room for so many transactions"), (110, "the time is before NOW or above 2^60"), (122, "there is no such transaction"), (125, "the time is before NOW"), (127, "there is no such driver")]
def xt_ok (U : State) : Prop := (∀ w ∈ xt_all, w.before #[] U = true) ∧ ∀ q ∈ xt_strs, ∃ a : Nat, vk_R RX0 q.1 q.2 a U
set_option maxRecDepth 20000 in
theorem xt_kind : ∀ w ∈ xt_all, (w.onTables && w.keepsCast) = true ∨ w ∈ xt_heap := by decide +kernel
theorem xt_w {args a' : Array Value} {s U : State} {w : Cond} (hW : s.WarmedH U.vm) (ht : w.onTables = true) (hk : w.keepsCast = true) (h : w.before args s = true) : w.before a' U = true := by
  have h1 := Cond.before_shiftedCast (State.Shifted.of_warmed hW) w hk h
  rw [Cond.onTables_vm (A' := a') (U' := U) U.vm w ht] at h1
  exact h1
theorem xt_lays {C n d : String} {args a' : Array Value} {s U : State} (hvm : s.vm.Alike U.vm) (hh : ∀ q : Nat, q < s.heap.size → U.heap[q]? = s.heap[q]?) (h : (Cond.laysStatic C n d).before args s = true) : (Cond.laysStatic C n d).before a' U = true := by
  obtain ⟨c, k, i, f, a, cell, h1, h2, h3, h4, h5, h6, h7, h8, h9⟩ := Cond.laysStatic_spec h
  obtain ⟨k', hi', he⟩ := State.fieldFound?_setVm hvm h2
  show (Cond.laysStatic C n d).holds a' U none U [] = true
  exact Cond.laysStatic_of (by rw [hvm.findClass]; exact h1) hi' h3 (by rw [he]; exact h4) (by rw [hh a (Array.getElem?_eq_some_iff.mp h5).1]; exact h5) h6 h7 h8 (by rw [he]; exact h9)
theorem xt_ref {C n d : String} {args a' : Array Value} {s U : State} (hvm : s.vm.Alike U.vm) (hh : ∀ q : Nat, q < s.heap.size → U.heap[q]? = s.heap[q]?) (hl : (Cond.laysStatic C n d).before args s = true) (hini : (Cond.initialized C).before args s = true) (h : (Cond.isRef (.static C n d)).before args s = true) : (Cond.isRef (.static C n d)).before a' U = true := by
  have z : va_Zq C n d (fun _ => False) U U.heap := va_Zq.moved hvm ((va_Zqof (A := fun _ => False) hl hini h (fun _ _ => id)).kept (fun q hq _ => hh q hq))
  have go : ∀ v : Value, v.isRef = true → va_Z C n d v (fun _ => False) U U.heap → (Cond.isRef (.static C n d)).before a' U = true := by
    intro v hv z
    obtain ⟨cf, kf, fi, f, a, cell, h1, h2, h3, h4, h5, h6, h7, -⟩ := z
    have he : (Term.static C n d).eval a' U none [] U = some v := by
      simp [Term.eval, State.fieldNamed?, h1, h2, h4, h5, h6, h7]
    simp only [Cond.before, Cond.holds, Cond.value, he]
    cases v <;> simp_all [Value.isRef]
  rcases z with z | ⟨t, z⟩
  · exact go _ rfl z
  · exact go _ rfl z
theorem xt_mv {args a' : Array Value} {s U : State} (hW : s.WarmedH U.vm) (hh : ∀ q : Nat, q < s.heap.size → U.heap[q]? = s.heap[q]?) (h : ∀ w ∈ xt_all, w.before args s = true) : ∀ w ∈ xt_all, w.before a' U = true := by
  intro w hw
  have hl1 : (Cond.laysStatic Bundle.tN "UNASSIGNED_STACK" Bundle.steD).before args s = true := h _ (xt_in1 _ (by simp [Bundle.ownAtoms, Bundle.throwableAtoms]))
  have hl2 : (Cond.laysStatic Bundle.tN "SUPPRESSED_SENTINEL" Bundle.listD).before args s = true := h _ (xt_in1 _ (by simp [Bundle.ownAtoms, Bundle.throwableAtoms]))
  have hini : (Cond.initialized Bundle.tN).before args s = true := h _ (xt_in1 _ (by simp [Bundle.ownAtoms, Bundle.throwableAtoms]))
  rcases xt_kind w hw with hk | hk
  · rw [Bool.and_eq_true] at hk
    exact xt_w hW hk.1 hk.2 (h w hw)
  · have h0 := h w hw
    simp only [xt_heap, List.mem_cons, List.not_mem_nil, or_false] at hk
    rcases hk with rfl | rfl | rfl | rfl
    · exact xt_lays hW.alike hh hl1
    · exact xt_lays hW.alike hh hl2
    · exact xt_ref hW.alike hh hl1 hini h0
    · exact xt_ref hW.alike hh hl2 hini h0
theorem xt_move {s U : State} (hW : s.WarmedH U.vm) (hh : ∀ q : Nat, q < s.heap.size → U.heap[q]? = s.heap[q]?) (h : xt_ok s) : xt_ok U :=
  ⟨xt_mv hW hh h.1, fun q hq => by obtain ⟨a, ha⟩ := h.2 q hq; exact ⟨a, vk_R.warm hW ha⟩⟩
theorem xt_at {args : Array Value} {s : State} (h : xt_ok s) : ∀ w ∈ xt_all, w.before args s = true := xt_mv (State.WarmedH.refl s) (fun _ _ => rfl) h.1
theorem xk_blind {As : List Value} {D : va_G} {cl : List vw_C} {ws : va_W} {tys : List (ClassId × FieldType)} : FrameBlind (va_Pc As (fun U => va_P D cl ws U.heap ∧ va_K D cl tys U ∧ xt_ok U)) := fun a U g mk q => by
  obtain ⟨q0, qP, qK, qO⟩ := q
  exact ⟨q0, qP, va_K.moved (u := U) (U := U.calling g mk a) (Vm.Alike.refl U.vm) qK, xt_move (s := U) (U := U.calling g mk a) (State.WarmedH.refl U) (fun _ _ => rfl) qO⟩
/-- n values g 0, g 1 .. from place f on -/
def wf_pt (ti : Nat → Int64) (f : Nat) (g : Nat → Int64) (n : Nat) : Nat → Int64 := fun j => if f ≤ j ∧ j < f + n then g (j - f) else ti j
theorem wf_pt_0 (ti : Nat → Int64) (f : Nat) (g : Nat → Int64) : wf_pt ti f g 0 = ti := by
  funext j
  exact if_neg (by omega)
theorem wf_pt_s (ti : Nat → Int64) (f : Nat) (g : Nat → Int64) (n : Nat) : vp_updL (wf_pt ti f g n) (f + n) (g n) = wf_pt ti f g (n + 1) := by
  funext j
  unfold vp_updL wf_pt
  by_cases h : j = f + n
  · subst h
    rw [if_pos rfl, if_pos (by omega), show f + n - f = n by omega]
  · rw [if_neg h]
    by_cases h2 : f ≤ j ∧ j < f + n
    · rw [if_pos h2, if_pos (by omega)]
    · rw [if_neg h2, if_neg (by omega)]
/-- the rows behind d begin elsewhere: those up to k, by what lies between o and e -/
def wf_sh (r : Nat → Nat) (d e o k : Nat) : Nat → Nat := fun j => if d < j ∧ j < k then r j + e - o else r j
theorem wf_sh_0 (r : Nat → Nat) (d e o : Nat) : wf_sh r d e o (d + 1) = r := by
  funext j
  exact if_neg (by omega)
theorem wf_sh_s (r : Nat → Nat) (d e o k : Nat) (h : d < k) : un (wf_sh r d e o k) k (r k + e - o) = wf_sh r d e o (k + 1) := by
  funext j
  unfold un wf_sh
  by_cases q : j = k
  · subst q
    rw [if_pos rfl, if_pos (by omega)]
  · rw [if_neg q]
    by_cases q2 : d < j ∧ j < k
    · rw [if_pos q2, if_pos (by omega)]
    · rw [if_neg q2, if_neg (by omega)]
theorem wf_sh_at (r : Nat → Nat) (d e o k : Nat) : wf_sh r d e o k k = r k := if_neg (by omega)
