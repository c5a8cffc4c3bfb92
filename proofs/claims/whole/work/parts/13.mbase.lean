/-! the reference: booleans in arrays, counted numbers alike or not, its list of transactions (owner, time, value) -/
def bI (b : Bool) : Int32 := if b then 1 else 0
def ub (g : Nat → Bool) (k : Nat) (v : Bool) : Nat → Bool := fun j => if j = k then v else g j
theorem bI_t : (1 : Int32) = bI true := rfl
theorem bI_f : (0 : Int32) = bI false := rfl
theorem bI_nar (b : Bool) : vp_nar .boolean (bI b) = bI b := by cases b <;> rfl
theorem ub_upd (g : Nat → Bool) (k : Nat) (v : Bool) : upd (fun j => bI (g j)) k (bI v) = fun j => bI (ub g k v j) := by
  funext j
  unfold ub
  by_cases h : j = k
  · subst h; rw [pk_us, if_pos rfl]
  · rw [pk_un h, if_neg h]
section XA3
variable {p : Program} {l : Launch} {e : Env} {R : Room} {s : State} {m : MethodId} {args : Array Value} {below : List Frame} {meth : Method} {c : Code} {H : Heap} {locs : List Loc} {cells slots : Nat} {Q : State → Prop}
variable {cc : ByteArray} {pc : Nat} {ls : Array Slot} {rest : List Value} {D : va_G} {cl : List vw_C} {ws : va_W} {tys : List (ClassId × FieldType)} {A : Nat → Prop} {H0 : Heap} {a : Nat}
theorem xa_zald (hx : p.tables.exec = Jvm.exec) (hb : c.code = cc) (hK : va_K D cl tys s) (hP : va_P D cl ws H) (q0 t0 : Nat) {cA : ClassId} {n : Nat} {g : Nat → Bool} (ha : ws[q0]? = some (a, .inl (cA, n, .inl (fun j => bI (g j))))) (ht : tys[t0]? = some (cA, .boolean)) {k : Nat} (hk : k < n) (hn : n < 2 ^ 31) (hdg : decode cc pc = .ok (.baload, 1))
    (kk : W p l e R s m args below meth c H locs cells slots Q (F0 m (pc + 1) ls (.int (bI (g k)) :: rest))) : W p l e R s m args below meth c H locs cells slots Q (F0 m pc ls (.int (nI k) :: .ref a :: rest)) := by
  refine va_zald hx hb hK hP q0 t0 ha ht (vp_in_nI hk hn) hdg ?_
  rw [nI_clamp (Nat.lt_trans hk hn)]; exact kk
theorem xa_zast (hx : p.tables.exec = Jvm.exec) (hb : c.code = cc) (hK : va_K D cl tys s) (hP : va_P D cl ws H) (hD : va_D A ws) (hS : va_S A H0 H locs) (q0 t0 : Nat) {cA : ClassId} {n : Nat} {g : Nat → Bool} (ha : ws[q0]? = some (a, .inl (cA, n, .inl (fun j => bI (g j))))) (ht : tys[t0]? = some (cA, .boolean)) {k : Nat} {v : Bool} (hk : k < n) (hn : n < 2 ^ 31) (hdg : decode cc pc = .ok (.bastore, 1))
    (kk : ∀ (H1 : Heap) (locs1 : List Loc), va_P D cl (ws.set q0 (a, .inl (cA, n, .inl (fun j => bI (ub g k v j))))) H1 → va_D A (ws.set q0 (a, .inl (cA, n, .inl (fun j => bI (ub g k v j))))) → va_S A H0 H1 locs1 → W p l e R s m args below meth c H1 locs1 cells slots Q (F0 m (pc + 1) ls rest)) : W p l e R s m args below meth c H locs cells slots Q (F0 m pc ls (.int (bI v) :: .int (nI k) :: .ref a :: rest)) := by
  refine va_zast hx hb hK hP hD hS q0 t0 ha ht (vp_in_nI hk hn) hdg ?_
  rw [nI_clamp (Nat.lt_trans hk hn), bI_nar, ub_upd]; exact kk
theorem xb_eq {b : Bool} {off : Int} {tgt : Nat} (hx : p.tables.exec = Jvm.exec) (hb : c.code = cc) (d : decode cc pc = .ok (.ifCond .eq off, 3)) (ht : (pc : Int) + off = (tgt : Int))
    (kt : b = false → W p l e R s m args below meth c H locs cells slots Q (F0 m tgt ls rest)) (kf : b = true → W p l e R s m args below meth c H locs cells slots Q (F0 m (pc + 3) ls rest)) : W p l e R s m args below meth c H locs cells slots Q (F0 m pc ls (.int (bI b) :: rest)) :=
  lv_if_eq hx hb d ht (fun h => kt (by cases b; rfl; exact absurd h (by decide))) (fun h => kf (by cases b; exact absurd (by decide) h; rfl))
theorem xb_ne {b : Bool} {off : Int} {tgt : Nat} (hx : p.tables.exec = Jvm.exec) (hb : c.code = cc) (d : decode cc pc = .ok (.ifCond .ne off, 3)) (ht : (pc : Int) + off = (tgt : Int))
    (kt : b = true → W p l e R s m args below meth c H locs cells slots Q (F0 m tgt ls rest)) (kf : b = false → W p l e R s m args below meth c H locs cells slots Q (F0 m (pc + 3) ls rest)) : W p l e R s m args below meth c H locs cells slots Q (F0 m pc ls (.int (bI b) :: rest)) :=
  lv_if_ne hx hb d ht (fun h => kt (by cases b; exact absurd (by decide) h; rfl)) (fun h => kf (by cases b; rfl; exact absurd h (by decide)))
theorem xc_ne {i j : Nat} {off : Int} {tgt : Nat} (hx : p.tables.exec = Jvm.exec) (hb : c.code = cc) (hi : i < 2 ^ 31) (hj : j < 2 ^ 31) (d : decode cc pc = .ok (.if_icmp .ne off, 3)) (ht : (pc : Int) + off = (tgt : Int))
    (kt : ¬ i = j → W p l e R s m args below meth c H locs cells slots Q (F0 m tgt ls rest)) (kf : i = j → W p l e R s m args below meth c H locs cells slots Q (F0 m (pc + 3) ls rest)) : W p l e R s m args below meth c H locs cells slots Q (F0 m pc ls (.int (nI j) :: .int (nI i) :: rest)) :=
  lv_icmp_ne hx hb d ht (fun h => kt (fun q => h ((nI_eq hi hj).mpr q))) (fun h => kf ((nI_eq hi hj).mp h))
theorem xc_eq {i j : Nat} {off : Int} {tgt : Nat} (hx : p.tables.exec = Jvm.exec) (hb : c.code = cc) (hi : i < 2 ^ 31) (hj : j < 2 ^ 31) (d : decode cc pc = .ok (.if_icmp .eq off, 3)) (ht : (pc : Int) + off = (tgt : Int))
    (kt : i = j → W p l e R s m args below meth c H locs cells slots Q (F0 m tgt ls rest)) (kf : ¬ i = j → W p l e R s m args below meth c H locs cells slots Q (F0 m (pc + 3) ls rest)) : W p l e R s m args below meth c H locs cells slots Q (F0 m pc ls (.int (nI j) :: .int (nI i) :: rest)) :=
  lv_icmp_eq hx hb d ht (fun h => kt ((nI_eq hi hj).mp h)) (fun h => kf (fun q => h ((nI_eq hi hj).mpr q)))
theorem xz_eq {i : Nat} {off : Int} {tgt : Nat} (hx : p.tables.exec = Jvm.exec) (hb : c.code = cc) (hi : i < 2 ^ 31) (d : decode cc pc = .ok (.ifCond .eq off, 3)) (ht : (pc : Int) + off = (tgt : Int))
    (kt : i = 0 → W p l e R s m args below meth c H locs cells slots Q (F0 m tgt ls rest)) (kf : 0 < i → W p l e R s m args below meth c H locs cells slots Q (F0 m (pc + 3) ls rest)) : W p l e R s m args below meth c H locs cells slots Q (F0 m pc ls (.int (nI i) :: rest)) :=
  lv_if_eq hx hb d ht (fun h => kt (by
    rcases Nat.eq_zero_or_pos i with q | q
    · exact q
    · exact absurd h (nI_ne0 q hi))) (fun h => kf (Nat.pos_of_ne_zero fun q => h (by rw [q, nI_0])))
end XA3
abbrev ZT : Type := Nat × Int64 × Int64
/-- the arrays hold the list -/
def wz (zs : List ZT) (o : Nat → Nat) (mt mw : Nat → Int64) : Prop := ∀ (j : Nat) (z : ZT), zs[j]? = some z → o j = z.1 ∧ mt j = z.2.1 ∧ mw j = z.2.2
theorem wz_drop {zs tl : List ZT} {k : Nat} {z : ZT} (h : zs.drop k = z :: tl) : k < zs.length ∧ zs[k]? = some z ∧ zs.drop (k + 1) = tl := by
  have h1 : k < zs.length := by
    rcases Nat.lt_or_ge k zs.length with q | q
    · exact q
    · rw [List.drop_eq_nil_of_le q] at h; cases h
  rw [List.drop_eq_getElem_cons h1] at h
  injection h with h2 h3
  exact ⟨h1, by rw [List.getElem?_eq_getElem h1, h2], h3⟩
theorem wz_nil {zs : List ZT} {k : Nat} (h : zs.drop k = []) : zs.length ≤ k := List.drop_eq_nil_iff.mp h
/-- the reference's cells -/
abbrev wm (y b1 b2 b3 b4 b5 b6 b7 b8 b9 b10 : Nat) (cI cJ cZ : ClassId) (th nD nR : Nat) (vs : Nat → Int64) (ac : Nat → Bool) (now : Int64) (o : Nat → Nat) (mt mw : Nat → Int64) (zn : Nat) (nv dl : Nat → Int64) (el : Nat) (rt rv : Nat → Int64) (mk : Nat → Bool) : va_W :=
  [(y, .inr (1, [.int (nI th), .int (nI nD), .int (nI nR), .ref b1, .ref b2, .long now, .ref b3, .ref b4, .ref b5, .int (nI zn), .ref b6, .ref b7, .int (nI el), .ref b8, .ref b9, .ref b10])), (b1, .inl (cJ, 512, .inr (.inl vs))), (b2, .inl (cZ, 512, .inl (fun j => bI (ac j)))), (b3, .inl (cI, 8192, .inl (fun j => nI (o j)))), (b4, .inl (cJ, 8192, .inr (.inl mt))), (b5, .inl (cJ, 8192, .inr (.inl mw))), (b6, .inl (cJ, 16, .inr (.inl nv))), (b7, .inl (cJ, 16, .inr (.inl dl))), (b8, .inl (cJ, 8208, .inr (.inl rt))), (b9, .inl (cJ, 8208, .inr (.inl rv))), (b10, .inl (cZ, 8208, .inl (fun j => bI (mk j))))]
/-- the reference's numbers -/
def wm_I (nD nR el : Nat) (zs : List ZT) : Prop := 1 ≤ nD ∧ nD ≤ 512 ∧ 1 ≤ nR ∧ nR ≤ 8192 ∧ zs.length ≤ nR ∧ el ≤ 16 ∧ ∀ z ∈ zs, z.1 < nD
/-- how many a driver has -/
def wc (d : Nat) : List ZT → Nat
  | [] => 0
  | z :: tl => (if z.1 = d then 1 else 0) + wc d tl
theorem wc_le (d : Nat) : ∀ zs : List ZT, wc d zs ≤ zs.length
  | [] => Nat.le_refl 0
  | z :: tl => by
    have h := wc_le d tl
    show (if z.1 = d then 1 else 0) + wc d tl ≤ tl.length + 1
    split <;> omega
def wpj (d : Nat) (t : Int64) : List ZT → Int64 → Int64
  | [], v => v
  | z :: tl, v => wpj d t tl (if z.1 = d ∧ z.2.1 ≤ t then z.2.2 else v)
def wnx : List ZT → Int64 → Int64
  | [], le => le
  | z :: tl, le => wnx tl (if le = -1 ∨ z.2.1 < le then z.2.1 else le)
/-- the place of a driver's q-th, from place k on with c of them seen -/
def wfi (d q : Nat) : List ZT → Nat → Nat → Option Nat
  | [], _, _ => none
  | z :: tl, k, c => if z.1 = d then (if c = q then some k else wfi d q tl (k + 1) (c + 1)) else wfi d q tl (k + 1) c
def oI : Option Nat → Int32
  | some k => nI k
  | none => -1
def wac (ac : Nat → Bool) (q : Nat) : Nat → Nat → Nat → Int32
  | 0, _, _ => -1
  | n + 1, d, c => if ac d = true then (if c = q then nI d else wac ac q n (d + 1) (c + 1)) else wac ac q n (d + 1) c
def wm_ri (dl : Nat → Int64) (el : Nat) : Prop := ∀ k, 1 ≤ k → k < el → dl (k - 1) < dl k
