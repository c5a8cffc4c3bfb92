/-! THE CLAIM OUT OF ONE WALK OF THE LAW'S BODY. Your part is whole_start (and what it stands on); all else here is the same for every law, but numbers. -/
def R_law : String := "WaveRowsLaw"
def lw_P (b : Addr) (xs : List Int32) (args : Array Value) (s : State) : Prop := args = #[.ref b] ∧ s.IntsAt b xs ∧ xs.length ≤ 2562 ∧ (Jvm.Cond.and given_1 narrow_1).before args s = true
def lw_Q (_ : Array Value) (s : State) (o : Outcome) (t : State) : Prop := o = .returned (some (.int 1)) ∧ Framed s o t [] 601024 7293000
def lw_Z (below : List Frame) (a : Array Value) (s : State) : State → Prop := fun t => ∃ o, t.status = .running ∧ Ended t below o ∧ lw_Q a s o t
/-- the law's own end, with 1 on the stack, nothing written that was there before, its room as the claim has it -/
theorem lw_ret {p : Program} {l : Launch} {e : Env} {s : State} {m : MethodId} {below : List Frame} {meth : Method} {c : Code} {b : Nat} (hx : p.tables.exec = Jvm.exec) (hb : c.code = code) (hr : meth.sig.returnType = ret) (hlocks : meth.locks = false) {pc : Nat} {H : Heap} {ls : Array Slot} (hdg : decode code pc = .ok (.ireturn, 1)) : W p l e room_1 s m #[Value.ref b] below meth c H [] 601024 7293000 (lw_Z below #[Value.ref b] s) (F0 m pc ls [.int 1]) := by
  intro T hT X
  obtain ⟨fs, hret, hrun, hended, hW, hframe⟩ := X.leave (v := some (.int 1)) (hlocks := hlocks) (fun h => by rw [hr] at h; cases h)
  have hmeth' : T.vm.method? m = some meth := X.method'
  refine ⟨T.setFrames fs, ?_, .returned (some (.int 1)), hrun, hended, rfl, ⟨_, rfl⟩, hW, hframe⟩
  jvm_step X.here [X.here.top, hx, hb, hdg, hmeth', hr, ret, narrow_b1]
  (try refine ⟨rfl, ?_⟩); (try refine ⟨rfl, ?_⟩)
  first | (intro acts; rw [hret _ acts rfl rfl rfl]) | rw [hret _ _ rfl rfl rfl]
  exact Steps.refl _
/-- what holds at the law's entry: the machine, the code, the tables' words (any of lw_tbl by 'hts w (by decide +kernel)'), the script of L ints xs at the cell b, what the Statement gives of the start (any of its parts by flat_of_before) -/
def lw_At (p : Program) (s : State) (m : MethodId) (meth : Method) (c : Code) (b L : Nat) (xs : Nat → Int32) : Prop :=
  p.tables.exec = Jvm.exec ∧ c.code = code ∧ meth.sig.returnType = ret ∧ c.maxLocals = 8 ∧ s.vm.findClass R_law = some m.cls ∧ (∀ w ∈ lw_tbl, w.before #[Value.ref b] s = true) ∧ va_X b L xs s s.heap ∧ b < s.heap.size ∧ meth.locks = false ∧ (Jvm.Cond.and given_1 narrow_1).before #[Value.ref b] s = true
/-! the law: reading the script's first two, drivers, its state between two calls -/
theorem xw_d {n : Nat} (h : n < 2 ^ 31) {d0 : Int32} (c : ¬ (d0 < 0 ∨ nI n ≤ d0)) : ∃ d : Nat, d < n ∧ d0 = nI d := by
  obtain ⟨j, hj, rfl⟩ := nI_of (fun z => c (Or.inl z))
  refine ⟨j, ?_, rfl⟩
  rcases Nat.lt_or_ge j n with q | q
  · exact q
  · exact absurd (Or.inr (nI_le q hj)) c
theorem xw_i {i L : Nat} (hi : i ≤ 2567) (hL : L ≤ 2562) (c : ¬ Int32.ofNat L - 5 < nI i) : i + 5 ≤ L := by
  have e1 : (nI i).toInt = i := nI_toInt (by omega)
  have e2 : (Int32.ofNat L).toInt = L := nI_toInt (n := L) (by omega)
  have e3 : (5 : Int32).toInt = 5 := by decide
  rw [Int32.lt_iff_toInt_lt, Int32.toInt_sub, e1, e2, e3] at c
  simp only [Int.bmod] at c
  split at c <;> omega
def xw_c (L : Nat) (xs : Nat → Int32) (i : Nat) : Int32 := if i < L then xs i else 0
theorem xc_blind {As : List Value} {b L : Nat} {xs : Nat → Int32} : FrameBlind (va_Pc As (fun U => va_X b L xs U U.heap)) := fun a U g mk q => by
  obtain ⟨q0, qX⟩ := q
  exact ⟨q0, va_X.moved (u := U) (U := U.calling g mk a) (Vm.Alike.refl U.vm) qX⟩
set_option maxHeartbeats 4000000 in
theorem c_cell (l : Launch) (b L : Nat) (xs : Nat → Int32) (hL : L ≤ 2562) (i : Nat) (hi : i < 2) : Met l yL_cell wsL_cell ({ frames := 0, cells := 0, slots := 0, locals := 0 }) (va_Pc [.ref b, .int (nI i)] (fun U => va_X b L xs U U.heap)) (vp_Si (fun v => v = xw_c L xs i)) 0 0 (fun _ => False) := by
  refine Met.ofW (cc := cL_cell) (maxL := 2) (ret := (some .int)) (by decide) rfl ?_
  intro p e s m args below meth c s₁ B hml hv
  obtain ⟨rfl, hX⟩ := hv
  have hbl : b < s.heap.size := by
    obtain ⟨scr, h1, -⟩ := hX
    exact (Array.getElem?_eq_some_iff.mp h1).1
  have hx := B.exec
  have hb := B.bytes
  have hr := B.returns
  have hl := lv_entry ([.ref b, .int (nI i)]) (n := 2) (Nat.le_of_ble_eq_true rfl)
  rw [lg_entry_eq]
  generalize (lg_sl ([.ref b, .int (nI i)]) ++ List.replicate (2 - (lg_sl ([.ref b, .int (nI i)])).length) Slot.unset).toArray = ls at hl ⊢
  have hl : lv_has ls 2 [(0, .ref b), (1, .int (nI i))] := hl
  have hS : va_S (fun _ => False) s.heap s.heap [] := va_S.rf
  refine lv_iload_n hx hb dL_cell_0 rfl (lv_at hl 1 rfl) ?_
  refine lv_aload_n hx hb dL_cell_1 rfl (lv_at hl 0 rfl) ?_
  refine va_slen hx hb hX hbl id hS dL_cell_2 ?_
  refine lv_icmp_ge (tgt := 12) hx hb dL_cell_3 (by decide) (fun c_1 => ?_) (fun c_1 => ?_)
  · have h9 : ¬ i < L := fun q => nI_ge q (by omega) c_1
    refine lv_iconst (v := 0) hx hb dL_cell_12 (by decide) ?_
    exact W.iret (v := 0) hx hb hr (fun t9 ht hW => ⟨0, rfl, (if_neg h9).symm, ht⟩) (fun q hq => nomatch hq) dL_cell_13
  · have h9 : i < L := by
      rcases Nat.lt_or_ge i L with q | q
      · exact q
      · exact absurd (nI_le q (by omega)) c_1
    refine lv_aload_n hx hb dL_cell_6 rfl (lv_at hl 0 rfl) ?_
    refine lv_iload_n hx hb dL_cell_7 rfl (lv_at hl 1 rfl) ?_
    refine va_sld hx hb hX hbl id hS (vp_in_nI h9 (by omega)) dL_cell_8 ?_
    refine tp_i (y := xs i) (by rw [nI_clamp (by omega)]) ?_
    refine lv_goto (tgt := 13) hx hb dL_cell_9 (by decide) ?_
    exact W.iret (v := xs i) hx hb hr (fun t9 ht hW => ⟨xs i, rfl, (if_pos h9).symm, ht⟩) (fun q hq => nomatch hq) dL_cell_13
abbrev wlw (x a1 a2 a3 a4 a5 a6 a7 y b1 b2 b3 b4 b5 b6 b7 b8 b9 b10 q : Nat) (cI cJ cZ : ClassId) (nD nR : Nat) (dv : Nat → Int64) (r : Nat → Nat) (cap : Nat) (ti va ev ed : Nat → Int64) (ec : Nat) (ad : Nat → Int32) (ac : Nat) (now : Int64) (th : Nat) (vs : Nat → Int64) (mac : Nat → Bool) (nw : Int64) (o : Nat → Nat) (mt mw : Nat → Int64) (zn : Nat) (nv dl : Nat → Int64) (el : Nat) (rt rv : Nat → Int64) (mk : Nat → Bool) (ou : Nat → Int64) : va_W := wr x a1 a2 a3 a4 a5 a6 a7 cI cJ nD nR dv r cap ti va ev ed ec ad ac now ++ (wm y b1 b2 b3 b4 b5 b6 b7 b8 b9 b10 cI cJ cZ th nD nR vs mac nw o mt mw zn nv dl el rt rv mk ++ [(q, .inl (cJ, 1, .inr (.inl ou)))])
/-- the law goes on behind the call -/
def lwK (p : Program) (l : Launch) (e : Env) (s : State) (m : MethodId) (below : List Frame) (meth : Method) (c : Code) (dC : Nat → ClassId) (dI : Nat → Nat → Nat) (b : Nat) (x a1 a2 a5 a6 a7 y b1 b2 b3 b4 b5 b6 b7 b8 b9 b10 q : Nat) (cI cJ cZ : ClassId) (nD nR : Nat) (i : Nat) : Prop := ∀ (a3 a4 : Nat) (dv : Nat → Int64) (r : Nat → Nat) (cap : Nat) (ti va ev ed : Nat → Int64) (ec : Nat) (ad : Nat → Int32) (ac : Nat) (now : Int64) (th : Nat) (vs : Nat → Int64) (mac : Nat → Bool) (o : Nat → Nat) (mt mw : Nat → Int64) (zs : List ZT) (nv dl : Nat → Int64) (rt rv : Nat → Int64) (mk : Nat → Bool) (ou : Nat → Int64) (G : Nat) (H : Heap) (locs : List Loc), wrel nD nR cap ec ac dv r ti va ev ed ad now vs mac zs nv dl → wz zs o mt mw → (G ≤ 4 * cap ∨ cap = nR ∧ G ≤ 6 * nR) → va_P (dC, dI) vwCl (wlw x a1 a2 a3 a4 a5 a6 a7 y b1 b2 b3 b4 b5 b6 b7 b8 b9 b10 q cI cJ cZ nD nR dv r cap ti va ev ed ec ad ac now th vs mac now o mt mw zs.length nv dl ec rt rv mk ou) H → va_D (fun z : Nat => s.heap.size ≤ z) (wlw x a1 a2 a3 a4 a5 a6 a7 y b1 b2 b3 b4 b5 b6 b7 b8 b9 b10 q cI cJ cZ nD nR dv r cap ti va ev ed ec ad ac now th vs mac now o mt mw zs.length nv dl ec rt rv mk ou) → va_S (fun z : Nat => s.heap.size ≤ z) s.heap H locs → ∀ ls : Array Slot, lv_has ls 8 [(0, .ref b), (1, .ref x), (2, .ref y), (3, .ref q), (4, .int (nI i))] → W p l e room_1 s m #[Value.ref b] below meth c H locs (20 + 2 * i + 2) (70000 + 6 * i + 6 + G) (lw_Z below #[Value.ref b] s) (F0 m 920 ls [])
