/-! the law's own small methods: what they need beside the class's contracts -/
theorem gAllW {y : MethodName} {bs : ByteArray} {n : Nat} {rt : Option FieldType} {hh : List (Nat × Nat × Nat × Nat)} (h : Cond.codeWith y bs n rt hh ∈ allw) : GoodIn allw (Cond.codeWith y bs n rt hh :: allw) := fun w hw => (List.mem_cons.mp hw).elim (fun e => e ▸ ⟨h, allw_good _ h⟩) (fun e => ⟨e, allw_good w e⟩)
theorem gSW {own : String} {idx : Nat} {y : MethodName} {bs : ByteArray} {n : Nat} {rt : Option FieldType} {hh : List (Nat × Nat × Nat × Nat)} (h1 : Cond.methodLink own idx y ∈ allw) (h2 : Cond.static y ∈ allw) (h3 : Cond.initialized y.cls ∈ allw) (h5 : Cond.codeWith y bs n rt hh ∈ allw) : GoodIn allw (va_wsS own idx y (Cond.codeWith y bs n rt hh :: allw)) := by
  intro w hw
  rcases List.mem_append.mp hw with h | h
  · simp only [List.mem_cons, List.not_mem_nil, or_false] at h
    rcases h with rfl | rfl | rfl
    · exact ⟨h1, allw_good _ h1⟩
    · exact ⟨h2, allw_good _ h2⟩
    · exact ⟨h3, allw_good _ h3⟩
  · exact gAllW h5 w h
theorem xt_table {l : Launch} {p : Program} {y : MethodName} {S : Spec} {cc bytes : ByteArray} {maxL maxL' : Nat} {ret ret' : Option FieldType} {e : Env} {s s₁ : State} {m : MethodId} {args : Array Value} {below : List Frame} {meth : Method} {c : Code} {hh : List (Nat × Nat × Nat × Nat)}
    (B : BodyLoose p l y S cc maxL ret e s m args below meth c s₁) (h : (Cond.codeWith y bytes maxL' ret' hh).before args s = true) : c.exceptionTable.toList = tableOf hh := by
  obtain ⟨m9, meth9, c9, hn9, h1, h2, -, -, h6, -⟩ := Cond.codeWith_spec h
  cases Option.some.inj (hn9.symm.trans B.named)
  cases Option.some.inj (h1.symm.trans B.method)
  cases Option.some.inj (h2.symm.trans (Stand.of_body B).code)
  rw [← h6, table_eq]
theorem xt_P {D : va_G} {cl : List vw_C} {ws : va_W} {H H1 : Heap} (hP : va_P D cl ws H) (hk : ∀ z : Nat, z < H.size → H1[z]? = H[z]?) : va_P D cl ws H1 := by
  intro k q hq
  have h := hP k q hq
  have hlt : q.1 < H.size := h.lt
  obtain ⟨a, x | x⟩ := q
  · show H1[a]? = some (vp_cell x.1 x.2)
    rw [hk a hlt]
    exact h
  · obtain ⟨r, h1, h2⟩ := h
    exact ⟨r, h1, h2.kept (hk a hlt)⟩
def xt_ncs : List (String × String) := [("java/lang/IllegalStateException", "java/lang/IllegalArgumentException"), ("java/lang/IllegalStateException", "java/lang/IndexOutOfBoundsException"), ("java/lang/IllegalArgumentException", "java/lang/IndexOutOfBoundsException"), ("java/lang/IllegalArgumentException", "java/lang/IllegalStateException")]
def xt_nk (U : State) : Prop := ∀ q ∈ xt_ncs, va_Nc q.1 q.2 U
theorem xt_nk_move {s U : State} (hvm : s.vm.Alike U.vm) (h : xt_nk s) : xt_nk U := fun q hq => va_Nc.moved hvm (h q hq)
theorem xh_blind {As : List Value} {D : va_G} {cl : List vw_C} {ws : va_W} {tys : List (ClassId × FieldType)} {sz : Nat} : FrameBlind (va_Pc As (fun U => U.heap.size = sz ∧ va_P D cl ws U.heap ∧ va_K D cl tys U ∧ va_D (fun _ => True) ws ∧ xt_ok U ∧ xt_nk U)) := fun a U g mk q => by
  obtain ⟨q0, q1, qP, qK, qD, qO, qN⟩ := q
  exact ⟨q0, q1, qP, va_K.moved (u := U) (U := U.calling g mk a) (Vm.Alike.refl U.vm) qK, qD, xt_move (s := U) (U := U.calling g mk a) (State.WarmedH.refl U) (fun _ _ => rfl) qO, xt_nk_move (s := U) (U := U.calling g mk a) (Vm.Alike.refl U.vm) qN⟩
