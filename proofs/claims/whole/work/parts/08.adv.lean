abbrev wf_T : Type := (Nat → Nat) × (Nat → Int64) × (Nat → Int64) × (Nat → Int64) × (Nat → Int32)
/-! advance, in numbers: which transaction of driver k is the first behind t; how many of all rows before k stay; how many drivers before k become active -/
def wf_lt (t : Int64) (r : Nat → Nat) (ti : Nat → Int64) (k : Nat) : Nat := wf_fb ti t (r (k + 1) - r k) (r k)
def wf_K (t : Int64) (r : Nat → Nat) (ti : Nat → Int64) : Nat → Nat
  | 0 => 0
  | k + 1 => wf_K t r ti k + (r (k + 1) - wf_lt t r ti k)
def wf_N (t : Int64) (r : Nat → Nat) (ti : Nat → Int64) : Nat → Nat
  | 0 => 0
  | k + 1 => wf_N t r ti k + (if r k < wf_lt t r ti k then 1 else 0)
theorem wf_fb_congr {f g : Nat → Int64} {t : Int64} : ∀ n a : Nat, (∀ j, a ≤ j → j < a + n → f j = g j) → wf_fb f t n a = wf_fb g t n a := by
  intro n
  induction n with
  | zero => intro a _; rfl
  | succ n ih =>
    intro a h
    unfold wf_fb
    rw [h a (Nat.le_refl a) (by omega), ih (a + 1) (fun j h1 h2 => h j (by omega) (by omega))]
theorem wf_lt_in (t : Int64) (r : Nat → Nat) (ti : Nat → Int64) (k : Nat) (h : r k ≤ r (k + 1)) : r k ≤ wf_lt t r ti k ∧ wf_lt t r ti k ≤ r (k + 1) := by
  have q := wf_fb_le ti t (r (k + 1) - r k) (r k)
  unfold wf_lt
  omega
theorem wf_K_le {t : Int64} {r : Nat → Nat} {ti : Nat → Int64} {nD : Nat} (h0 : r 0 = 0) (hmo : ∀ j, j < nD → r j ≤ r (j + 1)) : ∀ k, k ≤ nD → wf_K t r ti k ≤ r k := by
  intro k
  induction k with
  | zero => intro _; exact Nat.zero_le _
  | succ k ih =>
    intro hk
    have h1 := ih (by omega)
    have h2 := wf_lt_in t r ti k (hmo k (by omega))
    show wf_K t r ti k + (r (k + 1) - wf_lt t r ti k) ≤ r (k + 1)
    omega
theorem wf_K_mono {t : Int64} {r : Nat → Nat} {ti : Nat → Int64} : ∀ n j : Nat, wf_K t r ti j ≤ wf_K t r ti (j + n) := by
  intro n
  induction n with
  | zero => intro j; exact Nat.le_refl _
  | succ n ih => intro j; exact Nat.le_trans (ih j) (Nat.le_add_right _ _)
theorem wf_N_mono {t : Int64} {r : Nat → Nat} {ti : Nat → Int64} : ∀ n j : Nat, wf_N t r ti j ≤ wf_N t r ti (j + n) := by
  intro n
  induction n with
  | zero => intro j; exact Nat.le_refl _
  | succ n ih => intro j; exact Nat.le_trans (ih j) (Nat.le_add_right _ _)
theorem wf_N_le {t : Int64} {r : Nat → Nat} {ti : Nat → Int64} : ∀ k : Nat, wf_N t r ti k ≤ k := by
  intro k
  induction k with
  | zero => exact Nat.le_refl _
  | succ k ih =>
    show wf_N t r ti k + (if r k < wf_lt t r ti k then 1 else 0) ≤ k + 1
    split <;> omega
/-- what holds of the arrays with the drivers before k done -/
def wf_V (t : Int64) (r : Nat → Nat) (ti va dv : Nat → Int64) (k : Nat) (rc : Nat → Nat) (tc vc dc : Nat → Int64) (ac : Nat → Int32) : Prop :=
  (∀ j, j < k → rc j = wf_K t r ti j) ∧ (∀ j, k ≤ j → rc j = r j) ∧
  (∀ j, j < k → ∀ i, i < r (j + 1) - wf_lt t r ti j → tc (wf_K t r ti j + i) = ti (wf_lt t r ti j + i) ∧ vc (wf_K t r ti j + i) = va (wf_lt t r ti j + i)) ∧
  (∀ j, r k ≤ j → tc j = ti j ∧ vc j = va j) ∧
  (∀ j, j < k → dc j = if r j < wf_lt t r ti j then va (wf_lt t r ti j - 1) else dv j) ∧ (∀ j, k ≤ j → dc j = dv j) ∧
  (∀ j, j < k → r j < wf_lt t r ti j → ac (wf_N t r ti j) = nI j)
theorem wf_V_0 (t : Int64) (r : Nat → Nat) (ti va dv : Nat → Int64) (ac : Nat → Int32) : wf_V t r ti va dv 0 r ti va dv ac :=
  ⟨fun j h => absurd h (Nat.not_lt_zero j), fun _ _ => rfl, fun j h => absurd h (Nat.not_lt_zero j), fun _ _ => ⟨rfl, rfl⟩, fun j h => absurd h (Nat.not_lt_zero j), fun _ _ => rfl, fun j h => absurd h (Nat.not_lt_zero j)⟩
theorem wf_V_lt {t : Int64} {r : Nat → Nat} {ti va dv : Nat → Int64} {k : Nat} {rc : Nat → Nat} {tc vc dc : Nat → Int64} {ac : Nat → Int32} (h : wf_V t r ti va dv k rc tc vc dc ac) : wf_fb tc t (r (k + 1) - r k) (r k) = wf_lt t r ti k :=
  wf_fb_congr _ _ (fun j h1 _ => (h.2.2.2.1 j h1).1)
theorem wf_V_step {t : Int64} {r : Nat → Nat} {ti va dv : Nat → Int64} {k nD : Nat} {rc : Nat → Nat} {tc vc dc : Nat → Int64} {ac : Nat → Int32} (h0 : r 0 = 0) (hmo : ∀ j, j < nD → r j ≤ r (j + 1)) (hk : k < nD)
    (h : wf_V t r ti va dv k rc tc vc dc ac) {dc' : Nat → Int64} {ac' : Nat → Int32} (hd : ∀ j, j ≠ k → dc' j = dc j) (hdk : dc' k = if r k < wf_lt t r ti k then va (wf_lt t r ti k - 1) else dv k)
    (ha : ∀ j, j < wf_N t r ti k → ac' j = ac j) (hak : r k < wf_lt t r ti k → ac' (wf_N t r ti k) = nI k) :
    wf_V t r ti va dv (k + 1) (un rc k (wf_K t r ti k)) (va_cpy tc tc (wf_lt t r ti k) (wf_K t r ti k) (r (k + 1) - wf_lt t r ti k)) (va_cpy vc vc (wf_lt t r ti k) (wf_K t r ti k) (r (k + 1) - wf_lt t r ti k)) dc' ac' := by
  obtain ⟨v1, v2, v3, v4, v5, v6, v7⟩ := h
  have hl := wf_lt_in t r ti k (hmo k hk)
  have hK := wf_K_le (t := t) (ti := ti) h0 hmo k (by omega)
  refine ⟨fun j hj => ?_, fun j hj => ?_, fun j hj i hi => ?_, fun j hj => ?_, fun j hj => ?_, fun j hj => ?_, fun j hj hq => ?_⟩
  · unfold un
    by_cases q : j = k
    · subst q; exact if_pos rfl
    · rw [if_neg q]; exact v1 j (by omega)
  · unfold un
    rw [if_neg (by omega)]
    exact v2 j (by omega)
  · by_cases q : j = k
    · subst q
      rw [pk_cpy_in (by omega) (by omega), pk_cpy_in (by omega) (by omega), show wf_K t r ti j + i - wf_K t r ti j = i by omega]
      exact v4 _ (by omega)
    · have q1 : j + 1 ≤ k := by omega
      have q2 := wf_K_mono (t := t) (r := r) (ti := ti) (k - (j + 1)) (j + 1)
      rw [show j + 1 + (k - (j + 1)) = k by omega] at q2
      have q3 : wf_K t r ti (j + 1) = wf_K t r ti j + (r (j + 1) - wf_lt t r ti j) := rfl
      rw [pk_cpy_out (Or.inl (by omega)), pk_cpy_out (Or.inl (by omega))]
      exact v3 j (by omega) i hi
  · rw [pk_cpy_out (Or.inr (by omega)), pk_cpy_out (Or.inr (by omega))]
    exact v4 j (by omega)
  · by_cases q : j = k
    · subst q; exact hdk
    · rw [hd j q]; exact v5 j (by omega)
  · rw [hd j (by omega)]; exact v6 j (by omega)
  · by_cases q : j = k
    · subst q; exact hak hq
    · have q2 := wf_N_mono (t := t) (r := r) (ti := ti) (k - (j + 1)) (j + 1)
      rw [show j + 1 + (k - (j + 1)) = k by omega] at q2
      have q3 : wf_N t r ti (j + 1) = wf_N t r ti j + (if r j < wf_lt t r ti j then 1 else 0) := rfl
      rw [if_pos hq] at q3
      rw [ha _ (by omega)]
      exact v7 j (by omega) hq
