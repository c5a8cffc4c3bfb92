/-! the class and the reference side by side: rows of (time, value) -/
abbrev PT : Type := Int64 × Int64
def wrw (d : Nat) : List ZT → List PT
  | [] => []
  | z :: tl => if z.1 = d then z.2 :: wrw d tl else wrw d tl
def wsg (f g : Nat → Int64) : Nat → Nat → List PT
  | 0, _ => []
  | n + 1, a => (f a, g a) :: wsg f g n (a + 1)
theorem wsg_len (f g : Nat → Int64) : ∀ n a : Nat, (wsg f g n a).length = n
  | 0, _ => rfl
  | n + 1, a => congrArg (· + 1) (wsg_len f g n (a + 1))
theorem wsg_get (f g : Nat → Int64) : ∀ n a j : Nat, j < n → (wsg f g n a)[j]? = some (f (a + j), g (a + j))
  | 0, _, j, h => absurd h (Nat.not_lt_zero j)
  | n + 1, a, 0, _ => rfl
  | n + 1, a, j + 1, h => by
    have q := wsg_get f g n (a + 1) j (by omega)
    rw [show a + 1 + j = a + (j + 1) by omega] at q
    exact q
theorem wsg_congr {f g f' g' : Nat → Int64} : ∀ {n a b : Nat}, (∀ j, j < n → f (a + j) = f' (b + j) ∧ g (a + j) = g' (b + j)) → wsg f g n a = wsg f' g' n b := by
  intro n
  induction n with
  | zero => intro a b _; rfl
  | succ n ih =>
    intro a b h
    have h0 := h 0 (by omega)
    rw [Nat.add_zero, Nat.add_zero] at h0
    show (f a, g a) :: wsg f g n (a + 1) = (f' b, g' b) :: wsg f' g' n (b + 1)
    rw [h0.1, h0.2, ih (fun j hj => by
      have q := h (j + 1) (by omega)
      rw [show a + (j + 1) = a + 1 + j by omega, show b + (j + 1) = b + 1 + j by omega] at q
      exact q)]
theorem wsg_add (f g : Nat → Int64) : ∀ n k a : Nat, wsg f g (n + k) a = wsg f g n a ++ wsg f g k (a + n)
  | 0, k, a => by rw [Nat.zero_add, Nat.add_zero]; rfl
  | n + 1, k, a => by
    rw [show n + 1 + k = (n + k) + 1 by omega]
    show (f a, g a) :: wsg f g (n + k) (a + 1) = (f a, g a) :: (wsg f g n (a + 1) ++ wsg f g k (a + (n + 1)))
    rw [wsg_add f g n k (a + 1), show a + 1 + n = a + (n + 1) by omega]
theorem wrw_app (d : Nat) : ∀ a b : List ZT, wrw d (a ++ b) = wrw d a ++ wrw d b
  | [], _ => rfl
  | z :: tl, b => by
    have h := wrw_app d tl b
    show (if z.1 = d then z.2 :: wrw d (tl ++ b) else wrw d (tl ++ b)) = (if z.1 = d then z.2 :: wrw d tl else wrw d tl) ++ wrw d b
    by_cases q : z.1 = d
    · rw [if_pos q, if_pos q, h]; rfl
    · rw [if_neg q, if_neg q, h]
theorem wrw_len (d : Nat) : ∀ zs : List ZT, wc d zs = (wrw d zs).length
  | [] => rfl
  | z :: tl => by
    have h := wrw_len d tl
    show (if z.1 = d then 1 else 0) + wc d tl = (if z.1 = d then z.2 :: wrw d tl else wrw d tl).length
    by_cases q : z.1 = d
    · rw [if_pos q, if_pos q, List.length_cons]; omega
    · rw [if_neg q, if_neg q]; omega
theorem wrw_mem {d : Nat} {e : PT} : ∀ {zs : List ZT}, e ∈ wrw d zs ↔ (d, e) ∈ zs
  | [] => by simp [wrw]
  | z :: tl => by
    have h := wrw_mem (d := d) (e := e) (zs := tl)
    obtain ⟨a, b⟩ := z
    by_cases q : a = d
    · subst q
      simp [wrw, h]
    · have q' : ¬ d = a := fun h => q h.symm
      simp [wrw, h, q, q']
def wlt (n : Nat) : List ZT → Nat
  | [] => 0
  | z :: tl => (if z.1 < n then 1 else 0) + wlt n tl
theorem wlt_0 : ∀ zs : List ZT, wlt 0 zs = 0
  | [] => rfl
  | z :: tl => by show (if z.1 < 0 then 1 else 0) + wlt 0 tl = 0; rw [wlt_0 tl, if_neg (Nat.not_lt_zero _)]
theorem wlt_s (n : Nat) : ∀ zs : List ZT, wlt (n + 1) zs = wlt n zs + wc n zs
  | [] => rfl
  | z :: tl => by
    have h := wlt_s n tl
    show (if z.1 < n + 1 then 1 else 0) + wlt (n + 1) tl = ((if z.1 < n then 1 else 0) + wlt n tl) + ((if z.1 = n then 1 else 0) + wc n tl)
    split <;> split <;> split <;> omega
theorem wlt_all {n : Nat} : ∀ {zs : List ZT}, (∀ z ∈ zs, z.1 < n) → wlt n zs = zs.length
  | [], _ => rfl
  | z :: tl, h => by
    have q := wlt_all (zs := tl) (fun z hz => h z (List.mem_cons_of_mem _ hz))
    show (if z.1 < n then 1 else 0) + wlt n tl = tl.length + 1
    rw [if_pos (h z List.mem_cons_self)]
    omega
theorem wrw_sum {nD : Nat} {r : Nat → Nat} {zs : List ZT} (h0 : r 0 = 0) (hmo : ∀ j, j < nD → r j ≤ r (j + 1)) (hz : ∀ z ∈ zs, z.1 < nD) (hc : ∀ d, d < nD → wc d zs = r (d + 1) - r d) : zs.length = r nD := by
  have h : ∀ n, n ≤ nD → wlt n zs = r n := by
    intro n
    induction n with
    | zero => intro _; rw [wlt_0, h0]
    | succ n ih =>
      intro hn
      have h1 := hmo n (by omega)
      rw [wlt_s, ih (by omega), hc n (by omega)]
      omega
  rw [← wlt_all hz]
  exact h nD (Nat.le_refl _)
/-! what the class finds in a row -/
def wtk (t : Int64) : List PT → Nat
  | [] => 0
  | e :: tl => if e.1 ≤ t then wtk t tl + 1 else 0
theorem wfb_tk (ti va : Nat → Int64) (t : Int64) : ∀ n a : Nat, wf_fb ti t n a = a + wtk t (wsg ti va n a)
  | 0, _ => rfl
  | n + 1, a => by
    have h := wfb_tk ti va t n (a + 1)
    show (if ti a ≤ t then wf_fb ti t n (a + 1) else a) = a + (if ti a ≤ t then wtk t (wsg ti va n (a + 1)) + 1 else 0)
    split
    · omega
    · rfl
def wup (L : List PT) : Prop := L.Pairwise (fun a b => a.1 < b.1)
theorem i64_lt_le {a b c : Int64} (h1 : ¬ a ≤ c) (h2 : a < b) : ¬ b ≤ c := by
  rw [Int64.le_iff_toInt_le] at *
  rw [Int64.lt_iff_toInt_lt] at h2
  omega
theorem i64_nle {a b : Int64} : ¬ a ≤ b ↔ b < a := by
  rw [Int64.le_iff_toInt_le, Int64.lt_iff_toInt_lt]
  omega
theorem i64_nlt {a b : Int64} : ¬ a < b ↔ b ≤ a := by
  rw [Int64.le_iff_toInt_le, Int64.lt_iff_toInt_lt]
  omega
/-- in a rising row, those behind t are what is left behind the first that is -/
theorem wup_drop {t : Int64} : ∀ {L : List PT}, wup L → L.filter (fun e => decide (t < e.1)) = L.drop (wtk t L)
  | [], _ => rfl
  | e :: tl, h => by
    have h2 := List.pairwise_cons.mp h
    by_cases q : e.1 ≤ t
    · rw [List.filter_cons_of_neg (by simp only [decide_eq_true_eq]; exact i64_nlt.mpr q), wup_drop h2.2]
      show _ = (e :: tl).drop (if e.1 ≤ t then wtk t tl + 1 else 0)
      rw [if_pos q]; rfl
    · show _ = (e :: tl).drop (if e.1 ≤ t then wtk t tl + 1 else 0)
      rw [if_neg q, List.drop_zero]
      refine List.filter_eq_self.mpr (fun x hx => ?_)
      rw [decide_eq_true_eq]
      rcases List.mem_cons.mp hx with rfl | hx
      · exact i64_nle.mp q
      · exact i64_nle.mp (i64_lt_le q (h2.1 x hx))
theorem wtk_le (t : Int64) : ∀ L : List PT, wtk t L ≤ L.length
  | [] => Nat.le_refl 0
  | e :: tl => by
    have h := wtk_le t tl
    show (if e.1 ≤ t then wtk t tl + 1 else 0) ≤ tl.length + 1
    split <;> omega
theorem wup_take {t : Int64} : ∀ {L : List PT}, wup L → L.filter (fun e => decide (e.1 ≤ t)) = L.take (wtk t L)
  | [], _ => rfl
  | e :: tl, h => by
    have h2 := List.pairwise_cons.mp h
    by_cases q : e.1 ≤ t
    · rw [List.filter_cons_of_pos (by simp only [decide_eq_true_eq]; exact q), wup_take h2.2]
      show _ = (e :: tl).take (if e.1 ≤ t then wtk t tl + 1 else 0)
      rw [if_pos q]; rfl
    · show _ = (e :: tl).take (if e.1 ≤ t then wtk t tl + 1 else 0)
      rw [if_neg q, List.take_zero]
      refine List.filter_eq_nil_iff.mpr (fun x hx => ?_)
      rw [decide_eq_true_eq]
      rcases List.mem_cons.mp hx with rfl | hx
      · exact q
      · exact i64_lt_le q (h2.1 x hx)
theorem wsg_drop (f g : Nat → Int64) (n a k : Nat) (h : k ≤ n) : (wsg f g n a).drop k = wsg f g (n - k) (a + k) := by
  have q := wsg_add f g k (n - k) a
  rw [show k + (n - k) = n by omega] at q
  have h2 := wsg_len f g k a
  rw [q, List.drop_append_of_le_length (by omega), List.drop_of_length_le (by omega), List.nil_append]
theorem wsg_take (f g : Nat → Int64) (n a k : Nat) (h : k ≤ n) : (wsg f g n a).take k = wsg f g k a := by
  have q := wsg_add f g k (n - k) a
  rw [show k + (n - k) = n by omega] at q
  have h2 := wsg_len f g k a
  rw [q, List.take_append_of_le_length (by omega), List.take_of_length_le (by omega)]
/-! what the reference finds in a row -/
def wpl (t : Int64) : List PT → Int64 → Int64
  | [], v => v
  | e :: tl, v => wpl t tl (if e.1 ≤ t then e.2 else v)
theorem wpj_pl (d : Nat) (t : Int64) : ∀ (zs : List ZT) (v : Int64), wpj d t zs v = wpl t (wrw d zs) v
  | [], _ => rfl
  | z :: tl, v => by
    show wpj d t tl (if z.1 = d ∧ z.2.1 ≤ t then z.2.2 else v) = wpl t (if z.1 = d then z.2 :: wrw d tl else wrw d tl) v
    rw [wpj_pl d t tl]
    by_cases q : z.1 = d
    · rw [if_pos q]
      show _ = wpl t (wrw d tl) (if z.2.1 ≤ t then z.2.2 else v)
      by_cases q2 : z.2.1 ≤ t
      · rw [if_pos ⟨q, q2⟩, if_pos q2]
      · rw [if_neg (fun h => q2 h.2), if_neg q2]
    · rw [if_neg q, if_neg (fun h => q h.1)]
theorem wpl_none {t : Int64} : ∀ {L : List PT} {v : Int64}, (∀ e ∈ L, ¬ e.1 ≤ t) → wpl t L v = v
  | [], _, _ => rfl
  | e :: tl, v, h => by
    show wpl t tl (if e.1 ≤ t then e.2 else v) = v
    rw [if_neg (h e List.mem_cons_self)]
    exact wpl_none (fun x hx => h x (List.mem_cons_of_mem _ hx))
theorem wpl_up {t : Int64} : ∀ {L : List PT} {v : Int64}, wup L → wpl t L v = match L[wtk t L - 1]? with | none => v | some e => if wtk t L = 0 then v else e.2
  | [], _, _ => rfl
  | e :: tl, v, h => by
    have h2 := List.pairwise_cons.mp h
    show wpl t tl (if e.1 ≤ t then e.2 else v) = _
    by_cases q : e.1 ≤ t
    · have hk : wtk t (e :: tl) = wtk t tl + 1 := if_pos q
      rw [if_pos q, hk, wpl_up h2.2, Nat.add_sub_cancel]
      rcases Nat.eq_zero_or_pos (wtk t tl) with z | z
      · rw [z]
        simp only [Nat.zero_sub]
        cases tl <;> rfl
      · have : (e :: tl)[wtk t tl]? = tl[wtk t tl - 1]? := by
          rw [show wtk t tl = (wtk t tl - 1) + 1 by omega]; rfl
        rw [this]
        have hlt := wtk_le t tl
        rw [List.getElem?_eq_getElem (show wtk t tl - 1 < tl.length by omega)]
        simp only
        rw [if_neg (by omega), if_neg (by omega)]
    · have hk : wtk t (e :: tl) = 0 := if_neg q
      rw [if_neg q, hk, wpl_none (fun x hx => i64_lt_le q (h2.1 x hx))]
      rfl
