-- MATH 0: running a program symbolically
theorem oadd_eq {α : Type} {a b : Int} {k : Int → Option α} (h : -2147483648 ≤ a + b ∧ a + b ≤ 2147483647) : oadd a b k = k (a + b) := if_pos h
theorem osub_eq {α : Type} {a b : Int} {k : Int → Option α} (h : -2147483648 ≤ a - b ∧ a - b ≤ 2147483647) : osub a b k = k (a - b) := if_pos h
theorem omul_eq {α : Type} {a b : Int} {k : Int → Option α} (h : -2147483648 ≤ a * b ∧ a * b ≤ 2147483647) : omul a b k = k (a * b) := if_pos h
theorem oneg_eq {α : Type} {a : Int} {k : Int → Option α} (h : -2147483648 ≤ -a ∧ -a ≤ 2147483647) : oneg a k = k (-a) := if_pos h
theorem odiv_eq {α : Type} {a b : Int} {k : Int → Option α} (h : 0 ≤ a ∧ 0 < b) : odiv a b k = k (a / b) := if_pos h
theorem orem_eq {α : Type} {a b : Int} {k : Int → Option α} (h : 0 ≤ a ∧ 0 < b) : orem a b k = k (a % b) := if_pos h
theorem rd_eq {α : Type} {σ : St} {f : Nat} {n i : Int} {k : Int → Option α} (h : 0 ≤ i ∧ i < n) : rd σ f n i k = k (σ f i) := if_pos h
theorem wr_eq {α : Type} {σ : St} {f : Nat} {n i v : Int} {k : St → Option α} (h : 0 ≤ i ∧ i < n) : wr σ f n i v k = k (us σ f i v) := if_pos h
theorem wrL_eq {α : Type} {σ : St} {f : Nat} {n i v : Int} {k : St → Option α} (h : 0 ≤ i ∧ i < n) (h2 : -2147483648 ≤ v ∧ v ≤ 2147483647) : wrL σ f n i v k = k (us σ f i v) := if_pos ⟨h, h2⟩
theorem wrZ_eq {α : Type} {σ : St} {f : Nat} {n i v : Int} {k : St → Option α} (h : 0 ≤ i ∧ i < n) (h2 : v = 0 ∨ v = 1) : wrZ σ f n i v k = k (us σ f i v) := if_pos ⟨h, h2⟩
theorem wrB_eq {α : Type} {σ : St} {f : Nat} {n i v : Int} {k : St → Option α} (h : 0 ≤ i ∧ i < n) (h2 : -128 ≤ v ∧ v ≤ 127) : wrB σ f n i v k = k (us σ f i v) := if_pos ⟨h, h2⟩
theorem pfZ_eq {α : Type} {σ : St} {f : Nat} {v : Int} {k : St → Option α} (h : v = 0 ∨ v = 1) : pfZ σ f v k = k (us σ f 0 v) := if_pos h
theorem gf_eq {α : Type} {σ : St} {f : Nat} {k : Int → Option α} : gf σ f k = k (σ f 0) := rfl
theorem pf_eq {α : Type} {σ : St} {f : Nat} {v : Int} {k : St → Option α} : pf σ f v k = k (us σ f 0 v) := rfl
theorem bnd_eq {α : Type} {r : Int} {τ : St} {k : Int → St → Option α} : bnd (some (r, τ)) k = k r τ := rfl
theorem bndp_eq {α : Type} {r : Int} {k : Int → Option α} : bndp (some r) k = k r := rfl
theorem jn_eq {α β : Type} {k : β} {b : β → Option α} : jn k b = b k := rfl
theorem opure_eq {α : Type} {v : Int} {k : Int → Option α} : opure v k = k v := rfl
theorem oif_t {α : Type} {c : Prop} {d : Decidable c} {a b : Int} {k : Int → Option α} (h : c) (hi : -2147483648 ≤ a ∧ a ≤ 2147483647) : oif c d a b k = k a := by
  unfold oif; rw [if_pos h]; exact if_pos hi
theorem oif_f {α : Type} {c : Prop} {d : Decidable c} {a b : Int} {k : Int → Option α} (h : ¬ c) (hi : -2147483648 ≤ b ∧ b ≤ 2147483647) : oif c d a b k = k b := by
  unfold oif; rw [if_neg h]; exact if_pos hi
theorem ite_y {α : Type} {c : Prop} {d : Decidable c} {a b : α} (h : c) : (@ite α c d a b) = a := if_pos h
theorem ite_n {α : Type} {c : Prop} {d : Decidable c} {a b : α} (h : ¬ c) : (@ite α c d a b) = b := if_neg h
theorem retZ_0 (σ : St) : retZ 0 σ = some (0, σ) := rfl
theorem retZ_1 (σ : St) : retZ 1 σ = some (1, σ) := rfl
theorem retZp_0 : retZp 0 = some 0 := rfl
theorem retZp_1 : retZp 1 = some 1 := rfl
-- trees by index
def lf (σ : St) (t : Int) : Int := if 0 < t ∧ t < 6144 then σ 8 t else 0
def rt (σ : St) (t : Int) : Int := if 0 < t ∧ t < 6144 then σ 9 t else 0
def nu (σ : St) (t : Int) : Int := if 0 < t ∧ t < 6144 then σ 7 t else 0
theorem Pool_isNode_y {t : Int} (h : 0 < t ∧ t < 6144) : Pool_isNode t = some 1 := by
  unfold Pool_isNode
  simp (disch := omega) only [ite_y, ite_n]
theorem Pool_isNode_n {t : Int} (h : ¬ (0 < t ∧ t < 6144)) : Pool_isNode t = some 0 := by
  unfold Pool_isNode
  by_cases h1 : t ≤ 0
  · simp (disch := omega) only [ite_y, ite_n]
  · simp (disch := omega) only [ite_y, ite_n]
theorem Pool_leftOf_eq (σ : St) (t : Int) : Pool_leftOf σ t = some (lf σ t) := by
  unfold Pool_leftOf lf
  by_cases h : 0 < t ∧ t < 6144
  · simp (disch := omega) only [Pool_isNode_y, ite_y, ite_n, bndp_eq, rd_eq]
  · simp (disch := omega) only [Pool_isNode_n h, ite_y, ite_n, bndp_eq, if_true]
theorem Pool_rightOf_eq (σ : St) (t : Int) : Pool_rightOf σ t = some (rt σ t) := by
  unfold Pool_rightOf rt
  by_cases h : 0 < t ∧ t < 6144
  · simp (disch := omega) only [Pool_isNode_y, ite_y, ite_n, bndp_eq, rd_eq]
  · simp (disch := omega) only [Pool_isNode_n h, ite_y, ite_n, bndp_eq, if_true]
theorem Pool_numberOf_eq (σ : St) (t : Int) : Pool_numberOf σ t = some (nu σ t) := by
  unfold Pool_numberOf nu
  by_cases h : 0 < t ∧ t < 6144
  · simp (disch := omega) only [Pool_isNode_y, ite_y, ite_n, bndp_eq, rd_eq]
  · simp (disch := omega) only [Pool_isNode_n h, ite_y, ite_n, bndp_eq, if_true]
def sl (σ : St) (t : Int) (x : Int) : Int := if 0 < x then (if x % 2 = 1 then sl σ (lf σ t) (x / 2) else sl σ (rt σ t) (x / 2 - 1)) else t
termination_by x.toNat
decreasing_by all_goals omega
def st (x : Int) : Int := if x < 1 then 1 else if x < 3 then 2 else if x < 7 then 4 else if x < 15 then 8 else if x < 31 then 16 else if x < 63 then 32 else if x < 127 then 64 else 128
theorem Shape_stride_f : ∀ x : Fin 255, Shape_stride (x.val : Int) = some (st (x.val : Int)) := by decide +kernel
theorem Shape_stride_eq {x : Int} (h : 0 ≤ x ∧ x < 255) : Shape_stride x = some (st x) := by
  have h1 := Shape_stride_f ⟨x.toNat, by omega⟩
  have h2 : ((x.toNat : Nat) : Int) = x := by omega
  simp only [h2] at h1
  exact h1
theorem sl_0 (σ : St) (t : Int) {x : Int} (h : x ≤ 0) : sl σ t x = t := by
  rw [sl]; exact if_neg (by omega)
theorem sl_odd (σ : St) (t : Int) {x j : Int} (hj : 0 ≤ j) (h : x = 2 * j + 1) : sl σ t x = sl σ (lf σ t) j := by
  rw [sl, if_pos (by omega), if_pos (by omega)]; congr 1; omega
theorem sl_even (σ : St) (t : Int) {x j : Int} (hj : 0 ≤ j) (h : x = 2 * j + 2) : sl σ t x = sl σ (rt σ t) j := by
  rw [sl, if_pos (by omega), if_neg (by omega)]; congr 1; omega
theorem st_odd {j : Int} (h : 0 ≤ j ∧ j < 127) : st (2 * j + 1) = 2 * st j := by
  unfold st; repeat (first | omega | split)
theorem st_even {j : Int} (h : 0 ≤ j ∧ j < 127) : st (2 * j + 2) = 2 * st j := by
  unfold st; repeat (first | omega | split)
theorem st_pos (x : Int) : 1 ≤ st x ∧ st x ≤ 128 := by
  unfold st; repeat (first | omega | split)
theorem st_le {x : Int} (h : 0 ≤ x ∧ x < 255) : st x ≤ x + 1 ∧ x + 1 < 2 * st x := by
  unfold st; repeat (first | omega | split)
theorem half (x : Int) (h : 0 < x) : ∃ j, 0 ≤ j ∧ j < x ∧ (x = 2 * j + 1 ∨ x = 2 * j + 2) := by
  rcases Int.emod_two_eq x with h1 | h1
  · exact ⟨x / 2 - 1, by omega, by omega, by omega⟩
  · exact ⟨x / 2, by omega, by omega, by omega⟩
theorem sl_sub (σ : St) (t x : Int) (h0 : 0 ≤ x) (h1 : x < 127) : sl σ t (x + st x) = lf σ (sl σ t x) ∧ sl σ t (x + 2 * st x) = rt σ (sl σ t x) := by
  by_cases hx : x = 0
  · subst hx
    have e : st 0 = 1 := by decide
    rw [e, sl_0 σ t (Int.le_refl 0), sl_odd σ t (j := 0) (by omega) (by omega), sl_even σ t (j := 0) (by omega) (by omega), sl_0 _ _ (Int.le_refl 0), sl_0 _ _ (Int.le_refl 0)]
    exact ⟨rfl, rfl⟩
  · obtain ⟨j, hj0, hj1, hj⟩ := half x (by omega)
    rcases hj with rfl | rfl
    · have ih := sl_sub σ (lf σ t) j hj0 (by omega)
      rw [st_odd (by omega), sl_odd σ t (x := 2 * j + 1) hj0 rfl]
      have hp := st_pos j
      rw [sl_odd σ t (j := j + st j) (by omega) (by omega), sl_odd σ t (j := j + 2 * st j) (by omega) (by omega)]
      exact ih
    · have ih := sl_sub σ (rt σ t) j hj0 (by omega)
      rw [st_even (by omega), sl_even σ t (x := 2 * j + 2) hj0 rfl]
      have hp := st_pos j
      rw [sl_even σ t (j := j + st j) (by omega) (by omega), sl_even σ t (j := j + 2 * st j) (by omega) (by omega)]
      exact ih
termination_by x.toNat
decreasing_by all_goals omega
/-- every index but the root's lies left or right of one ahead of it -/
def up (x : Int) : Int := if x < 3 then 0 else if x < 7 then (if x < 5 then x - 2 else x - 4) else if x < 15 then (if x < 11 then x - 4 else x - 8) else if x < 31 then (if x < 23 then x - 8 else x - 16) else if x < 63 then (if x < 47 then x - 16 else x - 32) else if x < 127 then (if x < 95 then x - 32 else x - 64) else (if x < 191 then x - 64 else x - 128)
theorem up_spec {x : Int} (h : 0 < x ∧ x < 255) : 0 ≤ up x ∧ up x < x ∧ up x < 127 ∧ (x = up x + st (up x) ∨ x = up x + 2 * st (up x)) := by
  unfold up st; repeat (first | omega | split)
theorem up_uniq {x y : Int} (h : 0 < x ∧ x < 255) (hy : 0 ≤ y ∧ y < 255) (e : x = y + st y ∨ x = y + 2 * st y) : y = up x := by
  revert e
  unfold up st; repeat (first | omega | split)
theorem Shape_above_f : ∀ x : Fin 255, Shape_above (x.val : Int) = some (if x.val = 0 then -1 else up (x.val : Int)) := by decide +kernel
theorem Shape_above_eq {x : Int} (h : 0 ≤ x ∧ x < 255) : Shape_above x = some (if x = 0 then -1 else up x) := by
  have h1 := Shape_above_f ⟨x.toNat, by omega⟩
  have h2 : ((x.toNat : Nat) : Int) = x := by omega
  simp only [h2] at h1
  rw [h1]
  by_cases hx : x = 0
  · rw [if_pos hx, if_pos (by omega)]
  · rw [if_neg hx, if_neg (by omega)]
