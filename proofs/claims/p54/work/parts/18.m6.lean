-- MATH 6: FRONT
def p2 : Nat → Int
  | 0 => 1
  | d + 1 => 2 * p2 d
theorem vo {b j : Int} : b * (2 * j + 1) = b + 2 * b * j := by rw [Int.mul_add, Int.mul_one, ← Int.mul_assoc, Int.mul_comm b 2]; omega
theorem ve {b j : Int} : b * (2 * j + 2) = 2 * b + 2 * b * j := by rw [Int.mul_add, ← Int.mul_assoc, Int.mul_comm b 2]; omega
theorem E_leftSize_eq {n : Int} (h : 0 ≤ n) : Shape_leftSize n = some (n / 2) := by
  unfold Shape_leftSize
  simp (disch := omega) only [odiv_eq]
theorem E_rightSize_eq {n : Int} (h : 1 ≤ n ∧ n ≤ 255) : Shape_rightSize n = some ((n - 1) / 2) := by
  unfold Shape_rightSize
  by_cases h2 : n < 2
  · simp (disch := omega) only [ite_y]
    congr 1; omega
  · simp (disch := omega) only [ite_n, osub_eq, odiv_eq]
theorem M_leftSize_eq {n : Int} (h : 0 ≤ n) : M_leftSize n = some (n / 2) := by
  unfold M_leftSize
  simp (disch := omega) only [odiv_eq]
theorem M_rightSize_eq {n : Int} (h : 1 ≤ n ∧ n ≤ 255) : M_rightSize n = some ((n - 1) / 2) := by
  unfold M_rightSize
  simp (disch := omega) only [ite_y, osub_eq, odiv_eq]
theorem fin_node {ρ ρ1 : Int → Int → Prop} {σ τ τ1 σ1 τ2 σ2 : St} {d y v l r a b : Int} {g : Int → Int} (hB : Bi ρ σ τ) (h : Sx ρ σ τ1 ρ1 σ1 τ2 d) (h1 : τ1 30 0 = τ 30 0 + 1) (h0 : 0 ≤ τ 30 0) (hF : Fr FM τ τ1) (hM : Made σ1 σ2 y v l r)
    (hl : TW σ1 l a) (hr : TW σ1 r b) (hb : 0 ≤ b) (hab : a = b ∨ a = b + 1) (hv : -999 ≤ v ∧ v ≤ 999) (e1 : τ2 1 (g 0) = v) (e2 : τ2 2 (g 0) = τ1 30 0)
    (cl : Co ρ1 σ1 τ2 l (fun j => g (2 * j + 1)) a) (cr : Co ρ1 σ1 τ2 r (fun j => g (2 * j + 2)) b) :
    ∃ ρ2, Sx ρ σ τ ρ2 σ2 τ2 (d + 1) ∧ TW σ2 y (a + b + 1) ∧ Co ρ2 σ2 τ2 y g (a + b + 1) := by
  have hS := Sx.late hB h h1 h0 hF hM
  obtain ⟨n1, n2, n3, n4⟩ := hM.node hl hr hb hab
  have hE := hM.ext
  refine ⟨_, hS, n1, fun x x0 xn => ?_⟩
  by_cases hx : x = 0
  · rw [hx, sl_0 _ _ (Int.le_refl 0), e1, e2, n4]
    exact ⟨Or.inr ⟨rfl, rfl⟩, rfl, hv⟩
  · obtain ⟨j, hj0, hj1, hj⟩ := half x (by omega)
    rcases hj with rfl | rfl
    · rw [n2 j hj0, nu_ext (hl.1 j hj0 (by omega)) hE]
      have c := cl j hj0 (by omega)
      exact ⟨Or.inl c.1, c.2⟩
    · rw [n3 j hj0, nu_ext (hr.1 j hj0 (by omega)) hE]
      have c := cr j hj0 (by omega)
      exact ⟨Or.inl c.1, c.2⟩
