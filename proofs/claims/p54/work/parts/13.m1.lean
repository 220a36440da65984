-- MATH 1: spread, read
theorem us_f {σ : St} {f g : Nat} {i v : Int} (h : g ≠ f) : us σ f i v g = σ g := by
  funext j; simp [us, h]
theorem lf_us {σ : St} {f : Nat} {i v : Int} (h : 8 ≠ f) (t : Int) : lf (us σ f i v) t = lf σ t := by unfold lf; rw [us_f h]
theorem rt_us {σ : St} {f : Nat} {i v : Int} (h : 9 ≠ f) (t : Int) : rt (us σ f i v) t = rt σ t := by unfold rt; rw [us_f h]
theorem nu_us {σ : St} {f : Nat} {i v : Int} (h : 7 ≠ f) (t : Int) : nu (us σ f i v) t = nu σ t := by unfold nu; rw [us_f h]
theorem lf_of {σ τ : St} (h : τ 8 = σ 8) (t : Int) : lf τ t = lf σ t := by unfold lf; rw [h]
theorem rt_of {σ τ : St} (h : τ 9 = σ 9) (t : Int) : rt τ t = rt σ t := by unfold rt; rw [h]
theorem nu_of {σ τ : St} (h : τ 7 = σ 7) (t : Int) : nu τ t = nu σ t := by unfold nu; rw [h]
theorem sl_of {σ τ : St} (h8 : τ 8 = σ 8) (h9 : τ 9 = σ 9) (t x : Int) : sl τ t x = sl σ t x := by
  by_cases hx : x ≤ 0
  · rw [sl_0 _ _ hx, sl_0 _ _ hx]
  · obtain ⟨j, hj0, hj1, hj⟩ := half x (by omega)
    rcases hj with rfl | rfl
    · rw [sl_odd τ t hj0 rfl, sl_odd σ t hj0 rfl, lf_of h8]; exact sl_of h8 h9 _ j
    · rw [sl_even τ t hj0 rfl, sl_even σ t hj0 rfl, rt_of h9]; exact sl_of h8 h9 _ j
termination_by x.toNat
decreasing_by all_goals omega
/-- what of a memory stays: all fields but those of a list -/
def Fr (l : List Nat) (σ τ : St) : Prop := ∀ f, f ∉ l → τ f = σ f
theorem Fr.rf (l : List Nat) (σ : St) : Fr l σ σ := fun _ _ => rfl
theorem Fr.tr {l : List Nat} {σ τ υ : St} (h : Fr l σ τ) (h2 : Fr l τ υ) : Fr l σ υ := fun f hf => (h2 f hf).trans (h f hf)
theorem Fr.mono {l m : List Nat} {σ τ : St} (h : Fr l σ τ) (hs : ∀ f ∈ l, f ∈ m) : Fr m σ τ := fun f hf => h f (fun q => hf (hs f q))
theorem Fr.us {l : List Nat} {σ τ : St} {f : Nat} {i v : Int} (h : Fr l σ τ) (hf : f ∈ l) : Fr l σ (us τ f i v) := fun g hg => by
  rw [us_f (fun e => hg (by rw [e]; exact hf))]; exact h g hg
theorem st_big {x : Int} (h : 127 ≤ x) : st x = 128 := by
  unfold st; repeat (first | omega | split)
theorem spread_loop (σ : St) (t n : Int) (hn : 0 ≤ n ∧ n ≤ 255) : ∀ (m : Nat) (σ1 : St) (x : Int), 0 ≤ x → x ≤ n → n - x < m → Fr [12] σ σ1 → σ1 12 0 = t → (∀ z, 0 < z → z < n → up z < x → σ1 12 z = sl σ t z) →
    ∃ σ2, Pool_spread_L9 n m σ1 x = some (0, σ2) ∧ Fr [12] σ σ2 ∧ σ2 12 0 = t ∧ (∀ z, 0 ≤ z → z < n → σ2 12 z = sl σ t z) := by
  intro m
  induction m with
  | zero => intro σ1 x h0 hxn hm; exfalso; omega
  | succ m ih =>
    intro σ1 x h0 hxn hm hF h1 hz
    unfold Pool_spread_L9
    by_cases hx : x < n
    · have hs := st_le (x := x) (by omega)
      have hp := st_pos x
      have hb : 127 ≤ x → st x = 128 := st_big
      have hat : σ1 12 x = sl σ t x := by
        by_cases hx0 : x = 0
        · rw [hx0, h1, sl_0 _ _ (Int.le_refl 0)]
        · exact hz x (by omega) hx (by have := (up_spec (x := x) (by omega)); omega)
      have fin : ∀ σb, Fr [12] σ σb → σb 12 0 = t → (∀ z, 0 < z → z < n → (up z < x ∨ z = x + st x ∨ z = x + 2 * st x) → σb 12 z = sl σ t z) → ∃ σ2, Pool_spread_L9 n m σb (x + 1) = some (0, σ2) ∧ Fr [12] σ σ2 ∧ σ2 12 0 = t ∧ (∀ z, 0 ≤ z → z < n → σ2 12 z = sl σ t z) := fun σb f1 f2 f3 =>
        ih σb (x + 1) (by omega) (by omega) (by omega) f1 f2 (fun z hz0 hzn h => f3 z hz0 hzn (by
          have hu := up_spec (x := z) (by omega)
          by_cases hux : up z = x
          · rw [hux] at hu; omega
          · omega))
      have e1 : lf σ1 (σ1 12 x) = lf σ (sl σ t x) := by rw [lf_of (hF 8 (by decide)), hat]
      have e2 : rt σ1 (σ1 12 x) = rt σ (sl σ t x) := by rw [rt_of (hF 9 (by decide)), hat]
      simp (disch := omega) only [ite_y, Shape_stride_eq, bndp_eq, oadd_eq, omul_eq, jn_eq]
      by_cases hL : x + st x < n
      · have hsub := (sl_sub σ t x h0 (by omega)).1
        by_cases hR : x + 2 * st x < n
        · have hsub2 := (sl_sub σ t x h0 (by omega)).2
          simp (disch := omega) only [ite_y, rd_eq, Pool_leftOf_eq, Pool_rightOf_eq, bndp_eq, wr_eq]
          rw [us_ni (j := x) (by omega), rt_us (by decide), e1, e2]
          refine fin _ ((hF.us (by decide)).us (by decide)) (by rw [us_ni (by omega), us_ni (by omega)]; exact h1) (fun z hz0 hzn h => ?_)
          by_cases hz2 : z = x + 2 * st x
          · rw [hz2, us_eq, hsub2]
          · rw [us_ni hz2]
            by_cases hz1 : z = x + st x
            · rw [hz1, us_eq, hsub]
            · rw [us_ni hz1]; exact hz z hz0 hzn (by omega)
        · simp (disch := omega) only [ite_y, ite_n, rd_eq, Pool_leftOf_eq, Pool_rightOf_eq, bndp_eq, wr_eq]
          rw [e1]
          refine fin _ (hF.us (by decide)) (by rw [us_ni (by omega)]; exact h1) (fun z hz0 hzn h => ?_)
          by_cases hz1 : z = x + st x
          · rw [hz1, us_eq, hsub]
          · rw [us_ni hz1]; exact hz z hz0 hzn (by omega)
      · simp (disch := omega) only [ite_n]
        exact fin _ hF h1 (fun z hz0 hzn h => hz z hz0 hzn (by omega))
    · simp (disch := omega) only [ite_n]
      exact ⟨σ1, rfl, hF, h1, fun z hz0 hzn => by
        by_cases h : z = 0
        · rw [h, h1, sl_0 _ _ (Int.le_refl 0)]
        · exact hz z (by omega) hzn (by have := up_spec (x := z) (by omega); omega)⟩
theorem spread_eq (σ : St) (t n : Int) (hn : 0 ≤ n ∧ n ≤ 255) : ∃ σ2, Pool_spread σ t n = some (0, σ2) ∧ Fr [12] σ σ2 ∧ σ2 12 0 = t ∧ (∀ z, 0 ≤ z → z < n → σ2 12 z = sl σ t z) := by
  unfold Pool_spread
  simp (disch := omega) only [wr_eq]
  refine spread_loop σ t n hn FU _ 0 (by omega) (by omega) (by unfold FU; omega) ((Fr.rf _ _).us (by decide)) (us_eq _ _ _ _) (fun z h1 h2 h3 => ?_)
  have := up_spec (x := z) (by omega)
  omega
