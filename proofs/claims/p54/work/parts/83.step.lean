-- P54, 12: the law's step
theorem act_q {k : Nat} {σ τ μ m : St} {v4 c i j l v n d : Int} (h : Hy k σ τ μ m i j l v n d) (h4 : 0 ≤ v4 ∧ v4 ≤ 15) : ∃ σ' μ', ACT v4 σ m c i j l v n d i = some (σ', μ') ∧ J9 (k + 1) σ' μ' := by
  unfold ACT
  by_cases e0 : v4 = 0
  · rw [if_pos e0]
    exact act0 h
  rw [if_neg e0]
  by_cases e1 : v4 = 1
  · rw [if_pos e1]
    exact act0 h
  rw [if_neg e1]
  by_cases e2 : v4 = 2
  · rw [if_pos e2]
    exact act2 h
  rw [if_neg e2]
  by_cases e3 : v4 = 3
  · rw [if_pos e3]
    exact act2 h
  rw [if_neg e3]
  by_cases e4 : v4 = 4
  · rw [if_pos e4]
    exact act4 h
  rw [if_neg e4]
  by_cases e5 : v4 = 5
  · rw [if_pos e5]
    exact act5 h
  rw [if_neg e5]
  by_cases e6 : v4 = 6
  · rw [if_pos e6]
    exact act6 h
  rw [if_neg e6]
  by_cases e7 : v4 = 7
  · rw [if_pos e7]
    exact act7 h
  rw [if_neg e7]
  by_cases e8 : v4 = 8
  · rw [if_pos e8]
    exact act8 h
  rw [if_neg e8]
  by_cases e9 : v4 = 9
  · rw [if_pos e9]
    exact act9 h
  rw [if_neg e9]
  by_cases e10 : v4 = 10
  · rw [if_pos e10]
    exact act10 h
  rw [if_neg e10]
  by_cases e11 : v4 = 11
  · rw [if_pos e11]
    exact act11 h
  rw [if_neg e11]
  by_cases e12 : v4 = 12
  · rw [if_pos e12]
    exact act12 h
  rw [if_neg e12]
  by_cases e13 : v4 = 13
  · rw [if_pos e13]
    exact act13 h
  rw [if_neg e13]
  by_cases e14 : v4 = 14
  · rw [if_pos e14]
    exact act14 h
  rw [if_neg e14]
  exact act15 h
theorem nwB_fr (μ : St) : Fr [48] μ (nwB μ) := fun f hf => by
  funext j
  have e : f ≠ 48 := fun q => hf (by rw [q]; decide)
  exact if_neg e
theorem step_q : HSTEP J9 := by
  intro k σ μ c hk _ _ _ hJ
  obtain ⟨τ, hS, hM⟩ := hJ
  have a1 := band15 (bushr c 4)
  have a2 := band15 (bushr c 8)
  have a3 := band15 (bushr c 12)
  have a4 := band2047 (bushr c 16)
  have i6 : 0 ≤ band (bushr c 4) 15 % 6 ∧ band (bushr c 4) 15 % 6 < 6 := by omega
  have j6 : 0 ≤ band (bushr c 8) 15 % 6 ∧ band (bushr c 8) 15 % 6 < 6 := by omega
  have l6 : 0 ≤ band (bushr c 12) 15 % 6 ∧ band (bushr c 12) 15 % 6 < 6 := by omega
  have v9 : -999 ≤ band (bushr c 16) 2047 % 1999 - 999 ∧ band (bushr c 16) 2047 % 1999 - 999 ≤ 999 := by omega
  unfold L_head
  rw [opure_eq, opure_eq, orem_eq (by omega), opure_eq, opure_eq, orem_eq (by omega), opure_eq, opure_eq, orem_eq (by omega), opure_eq, opure_eq, orem_eq (by omega), osub_eq (by omega), rd_eq i6, chk6_eq i6, count_q, bndp_eq, made_q hS]
  generalize band (bushr c 4) 15 % 6 = i at i6 ⊢
  generalize band (bushr c 8) 15 % 6 = j at j6 ⊢
  generalize band (bushr c 12) 15 % 6 = l at l6 ⊢
  generalize band (bushr c 16) 2047 % 1999 - 999 = v at v9 ⊢
  have hi := hM i i6.1 i6.2
  have ok := ((hS.ok (by omega)).2 i i6.1 i6.2).1
  rw [hi.1.1, mid_eq]
  obtain ⟨m', e2, f2, b2⟩ := L129_q (μ := nwB μ) (n := τ 3 i) i6 (by omega) σ (τ 3 i).toNat FU (nwB μ) 0 (by omega) (by omega) (by unfold FU; omega) (Fr.rf _ _) (fun y a b => by omega)
  have h : Hy k σ τ μ m' i j l v (τ 3 i) (τ 30 0) := ⟨hk, hS, hM, (nwB_fr μ).tr f2, fun y y0 yn => by
    rw [b2 y y0 yn, nwB_fr μ _ (n48 i)]
    exact hi.2 y y0 yn, i6, j6, l6, v9, rfl, by omega, rfl⟩
  obtain ⟨σ', μ', e, j9⟩ := act_q (c := c) h (band15 c)
  refine ⟨σ', μ', ?_, j9⟩
  rw [e2]
  exact e
