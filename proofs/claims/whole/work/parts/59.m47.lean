-- MATH 47: a tree read in: both readers keep step
def GR (L : Int) (g : Int → Int) (s t : St) : Prop := Rdr L g s t ∧ (0 ≤ s 38 0 ∧ 2 * s 38 0 ≤ s 36 0 ∧ t 40 0 = s 38 0) ∧ (∀ k, 0 ≤ k → k < s 38 0 → (t 8 k = s 15 k ∧ 0 ≤ s 15 k ∧ s 15 k ≤ 200) ∧ (t 9 k = s 16 k ∧ -999 ≤ s 16 k ∧ s 16 k ≤ 999) ∧ t 10 k = s 17 k ∧ t 11 k = s 18 k ∧ t 12 (2 * k) = 0 ∧ t 12 (2 * k + 1) = 0) ∧ TT (s 17) (s 18) (s 19) (s 20) (s 21) (s 38 0) (s 39 0)
def FQ : List Nat := [15, 16, 17, 18, 19, 20, 21, 36, 37, 38, 39, 40]
def FV : List Nat := [8, 9, 10, 11, 12, 37, 39, 40]
theorem us_st1 (σ : St) (f : Nat) (i v : Int) : us σ f i v f = st1 (σ f) i v := us_fun σ f i v
theorem settle_n {s : St} {v : Int} (ho : s 39 0 = -1) : Reader_settle s v = some (0, us s 40 0 1) := by
  unfold Reader_settle
  rw [gf_eq, if_pos ho, pfZ_eq (Or.inr rfl)]
theorem settle_0 {s : St} {v : Int} (ho : 0 ≤ s 39 0 ∧ s 39 0 < 100) (hs : s 19 (s 39 0) = 0) : Reader_settle s v = some (0, us (us s 20 (s 39 0) v) 19 (s 39 0) 1) := by
  have e1 : us s 20 (s 39 0) v 39 0 = s 39 0 := us_ne (by decide)
  have e2 : us s 20 (s 39 0) v 19 (s 39 0) = 0 := by rw [us_ne (by decide)]; exact hs
  unfold Reader_settle
  rw [gf_eq, if_neg (by omega), gf_eq, rd_eq (by omega), jn_eq, if_pos hs, gf_eq, wr_eq (by omega)]
  dsimp only
  rw [gf_eq, e1, rd_eq (by omega), e2, oadd_eq (by omega), wr_eq (by omega)]
  rfl
theorem settle_1 {s : St} {v : Int} (ho : 0 ≤ s 39 0 ∧ s 39 0 < 100) (hs : s 19 (s 39 0) = 1) : Reader_settle s v = some (0, us (us s 21 (s 39 0) v) 19 (s 39 0) 2) := by
  have e1 : us s 21 (s 39 0) v 39 0 = s 39 0 := us_ne (by decide)
  have e2 : us s 21 (s 39 0) v 19 (s 39 0) = 1 := by rw [us_ne (by decide)]; exact hs
  unfold Reader_settle
  rw [gf_eq, if_neg (by omega), gf_eq, rd_eq (by omega), jn_eq, if_neg (by omega), gf_eq, wr_eq (by omega)]
  dsimp only
  rw [gf_eq, e1, rd_eq (by omega), e2, oadd_eq (by omega), wr_eq (by omega)]
  rfl
def SA (L : Int) (g : Int → Int) (s t : St) (x8 : Int) : Prop := GR L g s t ∧ s 40 0 = 0 ∧ (s 39 0 = -1 → s 38 0 = 0 ∧ x8 = 0) ∧ (0 ≤ s 39 0 → x8 = s 19 (s 39 0) ∧ x8 ≤ 1)
def SB (L : Int) (g : Int → Int) (s t : St) (x20 : Int) : Prop := GR L g s t ∧ (s 39 0 = -1 → s 40 0 = 1 ∧ (s 38 0 = 0 ∨ s 38 0 = 1 + s 20 0 + s 21 0)) ∧ (0 ≤ s 39 0 → s 40 0 = 0 ∧ (0 ≤ x20 ∧ x20 ≤ 1) ∧ s 19 (s 39 0) = x20 + 1)
theorem GR.many {L : Int} {g : Int → Int} {s t : St} (h : GR L g s t) : s 38 0 ≤ 100 ∧ -1 ≤ s 39 0 ∧ s 39 0 < s 38 0 + 1 ∧ (0 ≤ s 39 0 → s 39 0 < s 38 0) := by
  obtain ⟨h1, h2, h3, h4⟩ := h
  have := h1.2.2.2.2
  have := h1.2.2.1
  have := h4.2.2.2.2.2.2
  omega
theorem GR.adv {L : Int} {g : Int → Int} {s t : St} (h : GR L g s t) (hq : s 36 0 < L) : GR L g (us s 36 0 (s 36 0 + 1)) (us t 37 0 (t 37 0 + 1)) := by
  obtain ⟨h1, h2, h3, h4⟩ := h
  have a : ∀ f, ¬ f = 36 → us s 36 0 (s 36 0 + 1) f = s f := fun f hf => us_f hf
  have b : ∀ f, ¬ f = 37 → us t 37 0 (t 37 0 + 1) f = t f := fun f hf => us_f hf
  refine ⟨h1.adv hq, ?_, ?_, ?_⟩
  · rw [a 38 (by decide), b 40 (by decide), us_eq]; omega
  · rw [a 38 (by decide), a 15 (by decide), a 16 (by decide), a 17 (by decide), a 18 (by decide), b 8 (by decide), b 9 (by decide), b 10 (by decide), b 11 (by decide), b 12 (by decide)]
    exact h3
  · rw [a 17 (by decide), a 18 (by decide), a 19 (by decide), a 20 (by decide), a 21 (by decide), a 38 (by decide), a 39 (by decide)]
    exact h4
/-- what stays of it when only the tables of sides and sizes, and what stands open, change -/
theorem GR.tt {L : Int} {g : Int → Int} {s t s' : St} (h : GR L g s t) (hF : Fr [19, 20, 21, 39, 40] s s') (hT : TT (s 17) (s 18) (s' 19) (s' 20) (s' 21) (s 38 0) (s' 39 0)) : GR L g s' t := by
  obtain ⟨h1, h2, h3, h4⟩ := h
  have e := fun f hf => hF f hf
  refine ⟨h1.fr hF (Fr.rf [] t) (by decide) (by decide), ?_, ?_, ?_⟩
  · rw [hF 38 (by decide), hF 36 (by decide)]; exact h2
  · rw [hF 38 (by decide), hF 15 (by decide), hF 16 (by decide), hF 17 (by decide), hF 18 (by decide)]; exact h3
  · rw [hF 38 (by decide), hF 17 (by decide), hF 18 (by decide)]; exact hT
/-- a dot -/
theorem dot_ex {L : Int} {g : Int → Int} {s t : St} {x8 : Int} (h : SA L g s t x8) (hq : s 36 0 < L) : ∃ s', Reader_settle (us s 36 0 (s 36 0 + 1)) 0 = some (0, s') ∧ SB L g s' (us t 37 0 (t 37 0 + 1)) x8 ∧ s' 39 0 = s 39 0 ∧ s' 36 0 = s 36 0 + 1 ∧ Fr FQ s s' := by
  obtain ⟨hG, h40, hn, hp⟩ := h
  have hA := hG.adv hq
  have hm := hG.many
  obtain ⟨s1, hs1⟩ : ∃ s1, s1 = us s 36 0 (s 36 0 + 1) := ⟨_, rfl⟩
  rw [← hs1] at hA ⊢
  have f1 : Fr [36] s s1 := by rw [hs1]; exact (Fr.rf _ _).us (by decide)
  have e39 : s1 39 = s 39 := f1 39 (by decide)
  have e19 : s1 19 = s 19 := f1 19 (by decide)
  have e38 : s1 38 = s 38 := f1 38 (by decide)
  have e40 : s1 40 = s 40 := f1 40 (by decide)
  have e36 : s1 36 0 = s 36 0 + 1 := by rw [hs1, us_eq]
  have hT := hA.2.2.2
  by_cases q : s 39 0 = -1
  · have w := hn q
    refine ⟨us s1 40 0 1, settle_n (by rw [e39]; exact q), ⟨?_, fun _ => ⟨us_eq _ _ _ _, Or.inl ?_⟩, fun e => ?_⟩, ?_, ?_, (f1.mono (by decide)).us (by decide)⟩
    · refine hA.tt ((Fr.rf _ _).us (by decide)) ?_
      rw [us_f (by decide), us_f (by decide), us_f (by decide), us_f (by decide)]
      exact hT
    · rw [us_ne (by decide), e38]; exact w.1
    · rw [us_ne (by decide), e39] at e; omega
    · rw [us_ne (by decide), e39]
    · rw [us_ne (by decide), e36]
  · have o0 : 0 ≤ s 39 0 := by omega
    have w := hp o0
    have x0 := (hT.1 (s1 39 0) (by rw [e39]; exact o0) (by rw [e38, e39]; exact hm.2.2.2 o0)).2.2.1
    rw [e39, e19] at x0
    have o1 := hm.2.2.2 o0
    by_cases z : x8 = 0
    · have hs : s1 19 (s1 39 0) = 0 := by rw [e19, e39]; omega
      have T2 := hT.dot0 (by rw [e39]; exact o0) hs
      obtain ⟨s2, hs2⟩ : ∃ s2, s2 = us (us s1 20 (s1 39 0) 0) 19 (s1 39 0) 1 := ⟨_, rfl⟩
      have f2 : Fr [19, 20] s1 s2 := by rw [hs2]; exact ((Fr.rf _ _).us (by decide)).us (by decide)
      have i19 : s2 19 = st1 (s1 19) (s1 39 0) 1 := by rw [hs2, us_st1, us_f (by decide)]
      have i20 : s2 20 = st1 (s1 20) (s1 39 0) 0 := by rw [hs2, us_f (by decide), us_st1]
      refine ⟨s2, by rw [hs2]; exact settle_0 (by rw [e39]; omega) hs, ⟨hA.tt (f2.mono (by decide)) ?_, fun e => ?_, fun e => ⟨?_, by omega, ?_⟩⟩, ?_, ?_, (f1.mono (by decide)).tr (f2.mono (by decide))⟩
      · rw [i19, i20, f2 21 (by decide), f2 39 (by decide)]; exact T2
      · rw [f2 39 (by decide), e39] at e; omega
      · rw [f2 40 (by decide), e40]; exact h40
      · rw [f2 39 (by decide), i19, st1_y rfl]; omega
      · rw [f2 39 (by decide), e39]
      · rw [f2 36 (by decide), e36]
    · have hs : s1 19 (s1 39 0) = 1 := by rw [e19, e39]; omega
      have T2 := hT.dot1 (by rw [e39]; exact o0) hs
      obtain ⟨s2, hs2⟩ : ∃ s2, s2 = us (us s1 21 (s1 39 0) 0) 19 (s1 39 0) 2 := ⟨_, rfl⟩
      have f2 : Fr [19, 21] s1 s2 := by rw [hs2]; exact ((Fr.rf _ _).us (by decide)).us (by decide)
      have i19 : s2 19 = st1 (s1 19) (s1 39 0) 2 := by rw [hs2, us_st1, us_f (by decide)]
      have i21 : s2 21 = st1 (s1 21) (s1 39 0) 0 := by rw [hs2, us_f (by decide), us_st1]
      refine ⟨s2, by rw [hs2]; exact settle_1 (by rw [e39]; omega) hs, ⟨hA.tt (f2.mono (by decide)) ?_, fun e => ?_, fun e => ⟨?_, by omega, ?_⟩⟩, ?_, ?_, (f1.mono (by decide)).tr (f2.mono (by decide))⟩
      · rw [i19, i21, f2 20 (by decide), f2 39 (by decide)]; exact T2
      · rw [f2 39 (by decide), e39] at e; omega
      · rw [f2 40 (by decide), e40]; exact h40
      · rw [f2 39 (by decide), i19, st1_y rfl]; omega
      · rw [f2 39 (by decide), e39]
      · rw [f2 36 (by decide), e36]
/-- a node's end -/
theorem close_ex' {L : Int} {g : Int → Int} {s t : St} (h : SB L g s t 1) (ho : 0 ≤ s 39 0) (hq : s 36 0 < L) : ∃ s', Reader_close s = some (1, s') ∧ SB L g s' (us t 37 0 (t 37 0 + 1)) (s 18 (s 39 0)) ∧ s' 39 0 = s 17 (s 39 0) ∧ s' 36 0 = s 36 0 + 1 ∧ Fr FQ s s' := by
  obtain ⟨hG, hn, hp⟩ := h
  have hA := hG.adv hq
  have hm := hG.many
  have w := hp ho
  have o1 := hm.2.2.2 ho
  obtain ⟨s1, hs1⟩ : ∃ s1, s1 = us s 36 0 (s 36 0 + 1) := ⟨_, rfl⟩
  rw [← hs1] at hA
  have f1 : Fr [36] s s1 := by rw [hs1]; exact (Fr.rf _ _).us (by decide)
  have e39 : s1 39 = s 39 := f1 39 (by decide)
  have e36 : s1 36 0 = s 36 0 + 1 := by rw [hs1, us_eq]
  have hT := hG.2.2.2
  have t1 := hT.1 (s 39 0) ho o1
  have sr2 : s 19 (s 39 0) = 2 := by omega
  obtain ⟨v, hv⟩ : ∃ v, v = 1 + s 20 (s 39 0) + s 21 (s 39 0) := ⟨_, rfl⟩
  obtain ⟨s2, hs2⟩ : ∃ s2, s2 = us s1 39 0 (s 17 (s 39 0)) := ⟨_, rfl⟩
  have f2 : Fr [36, 39] s s2 := by rw [hs2]; exact (f1.mono (by decide)).us (by decide)
  have f12 : Fr [39] s1 s2 := by rw [hs2]; exact (Fr.rf _ _).us (by decide)
  have g39 : s2 39 0 = s 17 (s 39 0) := by rw [hs2, us_eq]
  have eC : Reader_close s = bnd (Reader_settle s2 v) fun _ s14 => some (1, s14) := by
    have p1 : us s 36 0 (s 36 0 + 1) = s1 := hs1.symm
    have a20 : s1 20 = s 20 := f1 20 (by decide)
    have a21 : s1 21 = s 21 := f1 21 (by decide)
    have a17 : s1 17 = s 17 := f1 17 (by decide)
    have hp9 := hG.1.2.2.2.2
    have hl9 := hG.1.2.2.1
    unfold Reader_close
    rw [gf_eq, oadd_eq (by omega), pf_eq, p1, gf_eq, e39, rd_eq (by omega), a20, oadd_eq (by omega), gf_eq, e39, rd_eq (by omega), a21, oadd_eq (by omega), gf_eq, e39, rd_eq (by omega), a17, pf_eq, ← hs2, ← hv]
  have hA2 : ∀ s', Fr [19, 20, 21, 39, 40] s1 s' → TT (s 17) (s 18) (s' 19) (s' 20) (s' 21) (s 38 0) (s' 39 0) → GR L g s' (us t 37 0 (t 37 0 + 1)) := fun s' hF hT' => hA.tt hF (by
    rw [f1 17 (by decide), f1 18 (by decide), f1 38 (by decide)]; exact hT')
  by_cases q : s 17 (s 39 0) = -1
  · have E := hT.end ho sr2 q
    refine ⟨us s2 40 0 1, by rw [eC, settle_n (by rw [g39]; exact q), bnd_eq], ⟨hA2 _ ((f12.mono (by decide)).us (by decide)) ?_, fun _ => ⟨us_eq _ _ _ _, Or.inr ?_⟩, fun e => ?_⟩, ?_, ?_, (f2.mono (by decide)).us (by decide)⟩
    · rw [us_f (by decide), us_f (by decide), us_f (by decide), us_f (by decide), f2 19 (by decide), f2 20 (by decide), f2 21 (by decide), g39, q]
      exact E.1
    · rw [us_f (by decide), us_f (by decide), us_f (by decide), f2 38 (by decide), f2 20 (by decide), f2 21 (by decide)]
      exact E.2.2
    · rw [us_ne (by decide), g39] at e; omega
    · rw [us_ne (by decide)]; exact g39
    · rw [us_ne (by decide), f12 36 (by decide)]; exact e36
  · have p0 : 0 ≤ s 17 (s 39 0) := by omega
    have b19 : s2 19 = s 19 := f2 19 (by decide)
    have b20 : s2 20 = s 20 := f2 20 (by decide)
    have b21 : s2 21 = s 21 := f2 21 (by decide)
    by_cases z : s 18 (s 39 0) = 0
    · have E := hT.cl0 ho sr2 rfl p0 z hv
      have hs : s2 19 (s2 39 0) = 0 := by rw [b19, g39]; exact E.1
      obtain ⟨s3, hs3⟩ : ∃ s3, s3 = us (us s2 20 (s2 39 0) v) 19 (s2 39 0) 1 := ⟨_, rfl⟩
      have f3 : Fr [19, 20] s2 s3 := by rw [hs3]; exact ((Fr.rf _ _).us (by decide)).us (by decide)
      have i19 : s3 19 = st1 (s 19) (s 17 (s 39 0)) 1 := by rw [hs3, us_st1, us_f (by decide), b19, g39]
      have i20 : s3 20 = st1 (s 20) (s 17 (s 39 0)) v := by rw [hs3, us_f (by decide), us_st1, b20, g39]
      have i39 : s3 39 0 = s 17 (s 39 0) := by rw [f3 39 (by decide)]; exact g39
      refine ⟨s3, by rw [eC, settle_0 (by rw [g39]; omega) hs, bnd_eq, hs3], ⟨hA2 _ ((f12.mono (by decide)).tr (f3.mono (by decide))) ?_, fun e => by omega, fun e => ⟨?_, by omega, ?_⟩⟩, i39, ?_, (f2.mono (by decide)).tr (f3.mono (by decide))⟩
      · rw [i19, i20, f3 21 (by decide), b21, i39]; exact E.2
      · rw [f3 40 (by decide), f2 40 (by decide)]; exact w.1
      · rw [i39, i19, st1_y rfl]; omega
      · rw [f3 36 (by decide), f12 36 (by decide)]; exact e36
    · have E := hT.cl1 ho sr2 rfl p0 (by omega) hv
      have hs : s2 19 (s2 39 0) = 1 := by rw [b19, g39]; exact E.1
      obtain ⟨s3, hs3⟩ : ∃ s3, s3 = us (us s2 21 (s2 39 0) v) 19 (s2 39 0) 2 := ⟨_, rfl⟩
      have f3 : Fr [19, 21] s2 s3 := by rw [hs3]; exact ((Fr.rf _ _).us (by decide)).us (by decide)
      have i19 : s3 19 = st1 (s 19) (s 17 (s 39 0)) 2 := by rw [hs3, us_st1, us_f (by decide), b19, g39]
      have i21 : s3 21 = st1 (s 21) (s 17 (s 39 0)) v := by rw [hs3, us_f (by decide), us_st1, b21, g39]
      have i39 : s3 39 0 = s 17 (s 39 0) := by rw [f3 39 (by decide)]; exact g39
      refine ⟨s3, by rw [eC, settle_1 (by rw [g39]; omega) hs, bnd_eq, hs3], ⟨hA2 _ ((f12.mono (by decide)).tr (f3.mono (by decide))) ?_, fun e => by omega, fun e => ⟨?_, by omega, ?_⟩⟩, i39, ?_, (f2.mono (by decide)).tr (f3.mono (by decide))⟩
      · rw [i19, i21, f3 20 (by decide), b20, i39]; exact E.2
      · rw [f3 40 (by decide), f2 40 (by decide)]; exact w.1
      · rw [i39, i19, st1_y rfl]; omega
      · rw [f3 36 (by decide), f12 36 (by decide)]; exact e36
