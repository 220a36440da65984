-- MATH 45: the text read; tells
def Rdr (L : Int) (g : Int → Int) (s t : St) : Prop := s 35 0 = L ∧ t 38 0 = L ∧ (0 ≤ L ∧ L ≤ 200) ∧ (∀ j, 0 ≤ j → j < L → s 14 j = g j ∧ band (t 4 j) 255 = g j) ∧ s 36 0 = t 37 0 ∧ 0 ≤ s 36 0 ∧ s 36 0 ≤ L
theorem Rdr.here {L : Int} {g : Int → Int} {s t : St} (h : Rdr L g s t) : ∃ c, Text_signAt s (s 36 0) = some c ∧ M_here t = some c ∧ (¬ c = -1 → s 36 0 < L) := by
  obtain ⟨h1, h2, h3, h4, h5, h6⟩ := h
  by_cases q : s 36 0 < L
  · have k := h4 (s 36 0) h6.1 q
    refine ⟨g (s 36 0), ?_, ?_, fun _ => q⟩
    · unfold Text_signAt
      rw [if_neg (by omega), gf_eq, h1, if_pos q, rd_eq (by omega), k.1]
    · unfold M_here
      rw [gf_eq, gf_eq, h2, ← h5, if_pos q, gf_eq, ← h5, rd_eq (by omega), opure_eq, k.2]
  · refine ⟨-1, ?_, ?_, fun e => absurd rfl e⟩
    · unfold Text_signAt
      rw [if_neg (by omega), gf_eq, h1, if_neg q]
    · unfold M_here
      rw [gf_eq, gf_eq, h2, ← h5, if_neg q]
theorem Rdr.adv {L : Int} {g : Int → Int} {s t : St} (h : Rdr L g s t) (hq : s 36 0 < L) : Rdr L g (us s 36 0 (s 36 0 + 1)) (us t 37 0 (t 37 0 + 1)) := by
  obtain ⟨h1, h2, h3, h4, h5, h6⟩ := h
  have a35 : us s 36 0 (s 36 0 + 1) 35 = s 35 := us_f (by decide)
  have a14 : us s 36 0 (s 36 0 + 1) 14 = s 14 := us_f (by decide)
  have b38 : us t 37 0 (t 37 0 + 1) 38 = t 38 := us_f (by decide)
  have b4 : us t 37 0 (t 37 0 + 1) 4 = t 4 := us_f (by decide)
  unfold Rdr
  rw [a35, a14, b38, b4, us_eq, us_eq]
  exact ⟨h1, h2, h3, h4, by omega, by omega⟩
theorem Rdr.fr {L : Int} {g : Int → Int} {s t s' t' : St} {m n : List Nat} (h : Rdr L g s t) (hE : Fr m s s') (hM : Fr n t t') (a : 14 ∉ m ∧ 35 ∉ m ∧ 36 ∉ m) (b : 4 ∉ n ∧ 37 ∉ n ∧ 38 ∉ n) : Rdr L g s' t' := by
  unfold Rdr at *
  rw [hE 14 a.1, hE 35 a.2.1, hE 36 a.2.2, hM 4 b.1, hM 37 b.2.1, hM 38 b.2.2]; exact h
theorem dig_y {c : Int} (h : 48 ≤ c ∧ c ≤ 57) : Reader_isDigit c = some 1 := by
  unfold Reader_isDigit
  rw [if_neg (by omega), if_neg (by omega)]
theorem dig_n {c : Int} (h : ¬ (48 ≤ c ∧ c ≤ 57)) : Reader_isDigit c = some 0 := by
  unfold Reader_isDigit
  by_cases q : c < 48
  · rw [if_pos q]
  · rw [if_neg q, if_pos (by omega)]
theorem digs_loop {K1 K2 : St → Int → Int → Option (Int × St)} {L : Int} {g : Int → Int} : ∀ (r m1 m2 : Nat) (s t : St) (n v : Int), n + r = 3 → r < m1 → r < m2 → Rdr L g s t → ((n = 0 ∧ v = 0) ∨ (n = 1 ∧ 0 ≤ v ∧ v ≤ 9) ∨ (n = 2 ∧ 0 ≤ v ∧ v ≤ 99) ∨ (n = 3 ∧ 0 ≤ v ∧ v ≤ 999)) →
    ∃ s' t' n' v', Reader_readNumber_L40 K1 m1 s n v = K1 s' n' v' ∧ M_readsNumber_L33 K2 m2 t v n = K2 t' v' n' ∧ Rdr L g s' t' ∧ Fr [36] s s' ∧ Fr [37] t t' ∧ (0 ≤ v' ∧ v' ≤ 999) ∧ (0 ≤ n' ∧ n' ≤ 3) ∧ s' 36 0 - s 36 0 = n' - n := by
  intro r
  induction r with
  | zero =>
    intro m1 m2 s t n v h1 h2 h3 hR hv
    cases m1 with
    | zero => omega
    | succ m1 =>
    cases m2 with
    | zero => omega
    | succ m2 =>
    refine ⟨s, t, n, v, ?_, ?_, hR, Fr.rf _ _, Fr.rf _ _, by omega, by omega, by omega⟩
    · unfold Reader_readNumber_L40
      rw [if_neg (by omega)]
    · unfold M_readsNumber_L33
      rw [if_neg (by omega)]
  | succ r ih =>
    intro m1 m2 s t n v h1 h2 h3 hR hv
    cases m1 with
    | zero => omega
    | succ m1 =>
    cases m2 with
    | zero => omega
    | succ m2 =>
    obtain ⟨c, e1, e2, hc⟩ := hR.here
    have hpos := hR.2.2.2.2
    have hL := hR.2.2.1
    by_cases q : 48 ≤ c ∧ c ≤ 57
    · have hlt := hc (by omega)
      obtain ⟨s', t', n', v', y1, y2, y3, y4, y5, y6, y7, y8⟩ := ih m1 m2 _ _ (n + 1) (10 * v + c - 48) (by omega) (by omega) (by omega) (hR.adv hlt) (by omega)
      refine ⟨s', t', n', v', ?_, ?_, y3, ((Fr.rf [36] s).us (by decide)).tr y4, ((Fr.rf [37] t).us (by decide)).tr y5, y6, y7, by rw [us_eq] at y8; omega⟩
      · unfold Reader_readNumber_L40
        rw [if_pos (by omega), gf_eq, e1, bndp_eq, dig_y q, bndp_eq, if_neg (by decide), omul_eq (by omega), gf_eq, e1, bndp_eq, oadd_eq (by omega), osub_eq (by omega), oadd_eq (by omega), gf_eq, oadd_eq (by omega), pf_eq]
        exact y1
      · unfold M_readsNumber_L33
        rw [if_pos (by omega), e2, bndp_eq, M_in_y q, bndp_eq, if_neg (by decide), omul_eq (by omega), bndp_eq, oadd_eq (by omega), osub_eq (by omega), oadd_eq (by omega), gf_eq, oadd_eq (by omega), pf_eq]
        exact y2
    · refine ⟨s, t, n, v, ?_, ?_, hR, Fr.rf _ _, Fr.rf _ _, by omega, by omega, by omega⟩
      · unfold Reader_readNumber_L40
        rw [if_pos (by omega), gf_eq, e1, bndp_eq, dig_n q, bndp_eq, if_pos rfl]
      · unfold M_readsNumber_L33
        rw [if_pos (by omega), e2, bndp_eq, M_in_n q, bndp_eq, if_pos rfl]
theorem rn_ex {L : Int} {g : Int → Int} {s t : St} (hR : Rdr L g s t) :
    ∃ b s' t', Reader_readNumber s = some (b, s') ∧ M_readsNumber t = some (b, t') ∧ Rdr L g s' t' ∧ Fr [36, 37] s s' ∧ Fr [37, 39] t t' ∧ (b = 0 ∨ b = 1) ∧ (s' 37 0 = t' 39 0 ∧ -999 ≤ s' 37 0 ∧ s' 37 0 ≤ 999) ∧ s 36 0 ≤ s' 36 0 ∧ (b = 1 → s 36 0 < s' 36 0) := by
  obtain ⟨c, e1, e2, hc⟩ := hR.here
  have hpos := hR.2.2.2.2
  have hL := hR.2.2.1
  -- after the sign
  have go : ∀ (w : Int) (s0 t0 : St), (w = 0 ∨ w = 1) → Rdr L g s0 t0 → Fr [36] s s0 → Fr [37] t t0 → s 36 0 ≤ s0 36 0 → ∃ b s' t', (jn (fun (s6 : St) (x7 : Int) (x8 : Int) => jn (fun (x10 : Int) => pf s6 37 x10 fun s12 => oif (0 < x7) inferInstance 1 0 fun v13 => retZ v13 s12) fun k11 => if w = 0 then (k11 x8) else (oneg x8 fun v14 => k11 v14)) fun k9 => Reader_readNumber_L40 k9 FU s0 0 0) = some (b, s') ∧ (jn (fun (s5 : St) (x6 : Int) (x7 : Int) => jn (fun (x9 : Int) => pf s5 39 x9 fun s11 => oif (0 < x7) inferInstance 1 0 fun v12 => retZ v12 s11) fun k10 => if w = 0 then (k10 x6) else (oneg x6 fun v13 => k10 v13)) fun k8 => M_readsNumber_L33 k8 FU t0 0 0) = some (b, t') ∧ Rdr L g s' t' ∧ Fr [36, 37] s s' ∧ Fr [37, 39] t t' ∧ (b = 0 ∨ b = 1) ∧ (s' 37 0 = t' 39 0 ∧ -999 ≤ s' 37 0 ∧ s' 37 0 ≤ 999) ∧ s 36 0 ≤ s' 36 0 ∧ (b = 1 → s 36 0 < s' 36 0) := fun w s0 t0 hw hR0 hE0 hM0 hle => by
    obtain ⟨K1, hK1⟩ : ∃ K1 : St → Int → Int → Option (Int × St), K1 = fun (s6 : St) (x7 : Int) (x8 : Int) => jn (fun (x10 : Int) => pf s6 37 x10 fun s12 => oif (0 < x7) inferInstance 1 0 fun v13 => retZ v13 s12) fun k11 => if w = 0 then (k11 x8) else (oneg x8 fun v14 => k11 v14) := ⟨_, rfl⟩
    obtain ⟨K2, hK2⟩ : ∃ K2 : St → Int → Int → Option (Int × St), K2 = fun (s5 : St) (x6 : Int) (x7 : Int) => jn (fun (x9 : Int) => pf s5 39 x9 fun s11 => oif (0 < x7) inferInstance 1 0 fun v12 => retZ v12 s11) fun k10 => if w = 0 then (k10 x6) else (oneg x6 fun v13 => k10 v13) := ⟨_, rfl⟩
    obtain ⟨s1, t1, n1, v1, y1, y2, y3, y4, y5, y6, y7, y8⟩ := digs_loop (K1 := K1) (K2 := K2) 3 FU FU s0 t0 0 0 (by omega) (by unfold FU; omega) (by unfold FU; omega) hR0 (Or.inl ⟨rfl, rfl⟩)
    obtain ⟨x, hx⟩ : ∃ x : Int, x = if w = 0 then v1 else - v1 := ⟨_, rfl⟩
    have xr : -999 ≤ x ∧ x ≤ 999 := by rw [hx]; split <;> omega
    have f1 : Fr [36, 37] s (us s1 37 0 x) := ((hE0.mono (by decide)).tr (y4.mono (by decide))).us (by decide)
    have f2 : Fr [37, 39] t (us t1 39 0 x) := ((hM0.mono (by decide)).tr (y5.mono (by decide))).us (by decide)
    have r3 : Rdr L g (us s1 37 0 x) (us t1 39 0 x) := y3.fr (fr_sc [37] s1 37 x (by decide)) (fr_sc [39] t1 39 x (by decide)) (by decide) (by decide)
    obtain ⟨b, hb⟩ : ∃ b : Int, b = if 0 < n1 then 1 else 0 := ⟨_, rfl⟩
    have p36 : us s1 37 0 x 36 0 = s1 36 0 := us_ne (by decide)
    refine ⟨b, us s1 37 0 x, us t1 39 0 x, ?_, ?_, r3, f1, f2, by rw [hb]; split <;> omega, by rw [us_eq, us_eq]; exact ⟨rfl, xr⟩, by rw [p36]; omega, fun e => by
      rw [p36]
      rw [hb] at e
      split at e <;> omega⟩
    · rw [← hK1, jn_eq]
      refine y1.trans ?_
      rw [hK1]
      dsimp only
      have fin : ∀ y, y = x → (pf s1 37 y fun s12 => oif (0 < n1) inferInstance 1 0 fun v13 => retZ v13 s12) = some (b, us s1 37 0 x) := fun y ey => by
        rw [ey, pf_eq]
        by_cases q : 0 < n1
        · rw [if_pos q] at hb
          rw [hb, oif_t q (by omega)]; rfl
        · rw [if_neg q] at hb
          rw [hb, oif_f q (by omega)]; rfl
      rw [jn_eq]
      rcases hw with e | e
      · rw [if_pos e] at hx
        rw [if_pos e]
        exact fin v1 hx.symm
      · rw [if_neg (by omega)] at hx
        rw [if_neg (by omega), oneg_eq (by omega)]
        exact fin _ hx.symm
    · rw [← hK2, jn_eq]
      refine y2.trans ?_
      rw [hK2]
      dsimp only
      have fin : ∀ y, y = x → (pf t1 39 y fun s12 => oif (0 < n1) inferInstance 1 0 fun v13 => retZ v13 s12) = some (b, us t1 39 0 x) := fun y ey => by
        rw [ey, pf_eq]
        by_cases q : 0 < n1
        · rw [if_pos q] at hb
          rw [hb, oif_t q (by omega)]; rfl
        · rw [if_neg q] at hb
          rw [hb, oif_f q (by omega)]; rfl
      rw [jn_eq]
      rcases hw with e | e
      · rw [if_pos e] at hx
        rw [if_pos e]
        exact fin v1 hx.symm
      · rw [if_neg (by omega)] at hx
        rw [if_neg (by omega), oneg_eq (by omega)]
        exact fin _ hx.symm
  unfold Reader_readNumber M_readsNumber
  rw [gf_eq, e1, e2, bndp_eq, bndp_eq]
  by_cases q : c = 45
  · have hlt := hc (by omega)
    obtain ⟨b, s', t', z1, z2, z3⟩ := go 1 _ _ (Or.inr rfl) (hR.adv hlt) ((Fr.rf [36] s).us (by decide)) ((Fr.rf [37] t).us (by decide)) (by rw [us_eq]; omega)
    refine ⟨b, s', t', ?_, ?_, z3⟩
    · rw [oif_t q (by decide)]
      rw [jn_eq, if_neg (by decide), gf_eq, oadd_eq (by omega), pf_eq]
      exact z1
    · rw [oif_t q (by decide)]
      rw [jn_eq, if_neg (by decide), gf_eq, oadd_eq (by omega), pf_eq]
      exact z2
  · obtain ⟨b, s', t', z1, z2, z3⟩ := go 0 s t (Or.inl rfl) hR (Fr.rf _ _) (Fr.rf _ _) (by omega)
    refine ⟨b, s', t', ?_, ?_, z3⟩
    · rw [oif_f q (by decide)]
      rw [jn_eq, if_pos rfl]
      exact z1
    · rw [oif_f q (by decide)]
      rw [jn_eq, if_pos rfl]
      exact z2
theorem rows_loop {K : St → Int → Option (Int × St)} {L : Int} {g : Int → Int} (hK : ∀ s x, 0 < x → K s x = some (-1, s)) {σ τ : St} (hL : 0 < L) : ∀ (r m1 m2 : Nat) (s t : St) (x : Int), L - s 36 0 < r → r < m1 → r < m2 → Rdr L g s t → Fr [28, 36, 37] σ s → Fr [1, 3, 37, 39] τ t → Rws [7] τ t → t 3 7 = x → (0 ≤ x ∧ 2 * x ≤ s 36 0) → (s 36 0 = L → 0 < x) → (∀ z, 0 ≤ z → z < x → s 28 z = t 1 (256 * 7 + z) ∧ -999 ≤ t 1 (256 * 7 + z) ∧ t 1 (256 * 7 + z) ≤ 999) →
    ∃ v b s' t', Reader_readRow_fresh_L7 K m1 s x = some (v, s') ∧ M_readsRow_L17 m2 t = some (b, t') ∧ (s' 36 0 = t' 37 0 ∧ 0 ≤ s' 36 0 ∧ s' 36 0 ≤ 200) ∧ Fr [28, 36, 37] σ s' ∧ Fr [1, 3, 37, 39] τ t' ∧ Rws [7] τ t' ∧ ((v = -1 ∧ b = 0) ∨ (b = 1 ∧ (0 ≤ v ∧ v ≤ 150) ∧ t' 3 7 = v ∧ ∀ z, 0 ≤ z → z < v → s' 28 z = t' 1 (256 * 7 + z) ∧ -999 ≤ t' 1 (256 * 7 + z) ∧ t' 1 (256 * 7 + z) ≤ 999)) := by
  intro r
  induction r with
  | zero =>
    intro m1 m2 s t x h1 h2 h3 hR
    have := hR.2.2.2.2
    exfalso; omega
  | succ r ih =>
    intro m1 m2 s t x h1 h2 h3 hR hE hM hW h37 hx hend hz
    cases m1 with
    | zero => omega
    | succ m1 =>
    cases m2 with
    | zero => omega
    | succ m2 =>
    have hp := hR.2.2.2.2
    have hl := hR.2.2.1
    obtain ⟨b, s1, t1, e1, e2, R1, f1, f2, hb, hv, hle, hlt⟩ := rn_ex hR
    have p1 := R1.2.2.2.2
    have W1 : Rws [7] t t1 := Rws.fr f2 (by decide) (by decide) (by decide) _
    by_cases q : s 36 0 < L
    · rcases hb with hb | hb
      · refine ⟨-1, 0, s1, t1, ?_, ?_, by omega, hE.tr (f1.mono (by decide)), hM.tr (f2.mono (by decide)), hW.tr W1, Or.inl ⟨rfl, rfl⟩⟩
        · unfold Reader_readRow_fresh_L7
          rw [gf_eq, gf_eq, hR.1, if_pos q, if_pos (by omega), e1, bnd_eq, if_pos hb]
        · unfold M_readsRow_L17
          rw [e2, bnd_eq, if_pos hb]
      · have hgt := hlt hb
        have t37 : t1 3 7 = x := by rw [f2 3 (by decide)]; exact h37
        obtain ⟨s2, hs2⟩ : ∃ s2, s2 = us s1 28 x (s1 37 0) := ⟨_, rfl⟩
        obtain ⟨t2, ht2⟩ : ∃ t2, t2 = us (us t1 1 (256 * 7 + x) (t1 39 0)) 3 7 (x + 1) := ⟨_, rfl⟩
        have g1 : Fr [28] s1 s2 := by rw [hs2]; exact (Fr.rf _ _).us (by decide)
        have g2 : Fr [1, 3] t1 t2 := by rw [ht2]; exact ((Fr.rf _ _).us (by decide)).us (by decide)
        have W2 : Rws [7] t1 t2 := by
          rw [ht2]
          exact ⟨fun q9 hq => ⟨by rw [us_ne (by decide), us_ni (by have := hq 7 (by decide); omega)], by rw [us_ne (by decide), us_ne (by decide)]⟩, fun p hp9 => by rw [us_ni (by simp at hp9; omega), us_ne (by decide)]⟩
        have R2 : Rdr L g s2 t2 := R1.fr g1 g2 (by decide) (by decide)
        have e37 : t2 3 7 = x + 1 := by rw [ht2, us_eq]
        have s36 : s2 36 0 = s1 36 0 := by rw [g1 36 (by decide)]
        have z2 : ∀ z, 0 ≤ z → z < x + 1 → s2 28 z = t2 1 (256 * 7 + z) ∧ -999 ≤ t2 1 (256 * 7 + z) ∧ t2 1 (256 * 7 + z) ≤ 999 := fun z a b9 => by
          have et : t2 1 = us t1 1 (256 * 7 + x) (t1 39 0) 1 := by rw [ht2]; exact us_f (by decide)
          rw [hs2, et]
          by_cases e : z = x
          · rw [e, us_eq, us_eq]; omega
          · rw [us_ni e, us_ni (by omega), f1 28 (by decide), f2 1 (by decide)]; exact hz z a (by omega)
        have stepE : Reader_readRow_fresh_L7 K (m1 + 1) s x = (if s2 36 0 = L then some (x + 1, s2) else (bndp (Text_signAt s2 (s2 36 0)) fun v19 => if v19 = 44 then (gf s2 36 fun v20 => oadd v20 1 fun v21 => pf s2 36 v21 fun s22 => Reader_readRow_fresh_L7 K m1 s22 (x + 1)) else (some (-1, s2)))) := by
          conv => lhs; unfold Reader_readRow_fresh_L7
          rw [gf_eq, gf_eq, hR.1, if_pos q, if_pos (by omega), e1, bnd_eq, if_neg (by omega), gf_eq, wr_eq (by omega), ← hs2, oadd_eq (by omega), gf_eq, gf_eq, R2.1, gf_eq]
        have stepM : M_readsRow_L17 (m2 + 1) t = (if t2 37 0 = L then some (1, t2) else (bndp (M_here t2) fun v16 => if v16 = 44 then (gf t2 37 fun v17 => oadd v17 1 fun v18 => pf t2 37 v18 fun s19 => M_readsRow_L17 m2 s19) else (some (0, t2)))) := by
          conv => lhs; unfold M_readsRow_L17
          rw [e2, bnd_eq, if_neg (by omega), rd_eq (by omega), t37, oadd_eq (by omega), gf_eq, wr_eq (by omega), rd_eq (by omega), us_ne (by decide), t37, oadd_eq (by omega), wr_eq (by omega)]
          rw [show (1792 : Int) + x = 256 * 7 + x by omega, ← ht2, gf_eq, gf_eq, R2.2.1]
        have p2 := R2.2.2.2.2
        rw [stepE, stepM]
        by_cases u : s2 36 0 = L
        · refine ⟨x + 1, 1, s2, t2, if_pos u, if_pos (by omega), by omega, (hE.tr (f1.mono (by decide))).tr (g1.mono (by decide)), (hM.tr (f2.mono (by decide))).tr (g2.mono (by decide)), (hW.tr W1).tr W2, Or.inr ⟨rfl, by omega, e37, z2⟩⟩
        · obtain ⟨c, c1, c2, c3⟩ := R2.here
          rw [if_neg u, if_neg (by omega), c1, c2, bndp_eq, bndp_eq]
          by_cases w : c = 44
          · have hlt2 := c3 (by omega)
            have R3 := R2.adv hlt2
            have k36 : us s2 36 0 (s2 36 0 + 1) 36 0 = s2 36 0 + 1 := us_eq _ _ _ _
            obtain ⟨v, b2, s', t', y1, y2, y3⟩ := ih m1 m2 _ _ (x + 1) (by rw [k36]; omega) (by omega) (by omega) R3 (((hE.tr (f1.mono (by decide))).tr (g1.mono (by decide))).us (by decide)) (((hM.tr (f2.mono (by decide))).tr (g2.mono (by decide))).us (by decide)) (((hW.tr W1).tr W2).tr (Rws.fr (fr_sc [37] t2 37 (t2 37 0 + 1) (by decide)) (by decide) (by decide) (by decide) _)) (by rw [us_ne (by decide)]; exact e37) (by rw [k36]; omega) (fun _ => by omega) (fun z a b9 => by rw [us_ne (by decide), us_ne (by decide)]; exact z2 z a b9)
            refine ⟨v, b2, s', t', ?_, ?_, y3⟩
            · rw [if_pos w, gf_eq, oadd_eq (by omega), pf_eq]
              exact y1
            · rw [if_pos w, gf_eq, oadd_eq (by omega), pf_eq]
              exact y2
          · exact ⟨-1, 0, s2, t2, if_neg w, if_neg w, by omega, (hE.tr (f1.mono (by decide))).tr (g1.mono (by decide)), (hM.tr (f2.mono (by decide))).tr (g2.mono (by decide)), (hW.tr W1).tr W2, Or.inl ⟨rfl, rfl⟩⟩
    · have b0 : b = 0 := by
        rcases hb with hb | hb
        · exact hb
        · have := hlt hb; omega
      refine ⟨-1, 0, s, t1, ?_, ?_, by omega, hE, hM.tr (f2.mono (by decide)), hW.tr W1, Or.inl ⟨rfl, rfl⟩⟩
      · unfold Reader_readRow_fresh_L7
        rw [gf_eq, gf_eq, hR.1, if_neg q]
        exact hK s x (hend (by omega))
      · unfold M_readsRow_L17
        rw [e2, bnd_eq, if_pos b0]
theorem M_begin_eq (τ : St) : M_begin τ = some (0, us (us (us τ 38 0 (τ 31 0)) 31 0 0) 37 0 0) := (Eq.refl _).trans (Eq.refl _)
theorem cut0 {s : St} (h : 0 ≤ s 35 0) : Text_cut s 0 = some (1, us s 35 0 0) := by
  unfold Text_cut
  rw [if_neg (by omega), gf_eq, if_neg (by omega), pf_eq]
theorem begin_rdr {σ τ : St} (hT : Tx σ τ) : Rdr (σ 35 0) (σ 14) (us σ 36 0 0) (us (us (us (us τ 33 0 0) 38 0 (us τ 33 0 0 31 0)) 31 0 0) 37 0 0) := by
  obtain ⟨h1, h2, h3⟩ := hT
  have a35 : us σ 36 0 0 35 = σ 35 := us_f (by decide)
  have a14 : us σ 36 0 0 14 = σ 14 := us_f (by decide)
  have b38 : us (us (us (us τ 33 0 0) 38 0 (us τ 33 0 0 31 0)) 31 0 0) 37 0 0 38 0 = τ 31 0 := by
    rw [us_ne (by decide), us_ne (by decide), us_eq, us_ne (by decide)]
  have b4 : us (us (us (us τ 33 0 0) 38 0 (us τ 33 0 0 31 0)) 31 0 0) 37 0 0 4 = τ 4 := by
    rw [us_f (by decide), us_f (by decide), us_f (by decide), us_f (by decide)]
  unfold Rdr
  rw [a35, a14, b38, b4, us_eq, us_eq]
  exact ⟨rfl, h1.symm, h2, fun j a b => ⟨rfl, (h3 j a b).symm⟩, rfl, by omega, by omega⟩
theorem call_tells : HS_2 SS := by
  intro k σ τ z0 hk hR hR9 hS i0
  have hS0 := hS
  obtain ⟨⟨ρ, hW⟩, hT, hr, hn, hm⟩ := hS
  have hB := begin_rdr hT
  have hL := hT.2.1
  obtain ⟨s0, hs0⟩ : ∃ s0, s0 = us σ 36 0 0 := ⟨_, rfl⟩
  obtain ⟨t0, ht0⟩ : ∃ t0, t0 = us (us (us (us τ 33 0 0) 38 0 (us τ 33 0 0 31 0)) 31 0 0) 37 0 0 := ⟨_, rfl⟩
  rw [← hs0, ← ht0] at hB
  have fs : Fr [36] σ s0 := by rw [hs0]; exact (Fr.rf _ _).us (by decide)
  have ft : Fr [31, 33, 37, 38] τ t0 := by rw [ht0]; exact ((((Fr.rf _ _).us (by decide)).us (by decide)).us (by decide)).us (by decide)
  have t31 : t0 31 0 = 0 := by rw [ht0, us_ne (by decide), us_eq]
  have s36 : s0 36 0 = 0 := by rw [hs0, us_eq]
  have eM : ∀ (k : Int → St → Option (Int × St)), bnd (M_begin (us τ 33 0 0)) k = k 0 t0 := fun k => by rw [M_begin_eq, bnd_eq, ht0]
  -- the row read
  have key : ∃ v b s' t', Reader_readRow_fresh σ = some (v, s') ∧ M_readsRow t0 = some (b, t') ∧ (s' 36 0 = t' 37 0 ∧ 0 ≤ s' 36 0 ∧ s' 36 0 ≤ 200) ∧ Fr [28, 36, 37] s0 s' ∧ Fr [1, 3, 37, 39] t0 t' ∧ Rws [7] t0 t' ∧ ((v = -1 ∧ b = 0) ∨ (b = 1 ∧ (0 ≤ v ∧ v ≤ 150) ∧ t' 3 7 = v ∧ ∀ z, 0 ≤ z → z < v → s' 28 z = t' 1 (256 * 7 + z) ∧ -999 ≤ t' 1 (256 * 7 + z) ∧ t' 1 (256 * 7 + z) ≤ 999)) := by
    obtain ⟨K, hK⟩ : ∃ K : St → Int → Option (Int × St), K = fun (s2 : St) (x3 : Int) => oif (x3 = 0) inferInstance 0 (-1) fun v5 => some (v5, s2) := ⟨_, rfl⟩
    have W7 : Rws [7] t0 (us t0 3 7 0) := ⟨fun q _ => ⟨us_ne (by decide), us_ne (by decide)⟩, fun p hp => us_ni (by simp at hp; exact hp)⟩
    have f7 : Fr [1, 3, 37, 39] t0 (us t0 3 7 0) := (Fr.rf _ _).us (by decide)
    have e38 : us t0 3 7 0 38 0 = σ 35 0 := by rw [us_ne (by decide)]; exact hB.2.1
    have eE : Reader_readRow_fresh σ = Reader_readRow_fresh_L7 K FU s0 0 := by
      unfold Reader_readRow_fresh
      rw [pf_eq, ← hs0, ← hK, jn_eq]
    by_cases q : σ 35 0 = 0
    · refine ⟨0, 1, s0, us t0 3 7 0, ?_, ?_, ?_, Fr.rf _ _, f7, W7, Or.inr ⟨rfl, by omega, us_eq _ _ _ _, fun z a b => by omega⟩⟩
      · rw [eE]
        show Reader_readRow_fresh_L7 K (7999 + 1) s0 0 = _
        unfold Reader_readRow_fresh_L7
        rw [gf_eq, gf_eq, hB.1, if_neg (by omega), hK]
        dsimp only
        rw [oif_t rfl (by decide)]
      · unfold M_readsRow
        rw [wr_eq (by omega), gf_eq, e38, if_pos q]
      · rw [us_ne (by decide)]
        have := hB.2.2.2.2
        omega
    · obtain ⟨v, b, s', t', y1, y2, y3⟩ := rows_loop (K := K) (L := σ 35 0) (g := σ 14) (fun s x hx => by rw [hK]; dsimp only; rw [oif_f (by omega) (by decide)]) (σ := s0) (τ := t0) (by omega) 300 FU FU s0 (us t0 3 7 0) 0 (by omega) (by unfold FU; omega) (by unfold FU; omega) (hB.fr (Fr.rf [] s0) ((Fr.rf [3] t0).us (by decide)) (by decide) (by decide)) (Fr.rf _ _) f7 W7 (us_eq _ _ _ _) (by omega) (fun e => by omega) (fun z a b => by omega)
      refine ⟨v, b, s', t', eE.trans y1, ?_, y3⟩
      unfold M_readsRow
      rw [wr_eq (by omega), gf_eq, e38, if_neg q]
      exact y2
  obtain ⟨v, b, s', t', x1, x2, x3, x4, x5, x6, x7⟩ := key
  have p35 : s' 35 0 = σ 35 0 := by rw [x4 35 (by decide), fs 35 (by decide)]
  have ec := cut0 (s := s') (by omega)
  have fE : Fr (14 :: 35 :: SE) σ (us s' 35 0 0) := ((fs.mono (by decide)).tr (x4.mono (by decide))).us (by decide)
  have fM : Fr (4 :: 31 :: SM) τ t' := (ft.mono (by decide)).tr (x5.mono (by decide))
  have hSb : SS k (us s' 35 0 0) t' := hS0.txt fE fM ((Rws.fr ft (by decide) (by decide) (by decide) _).tr (x6.mono (by decide))) ⟨by rw [us_eq, x5 31 (by decide), t31], by rw [us_eq]; omega, fun j j0 jn => by rw [us_eq] at jn; omega⟩
  have p36 : us s' 35 0 0 36 0 = s' 36 0 := us_ne (by decide)
  rcases x7 with ⟨v1, b1⟩ | ⟨b1, vr, v3, vz⟩
  · refine ⟨-2000 - s' 36 0, us s' 35 0 0, t', ?_, ?_, hSb.up⟩
    · unfold E_tells
      rw [x1, bnd_eq, ec, bnd_eq, if_pos v1, gf_eq, p36, osub_eq (by omega)]
    · unfold M_tells
      rw [pf_eq, eM, x2, bnd_eq, if_pos b1, gf_eq, ← x3.1, osub_eq (by omega)]
  · by_cases a : 0 ≤ z0 ∧ z0 < 6
    · obtain ⟨σ4, τ1, τ4, y1, y2, y3, y4, y5⟩ := build_ex (p := z0) hSb hk (by omega) v3 (fun x x0 xn => by rw [us_ne (by decide)]; exact vz x x0 xn) a
      refine ⟨v, σ4, τ4, ?_, ?_, y5⟩
      · unfold E_tells
        rw [x1, bnd_eq, ec, bnd_eq, if_neg (by omega), E_isPlace_y a, bndp_eq, if_neg (by decide), y1, bnd_eq]
      · unfold M_tells
        rw [pf_eq, eM, x2, bnd_eq, if_neg (by omega), M_isPlace_y a, bndp_eq, if_neg (by decide), y2, bnd_eq, y3, bnd_eq, rd_eq (by omega), y4]
    · refine ⟨-1, us s' 35 0 0, t', ?_, ?_, hSb.up⟩
      · unfold E_tells
        rw [x1, bnd_eq, ec, bnd_eq, if_neg (by omega), E_isPlace_n a, bndp_eq, if_pos rfl]
      · unfold M_tells
        rw [pf_eq, eM, x2, bnd_eq, if_neg (by omega), M_isPlace_n a, bndp_eq, if_pos rfl]
