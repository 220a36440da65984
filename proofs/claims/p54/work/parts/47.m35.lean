-- MATH 35: asks: sum, finds, occurs, heap, level
theorem firstOf_loop {i v a b : Int} (hi : 0 ≤ i ∧ i < 6) {τ : St} (hb : b ≤ 255) (hv : τ 1 (256 * i + a) = v) : ∀ (r m : Nat) (x : Int), x + r = a → 0 ≤ x → a < b → r < m → (∀ z, x ≤ z → z < a → τ 1 (256 * i + z) ≠ v) → M_firstOf_L3 τ i v b m x = some a := by
  intro r
  induction r with
  | zero =>
    intro m x h1 h0 hab h2 hz
    cases m with
    | zero => omega
    | succ m =>
    have e : x = a := by omega
    unfold M_firstOf_L3
    rw [if_pos (by omega), M_number_eq (by omega) (by omega), bndp_eq, e, if_pos hv]
  | succ r ih =>
    intro m x h1 h0 hab h2 hz
    cases m with
    | zero => omega
    | succ m =>
    unfold M_firstOf_L3
    rw [if_pos (by omega), M_number_eq (by omega) (by omega), bndp_eq, if_neg (hz x (by omega) (by omega)), oadd_eq (by omega)]
    exact ih m (x + 1) (by omega) (by omega) hab (by omega) (fun z z0 z1 => hz z (by omega) z1)
theorem firstOf_eq {i v a b l : Int} (hi : 0 ≤ i ∧ i < 6) {τ : St} (hb : b ≤ 255) (hv : τ 1 (256 * i + a) = v) (h0 : 0 ≤ l) (hl : l ≤ a) (hab : a < b) (hz : ∀ z, l ≤ z → z < a → τ 1 (256 * i + z) ≠ v) : M_firstOf τ i v l b = some a :=
  firstOf_loop hi hb hv (a - l).toNat FU l (by omega) h0 hab (by unfold FU; omega) hz
theorem firstOf_none {i v b : Int} (hi : 0 ≤ i ∧ i < 6) {τ : St} (hb : 0 ≤ b ∧ b ≤ 255) : ∀ (r m : Nat) (x : Int), x + r = b → 0 ≤ x → r < m → (∀ z, x ≤ z → z < b → τ 1 (256 * i + z) ≠ v) → M_firstOf_L3 τ i v b m x = some (-1) := by
  intro r
  induction r with
  | zero =>
    intro m x h1 h0 h2 hz
    cases m with
    | zero => omega
    | succ m =>
    unfold M_firstOf_L3
    rw [if_neg (by omega)]
  | succ r ih =>
    intro m x h1 h0 h2 hz
    cases m with
    | zero => omega
    | succ m =>
    unfold M_firstOf_L3
    rw [if_pos (by omega), M_number_eq (by omega) (by omega), bndp_eq, if_neg (hz x (by omega) (by omega)), oadd_eq (by omega)]
    exact ih m (x + 1) (by omega) (by omega) (by omega) (fun z z0 z1 => hz z (by omega) z1)
/-- a: the first index from l on, ahead of x, of the least; b: of the greatest -/
def Lst (u : Int → Int) (l x a : Int) : Prop := l ≤ a ∧ a < x ∧ (∀ z, l ≤ z → z < x → u a ≤ u z) ∧ (∀ z, l ≤ z → z < a → u a < u z)
def Gst (u : Int → Int) (l x a : Int) : Prop := l ≤ a ∧ a < x ∧ (∀ z, l ≤ z → z < x → u z ≤ u a) ∧ (∀ z, l ≤ z → z < a → u z < u a)
theorem sum_loop {K1 K2 : Int → Int → Int → Option (Int × St)} {i N l r0 : Int} (hi : 0 ≤ i ∧ i < 6) (hN : 0 ≤ N ∧ N ≤ 255) (hl : 0 ≤ l ∧ l < r0 ∧ r0 ≤ N) {s τ : St} (hu : ∀ x, 0 ≤ x → x < N → s 26 x = τ 1 (256 * i + x) ∧ -999 ≤ τ 1 (256 * i + x) ∧ τ 1 (256 * i + x) ≤ 999) : ∀ (r m1 m2 : Nat) (a b c p q x : Int), x + r = r0 → l ≤ x → r < m1 → r < m2 → -1000 * x ≤ c → c ≤ 1000 * x →
      ((x = l ∧ a = l ∧ b = l ∧ p = 999 ∧ q = -999) ∨ (Lst (fun z => τ 1 (256 * i + z)) l x a ∧ Gst (fun z => τ 1 (256 * i + z)) l x b ∧ p = τ 1 (256 * i + a) ∧ q = τ 1 (256 * i + b))) →
    ∃ a2 b2 c2, E_sum_L62 K1 s r0 m1 a b c x = K1 a2 b2 c2 ∧ M_sum_L42 K2 τ i r0 m2 c p q x = K2 c2 (τ 1 (256 * i + a2)) (τ 1 (256 * i + b2)) ∧ Lst (fun z => τ 1 (256 * i + z)) l r0 a2 ∧ Gst (fun z => τ 1 (256 * i + z)) l r0 b2 := by
  intro r
  induction r with
  | zero =>
    intro m1 m2 a b c p q x h1 h0 h2 h3 c1 c2 hx
    cases m1 with
    | zero => omega
    | succ m1 =>
    cases m2 with
    | zero => omega
    | succ m2 =>
    have e : x = r0 := by omega
    rcases hx with hx | ⟨x1, x2, x3, x4⟩
    · omega
    · rw [e] at x1 x2
      refine ⟨a, b, c, ?_, ?_, x1, x2⟩
      · unfold E_sum_L62
        exact if_neg (by omega)
      · unfold M_sum_L42
        rw [if_neg (by omega), x3, x4]
  | succ r ih =>
    intro m1 m2 a b c p q x h1 h0 h2 h3 c1 c2 hx
    cases m1 with
    | zero => omega
    | succ m1 =>
    cases m2 with
    | zero => omega
    | succ m2 =>
    have ux := hu x (by omega) (by omega)
    have nM : M_number τ i x = some (τ 1 (256 * i + x)) := M_number_eq (by omega) (by omega)
    have hab : 0 ≤ a ∧ a < N ∧ 0 ≤ b ∧ b < N := by
      rcases hx with hx | ⟨x1, x2, -⟩
      · omega
      · have := x1.1; have := x1.2.1; have := x2.1; have := x2.2.1; omega
    have ua := hu a hab.1 hab.2.1
    have ub := hu b hab.2.2.1 hab.2.2.2
    -- the least so far
    have hL : Lst (fun z => τ 1 (256 * i + z)) l (x + 1) (if τ 1 (256 * i + x) < τ 1 (256 * i + a) then x else a) ∧ imin p (τ 1 (256 * i + x)) = τ 1 (256 * i + (if τ 1 (256 * i + x) < τ 1 (256 * i + a) then x else a)) := by
      rcases hx with ⟨e1, e2, e3, e4, e5⟩ | ⟨x1, x2, x3, x4⟩
      · subst e1 e2
        rw [if_neg (Int.lt_irrefl _), e4]
        refine ⟨⟨Int.le_refl _, by omega, fun z z0 z1 => ?_, fun z z0 z1 => by omega⟩, ?_⟩
        · rw [show z = a by omega]; exact Int.le_refl _
        · unfold imin; split <;> omega
      · obtain ⟨y1, y2, y3, y4⟩ := x1
        dsimp only at y3 y4
        by_cases w : τ 1 (256 * i + x) < τ 1 (256 * i + a)
        · rw [if_pos w, x3]
          refine ⟨⟨h0, by omega, fun z z0 z1 => ?_, fun z z0 z1 => ?_⟩, by unfold imin; rw [if_pos w]⟩
          · dsimp only
            by_cases e : z = x
            · rw [e]; exact Int.le_refl _
            · have := y3 z z0 (by omega); omega
          · dsimp only
            have := y3 z z0 z1; omega
        · rw [if_neg w, x3]
          refine ⟨⟨y1, by omega, fun z z0 z1 => ?_, y4⟩, by unfold imin; rw [if_neg w]⟩
          dsimp only
          by_cases e : z = x
          · rw [e]; omega
          · exact y3 z z0 (by omega)
    have hG : Gst (fun z => τ 1 (256 * i + z)) l (x + 1) (if τ 1 (256 * i + b) < τ 1 (256 * i + x) then x else b) ∧ imax q (τ 1 (256 * i + x)) = τ 1 (256 * i + (if τ 1 (256 * i + b) < τ 1 (256 * i + x) then x else b)) := by
      rcases hx with ⟨e1, e2, e3, e4, e5⟩ | ⟨x1, x2, x3, x4⟩
      · subst e1 e3
        rw [if_neg (Int.lt_irrefl _), e5]
        refine ⟨⟨Int.le_refl _, by omega, fun z z0 z1 => ?_, fun z z0 z1 => by omega⟩, ?_⟩
        · rw [show z = b by omega]; exact Int.le_refl _
        · unfold imax; split <;> omega
      · obtain ⟨y1, y2, y3, y4⟩ := x2
        dsimp only at y3 y4
        by_cases w : τ 1 (256 * i + b) < τ 1 (256 * i + x)
        · rw [if_pos w, x4]
          refine ⟨⟨h0, by omega, fun z z0 z1 => ?_, fun z z0 z1 => ?_⟩, by unfold imax; rw [if_pos w]⟩
          · dsimp only
            by_cases e : z = x
            · rw [e]; exact Int.le_refl _
            · have := y3 z z0 (by omega); omega
          · dsimp only
            have := y3 z z0 z1; omega
        · rw [if_neg w, x4]
          refine ⟨⟨y1, by omega, fun z z0 z1 => ?_, y4⟩, by unfold imax; rw [if_neg w]⟩
          dsimp only
          by_cases e : z = x
          · rw [e]; omega
          · exact y3 z z0 (by omega)
    obtain ⟨a2, b2, c2', y1, y2, y3⟩ := ih m1 m2 _ _ (c + τ 1 (256 * i + x)) _ _ (x + 1) (by omega) (by omega) (by omega) (by omega) (by omega) (by omega) (Or.inr ⟨hL.1, hG.1, hL.2, hG.2⟩)
    have oi : ∀ (P : Prop) (d : Decidable P) (A B : Int) (k : Int → Option (Int × St)), 0 ≤ A ∧ A ≤ 255 → 0 ≤ B ∧ B ≤ 255 → oif P d A B k = k (@ite Int P d A B) := fun P d A B k hA hB => by
      by_cases w : P
      · rw [oif_t w (by omega), if_pos w]
      · rw [oif_f w (by omega), if_neg w]
    refine ⟨a2, b2, c2', ?_, ?_, y3⟩
    · unfold E_sum_L62
      rw [if_pos (by omega), rd_eq (by omega), ux.1, oadd_eq (by omega), rd_eq (by omega), ux.1, rd_eq (by omega), ua.1, oi _ _ _ _ _ (by omega) (by omega), rd_eq (by omega), ux.1, rd_eq (by omega), ub.1, oi _ _ _ _ _ (by omega) (by omega), oadd_eq (by omega)]
      exact y1
    · unfold M_sum_L42
      rw [if_pos (by omega), nM, bndp_eq, oadd_eq (by omega), bndp_eq, opure_eq, bndp_eq, opure_eq, oadd_eq (by omega)]
      exact y2
theorem call_sum : HS_35 SS := by
  intro k σ τ z0 z1 z2 hk hS i0 i1 i2
  have hS0 := hS
  obtain ⟨⟨ρ, hW⟩, hT, hr, hn, hm⟩ := hS
  unfold E_sum M_sum
  by_cases a : 0 ≤ z0 ∧ z0 < 6
  · have hP := hW.2.2 z0 a.1 a.2
    have s0 := hP.2.1
    have n0 := hP.1
    have s1 : us τ 33 0 0 3 z0 = τ 3 z0 := us_ne (by decide)
    by_cases b : 0 ≤ z1 ∧ z1 ≤ z2 ∧ z2 ≤ σ 25 z0
    · have b1 : E_isRange σ z0 z1 z2 = some 1 := isRange_y ⟨a, b⟩
      have b2 : M_isSpan (us τ 33 0 0) z0 z1 z2 = some 1 := isSpanM_y a (by rw [s1]; omega)
      obtain ⟨sa, e1, f1, c1⟩ := read_one_eq σ (σ 24 z0) (σ 25 z0) n0
      obtain ⟨sb, hsb⟩ : ∃ sb, sb = us sa 34 0 0 := ⟨_, rfl⟩
      have ec : Row_clear sa = some (0, sb) := by rw [hsb]; rfl
      have fb : Fr [34] sa sb := by rw [hsb]; exact (Fr.rf _ _).us (by decide)
      have hu : ∀ x, 0 ≤ x → x < σ 25 z0 → sb 26 x = us τ 33 0 0 1 (256 * z0 + x) ∧ -999 ≤ us τ 33 0 0 1 (256 * z0 + x) ∧ us τ 33 0 0 1 (256 * z0 + x) ≤ 999 := fun x p q => by
        rw [fb 26 (by decide), c1 x p q, us_ne (by decide)]; exact hP.num ⟨p, q⟩
      by_cases d : z1 = z2
      · refine ⟨0, sb, us (us τ 33 0 0) 32 0 0, ?_, ?_, hS0.ask ((f1.mono (by decide)).tr (fb.mono (by decide))) ((((fr_sc [33, 32] τ 33 0 (by decide)).us (by decide))).mono (by decide)) (Rws.fr (((fr_sc [33, 32] τ 33 0 (by decide)).us (by decide))) (by decide) (by decide) (by decide) _) (by rw [hsb]; exact Rw.nil _ _)⟩
        · simp (disch := omega) only [↓jn_e, ↓ite_y, ↓ite_n, ↓oadd_eq, ↓osub_eq, ↓omul_eq, ↓odiv_eq, ↓orem_eq, ↓rd_eq, ↓wr_eq, ↓gf_e, ↓pf_e, ↓bnd_e, ↓bndp_e, ↓opure_e, ↓oif_t, ↓oif_f, ↓E_isPlace_y, ↓E_isPlace_n, ↓E_isNumber_y, ↓E_isNumber_n, ↓M_isPlace_y, ↓M_isPlace_n, ↓M_isNumber_y, ↓M_isNumber_n, ↓M_in_y, ↓M_in_n, ↓us_ne, ↓b1, ↓e1, ↓ec]
        · rw [pf_eq, M_isPlace_y a, bndp_eq, jn_eq, if_neg (by decide), b2, bndp_eq, if_neg (by decide), jn_eq]
          show M_sum_L42 _ _ _ _ (7999 + 1) _ _ _ _ = _
          unfold M_sum_L42
          rw [if_neg (by omega), pf_eq, if_neg (by omega)]
      · obtain ⟨K1, hK1⟩ : ∃ K1 : Int → Int → Int → Option (Int × St), K1 = fun (x8 : Int) (x9 : Int) (x10 : Int) => rd sb 26 256 x8 fun v12 => rd sb 26 256 x9 fun v13 => bnd (Row_tell1 sb v12 v13) fun _ s15 => bnd (Row_add s15 x8) fun _ s17 => bnd (Row_add s17 x9) fun _ s19 => some (x10, s19) := ⟨_, rfl⟩
        obtain ⟨K2, hK2⟩ : ∃ K2 : Int → Int → Int → Option (Int × St), K2 = fun (x5 : Int) (x6 : Int) (x7 : Int) => pf (us τ 33 0 0) 32 0 fun s9 => if z1 < z2 then (bnd (M_tell s9 x6) fun _ s11 => bnd (M_tell s11 x7) fun _ s13 => bndp (M_firstOf s13 z0 x6 z1 z2) fun v14 => bnd (M_tell s13 v14) fun _ s16 => bndp (M_firstOf s16 z0 x7 z1 z2) fun v17 => bnd (M_tell s16 v17) fun _ s19 => some (x5, s19)) else (some (x5, s9)) := ⟨_, rfl⟩
        obtain ⟨a2, b9, c2, y1, y2, y3, y4⟩ := sum_loop (K1 := K1) (K2 := K2) (l := z1) (r0 := z2) (τ := us τ 33 0 0) a n0 (by omega) hu (z2 - z1).toNat FU FU z1 z1 0 999 (-999) z1 (by omega) (by omega) (by unfold FU; omega) (by unfold FU; omega) (by omega) (by omega) (Or.inl ⟨rfl, rfl, rfl, rfl, rfl⟩)
        obtain ⟨l1, l2, l3, l4⟩ := y3
        obtain ⟨g1, g2, g3, g4⟩ := y4
        dsimp only at l3 l4 g3 g4
        have ua := hu a2 (by omega) (by omega)
        have ub := hu b9 (by omega) (by omega)
        obtain ⟨σ1, τ1, τ2, t1, t2, t3, t4, t5, t6, t7, t8⟩ := tells2 sb (us τ 33 0 0) (a := us τ 33 0 0 1 (256 * z0 + a2)) (b := us τ 33 0 0 1 (256 * z0 + b9)) (by omega) (by omega)
        obtain ⟨σ3, τ3, u1, u2, u3, u4, u5, u6⟩ := t4.add (v := a2) (by omega) (by omega)
        obtain ⟨σ4, τ4, w1, w2, w3, w4, w5, w6⟩ := u3.add (v := b9) (by omega) (by omega)
        have h21 : τ2 1 = us τ 33 0 0 1 := t7 1 (by decide)
        have h31 : τ3 1 = us τ 33 0 0 1 := (u5 1 (by decide)).trans h21
        have fo1 : M_firstOf τ2 z0 (us τ 33 0 0 1 (256 * z0 + a2)) z1 z2 = some a2 := firstOf_eq a (by omega) (by rw [h21]) (by omega) l1 l2 (fun z p q => by
          rw [h21]; have := l4 z p q; omega)
        have fo2 : M_firstOf τ3 z0 (us τ 33 0 0 1 (256 * z0 + b9)) z1 z2 = some b9 := firstOf_eq a (by omega) (by rw [h31]) (by omega) g1 g2 (fun z p q => by
          rw [h31]; have := g4 z p q; omega)
        refine ⟨c2, σ4, τ4, ?_, ?_, hS0.ask ((f1.mono (by decide)).tr ((fb.mono (by decide)).tr ((t5.mono (by decide)).tr ((u4.mono (by decide)).tr (w4.mono (by decide)))))) (((fr_sc [33] τ 33 0 (by decide)).mono (by decide)).tr ((t7.mono (by decide)).tr ((u5.mono (by decide)).tr (w5.mono (by decide))))) ((Rws.fr (fr_sc [33] _ _ _ (by decide)) (by decide) (by decide) (by decide) _).tr ((Rws.fr t7 (by decide) (by decide) (by decide) _).tr ((Rws.fr u5 (by decide) (by decide) (by decide) _).tr (Rws.fr w5 (by decide) (by decide) (by decide) _)))) w3⟩
        · rw [b1, bndp_eq, if_neg (by decide), rd_eq (by omega), rd_eq (by omega), e1, bnd_eq, ec, bnd_eq, if_neg d, ← hK1, jn_eq]
          refine y1.trans ?_
          rw [hK1]
          show rd sb 26 256 a2 _ = _
          rw [rd_eq (by omega), rd_eq (by omega), ua.1, ub.1, t1, bnd_eq, u1, bnd_eq, w1, bnd_eq]
        · rw [pf_eq, M_isPlace_y a, bndp_eq, jn_eq, if_neg (by decide), b2, bndp_eq, if_neg (by decide), ← hK2, jn_eq]
          refine y2.trans ?_
          rw [hK2]
          show pf _ 32 0 _ = _
          rw [pf_eq, if_pos (by omega), t2, bnd_eq, t3, bnd_eq, fo1, bndp_eq, u2, bnd_eq, fo2, bndp_eq, w2, bnd_eq]
    · have b1 : E_isRange σ z0 z1 z2 = some 0 := isRange_n (fun q => b q.2)
      have b2 : M_isSpan (us τ 33 0 0) z0 z1 z2 = some 0 := isSpanM_n a (by rw [s1, s0]; exact b)
      refine ⟨-1000000, σ, us τ 33 0 0, ?_, ?_, hS0.thr⟩
      · simp (disch := omega) only [↓jn_e, ↓ite_y, ↓ite_n, ↓oadd_eq, ↓osub_eq, ↓omul_eq, ↓odiv_eq, ↓orem_eq, ↓rd_eq, ↓wr_eq, ↓gf_e, ↓pf_e, ↓bnd_e, ↓bndp_e, ↓opure_e, ↓oif_t, ↓oif_f, ↓E_isPlace_y, ↓E_isPlace_n, ↓E_isNumber_y, ↓E_isNumber_n, ↓M_isPlace_y, ↓M_isPlace_n, ↓M_isNumber_y, ↓M_isNumber_n, ↓M_in_y, ↓M_in_n, ↓us_ne, ↓b1]
      · simp (disch := omega) only [↓jn_e, ↓ite_y, ↓ite_n, ↓oadd_eq, ↓osub_eq, ↓omul_eq, ↓odiv_eq, ↓orem_eq, ↓rd_eq, ↓wr_eq, ↓gf_e, ↓pf_e, ↓bnd_e, ↓bndp_e, ↓opure_e, ↓oif_t, ↓oif_f, ↓E_isPlace_y, ↓E_isPlace_n, ↓E_isNumber_y, ↓E_isNumber_n, ↓M_isPlace_y, ↓M_isPlace_n, ↓M_isNumber_y, ↓M_isNumber_n, ↓M_in_y, ↓M_in_n, ↓us_ne, ↓b2]
  · have b1 : E_isRange σ z0 z1 z2 = some 0 := isRange_n (fun q => a q.1)
    refine ⟨-1000000, σ, us τ 33 0 0, ?_, ?_, hS0.thr⟩
    · simp (disch := omega) only [↓jn_e, ↓ite_y, ↓ite_n, ↓oadd_eq, ↓osub_eq, ↓omul_eq, ↓odiv_eq, ↓orem_eq, ↓rd_eq, ↓wr_eq, ↓gf_e, ↓pf_e, ↓bnd_e, ↓bndp_e, ↓opure_e, ↓oif_t, ↓oif_f, ↓E_isPlace_y, ↓E_isPlace_n, ↓E_isNumber_y, ↓E_isNumber_n, ↓M_isPlace_y, ↓M_isPlace_n, ↓M_isNumber_y, ↓M_isNumber_n, ↓M_in_y, ↓M_in_n, ↓us_ne, ↓b1]
    · simp (disch := omega) only [↓jn_e, ↓ite_y, ↓ite_n, ↓oadd_eq, ↓osub_eq, ↓omul_eq, ↓odiv_eq, ↓orem_eq, ↓rd_eq, ↓wr_eq, ↓gf_e, ↓pf_e, ↓bnd_e, ↓bndp_e, ↓opure_e, ↓oif_t, ↓oif_f, ↓E_isPlace_y, ↓E_isPlace_n, ↓E_isNumber_y, ↓E_isNumber_n, ↓M_isPlace_y, ↓M_isPlace_n, ↓M_isNumber_y, ↓M_isNumber_n, ↓M_in_y, ↓M_in_n, ↓us_ne]
/-- near, far: the first, the last index ahead of x at which a thing holds -/
def Nf (P : Int → Prop) (x c a b : Int) : Prop := (c = 0 ∧ a = -1 ∧ b = -1 ∧ ∀ z, 0 ≤ z → z < x → ¬ P z) ∨ (1 ≤ c ∧ (0 ≤ a ∧ a < x) ∧ P a ∧ (∀ z, 0 ≤ z → z < a → ¬ P z) ∧ (a ≤ b ∧ b < x) ∧ P b ∧ ∀ z, b < z → z < x → ¬ P z)
theorem Nf.no {P : Int → Prop} {x c a b : Int} (h : Nf P x c a b) (hx : 0 ≤ x) (hp : ¬ P x) : Nf P (x + 1) c a b := by
  rcases h with ⟨h1, h2, h3, h4⟩ | ⟨h1, h2, h3, h4, h5, h6, h7⟩
  · exact Or.inl ⟨h1, h2, h3, fun z z0 z1 => by
      by_cases e : z = x
      · rw [e]; exact hp
      · exact h4 z z0 (by omega)⟩
  · exact Or.inr ⟨h1, by omega, h3, h4, by omega, h6, fun z z0 z1 => by
      by_cases e : z = x
      · rw [e]; exact hp
      · exact h7 z z0 (by omega)⟩
theorem Nf.yes {P : Int → Prop} {x c a b : Int} (h : Nf P x c a b) (hx : 0 ≤ x) (hp : P x) : Nf P (x + 1) (c + 1) (if c = 0 then x else a) x := by
  rcases h with ⟨h1, h2, h3, h4⟩ | ⟨h1, h2, h3, h4, h5, h6, h7⟩
  · rw [if_pos h1]
    exact Or.inr ⟨by omega, by omega, hp, h4, by omega, hp, fun z z0 z1 => by omega⟩
  · rw [if_neg (by omega)]
    exact Or.inr ⟨by omega, by omega, h3, h4, by omega, hp, fun z z0 z1 => by omega⟩
theorem findsE_loop {K1 : Int → Int → Int → Option (Int × St)} {i N v : Int} (hi : 0 ≤ i ∧ i < 6) (hN : 0 ≤ N ∧ N ≤ 255) {s : St} {u : Int → Int} (h25 : s 25 i = N) (hu : ∀ x, 0 ≤ x → x < N → s 26 x = u x) : ∀ (r m1 : Nat) (c a b x : Int), x + r = N → 0 ≤ x → r < m1 → 0 ≤ c → c ≤ x → -1 ≤ a → a ≤ x → Nf (fun z => u z = v) x c a b → c = x - cn (fun z => u z - v) x.toNat →
    ∃ c2 a2 b2, E_finds_L50 K1 s i v m1 c a b x = K1 c2 a2 b2 ∧ Nf (fun z => u z = v) N c2 a2 b2 ∧ c2 = N - cn (fun z => u z - v) N.toNat ∧ 0 ≤ c2 ∧ c2 ≤ 255 := by
  intro r
  induction r with
  | zero =>
    intro m1 c a b x h1 h0 h2 c0 cx a0 ax hN9 hc
    cases m1 with
    | zero => omega
    | succ m1 =>
    have e : x = N := by omega
    rw [e] at hN9 hc cx
    refine ⟨c, a, b, ?_, hN9, hc, c0, by omega⟩
    unfold E_finds_L50
    rw [rd_eq (by omega), h25, if_neg (by omega)]
  | succ r ih =>
    intro m1 c a b x h1 h0 h2 c0 cx a0 ax hN9 hc
    cases m1 with
    | zero => omega
    | succ m1 =>
    have ux := hu x h0 (by omega)
    have cs9 := cn_step (fun z => u z - v) h0
    by_cases q : u x = v
    · rw [if_pos (by omega)] at cs9
      obtain ⟨c2, a2, b2, y1, y2⟩ := ih m1 (c + 1) (if c = 0 then x else a) x (x + 1) (by omega) (by omega) (by omega) (by omega) (by omega) (by split <;> omega) (by split <;> omega) (hN9.yes h0 q) (by omega)
      refine ⟨c2, a2, b2, ?_, y2⟩
      unfold E_finds_L50
      by_cases w : c = 0
      · rw [if_pos w] at y1
        simp (disch := omega) only [↓jn_e, ↓ite_y, ↓ite_n, ↓oadd_eq, ↓osub_eq, ↓omul_eq, ↓odiv_eq, ↓orem_eq, ↓rd_eq, ↓wr_eq, ↓gf_e, ↓pf_e, ↓bnd_e, ↓bndp_e, ↓opure_e, ↓oif_t, ↓oif_f, ↓E_isPlace_y, ↓E_isPlace_n, ↓E_isNumber_y, ↓E_isNumber_n, ↓M_isPlace_y, ↓M_isPlace_n, ↓M_isNumber_y, ↓M_isNumber_n, ↓M_in_y, ↓M_in_n, ↓us_ne, h25, ux]
        exact y1
      · rw [if_neg w] at y1
        simp (disch := omega) only [↓jn_e, ↓ite_y, ↓ite_n, ↓oadd_eq, ↓osub_eq, ↓omul_eq, ↓odiv_eq, ↓orem_eq, ↓rd_eq, ↓wr_eq, ↓gf_e, ↓pf_e, ↓bnd_e, ↓bndp_e, ↓opure_e, ↓oif_t, ↓oif_f, ↓E_isPlace_y, ↓E_isPlace_n, ↓E_isNumber_y, ↓E_isNumber_n, ↓M_isPlace_y, ↓M_isPlace_n, ↓M_isNumber_y, ↓M_isNumber_n, ↓M_in_y, ↓M_in_n, ↓us_ne, h25, ux]
        exact y1
    · rw [if_neg (by omega)] at cs9
      obtain ⟨c2, a2, b2, y1, y2⟩ := ih m1 c a b (x + 1) (by omega) (by omega) (by omega) c0 (by omega) a0 (by omega) (hN9.no h0 q) (by omega)
      refine ⟨c2, a2, b2, ?_, y2⟩
      unfold E_finds_L50
      simp (disch := omega) only [↓jn_e, ↓ite_y, ↓ite_n, ↓oadd_eq, ↓osub_eq, ↓omul_eq, ↓odiv_eq, ↓orem_eq, ↓rd_eq, ↓wr_eq, ↓gf_e, ↓pf_e, ↓bnd_e, ↓bndp_e, ↓opure_e, ↓oif_t, ↓oif_f, ↓E_isPlace_y, ↓E_isPlace_n, ↓E_isNumber_y, ↓E_isNumber_n, ↓M_isPlace_y, ↓M_isPlace_n, ↓M_isNumber_y, ↓M_isNumber_n, ↓M_in_y, ↓M_in_n, ↓us_ne, h25, ux]
      exact y1
theorem findsM_loop {K2 : Int → Int → Option (Int × St)} {i N v a : Int} (hi : 0 ≤ i ∧ i < 6) (hN : 0 ≤ N ∧ N ≤ 255) {τ : St} (h3 : τ 3 i = N) : ∀ (r m2 : Nat) (c b x : Int), x + r = N → a ≤ x → 0 ≤ a → r < m2 → 0 ≤ c → c ≤ x → c = x - cn (fun z => τ 1 (256 * i + z) - v) x.toNat → ((x = a ∧ b = a) ∨ (a ≤ b ∧ b < x ∧ τ 1 (256 * i + b) = v ∧ ∀ z, b < z → z < x → τ 1 (256 * i + z) ≠ v)) → (x = a → τ 1 (256 * i + a) = v) → a < N →
    ∃ b2, M_finds_L52 K2 τ i v m2 c b x = K2 (N - cn (fun z => τ 1 (256 * i + z) - v) N.toNat) b2 ∧ (a ≤ b2 ∧ b2 < N ∧ τ 1 (256 * i + b2) = v ∧ ∀ z, b2 < z → z < N → τ 1 (256 * i + z) ≠ v) := by
  intro r
  induction r with
  | zero =>
    intro m2 c b x h1 h0 ha h2 c0 cx hc hb hva haN
    cases m2 with
    | zero => omega
    | succ m2 =>
    have e : x = N := by omega
    rw [e] at hc hb
    rcases hb with hb | hb
    · omega
    · refine ⟨b, ?_, hb⟩
      unfold M_finds_L52
      rw [rd_eq (by omega), h3, if_neg (by omega), hc]
  | succ r ih =>
    intro m2 c b x h1 h0 ha h2 c0 cx hc hb hva haN
    cases m2 with
    | zero => omega
    | succ m2 =>
    have nM : M_number τ i x = some (τ 1 (256 * i + x)) := M_number_eq (by omega) (by omega)
    have cs9 := cn_step (fun z => τ 1 (256 * i + z) - v) (x := x) (by omega)
    by_cases q : τ 1 (256 * i + x) = v
    · rw [if_pos (by omega)] at cs9
      obtain ⟨b2, y1, y2⟩ := ih m2 (c + 1) x (x + 1) (by omega) (by omega) ha (by omega) (by omega) (by omega) (by omega) (Or.inr ⟨h0, by omega, q, fun z z0 z1 => by omega⟩) (fun e => by omega) haN
      refine ⟨b2, ?_, y2⟩
      conv => lhs; unfold M_finds_L52
      simp (disch := omega) only [↓jn_e, ↓ite_y, ↓ite_n, ↓oadd_eq, ↓osub_eq, ↓omul_eq, ↓odiv_eq, ↓orem_eq, ↓rd_eq, ↓wr_eq, ↓gf_e, ↓pf_e, ↓bnd_e, ↓bndp_e, ↓opure_e, ↓oif_t, ↓oif_f, ↓E_isPlace_y, ↓E_isPlace_n, ↓E_isNumber_y, ↓E_isNumber_n, ↓M_isPlace_y, ↓M_isPlace_n, ↓M_isNumber_y, ↓M_isNumber_n, ↓M_in_y, ↓M_in_n, ↓us_ne, h3, ↓nM]
      exact y1
    · rw [if_neg (by omega)] at cs9
      have hxa : x ≠ a := fun e => q (by rw [e]; exact hva e)
      rcases hb with hb | ⟨b0, b1, b2, b3⟩
      · exact absurd hb.1 hxa
      · obtain ⟨b9, y1, y2⟩ := ih m2 c b (x + 1) (by omega) (by omega) ha (by omega) c0 (by omega) (by omega) (Or.inr ⟨b0, by omega, b2, fun z z0 z1 => by
          by_cases e : z = x
          · rw [e]; exact q
          · exact b3 z z0 (by omega)⟩) (fun e => by omega) haN
        refine ⟨b9, ?_, y2⟩
        conv => lhs; unfold M_finds_L52
        simp (disch := omega) only [↓jn_e, ↓ite_y, ↓ite_n, ↓oadd_eq, ↓osub_eq, ↓omul_eq, ↓odiv_eq, ↓orem_eq, ↓rd_eq, ↓wr_eq, ↓gf_e, ↓pf_e, ↓bnd_e, ↓bndp_e, ↓opure_e, ↓oif_t, ↓oif_f, ↓E_isPlace_y, ↓E_isPlace_n, ↓E_isNumber_y, ↓E_isNumber_n, ↓M_isPlace_y, ↓M_isPlace_n, ↓M_isNumber_y, ↓M_isNumber_n, ↓M_in_y, ↓M_in_n, ↓us_ne, h3, ↓nM]
        exact y1
theorem cn_none {f : Int → Int} {n : Int} (hn : 0 ≤ n) (h : ∀ z, 0 ≤ z → z < n → ¬ f z = 0) : cn f n.toNat = n := by
  rw [cn_all _ (fun x a b => h x a (by omega))]; omega
theorem call_finds : HS_36 SS := by
  intro k σ τ z0 z1 hk hS i0 i1
  have hS0 := hS
  obtain ⟨⟨ρ, hW⟩, hT, hr, hn, hm⟩ := hS
  unfold E_finds M_finds
  by_cases a : 0 ≤ z0 ∧ z0 < 6
  · have hP := hW.2.2 z0 a.1 a.2
    have s0 := hP.2.1
    have n0 := hP.1
    by_cases b : -999 ≤ z1 ∧ z1 ≤ 999
    · obtain ⟨sa, e1, f1, c1⟩ := read_one_eq σ (σ 24 z0) (σ 25 z0) n0
      have q25 : sa 25 z0 = σ 25 z0 := by rw [f1 25 (by decide)]
      have x3 : us τ 33 0 0 3 z0 = σ 25 z0 := by rw [us_ne (by decide)]; exact s0
      obtain ⟨K1, hK1⟩ : ∃ K1 : Int → Int → Int → Option (Int × St), K1 = fun (x7 : Int) (x8 : Int) (x9 : Int) => if x7 = 0 then (some ((-2), sa)) else (bnd (Row_tell1 sa x7 x9) fun _ s12 => some (x8, s12)) := ⟨_, rfl⟩
      obtain ⟨c, p, q, y1, y2, y3, y4, y5⟩ := findsE_loop (K1 := K1) (v := z1) (u := fun z => us τ 33 0 0 1 (256 * z0 + z)) a n0 q25 (fun x w1 w2 => by rw [c1 x w1 w2, us_ne (by decide)]; exact (hP.num ⟨w1, w2⟩).1) (σ 25 z0).toNat FU 0 (-1) (-1) 0 (by omega) (by omega) (by unfold FU; omega) (by omega) (by omega) (by omega) (by omega) (Or.inl ⟨rfl, rfl, rfl, fun z z0 z1 => by omega⟩) rfl
      have eE : E_finds σ z0 z1 = K1 c p q := by
        unfold E_finds
        rw [E_isPlace_y a, bndp_eq, if_neg (by decide), E_isNumber_y b, bndp_eq, if_neg (by decide), rd_eq (by omega), rd_eq (by omega), e1, bnd_eq, ← hK1, jn_eq]
        exact y1
      have hMb : M_finds τ z0 z1 = (rd (us τ 33 0 0) 3 10 z0 fun v4 => bndp (M_firstOf (us τ 33 0 0) z0 z1 0 v4) fun v5 => if v5 = (-1) then (some ((-2), us τ 33 0 0)) else (jn (fun (x6 : Int) (x7 : Int) => pf (us τ 33 0 0) 32 0 fun s9 => bnd (M_tell s9 x6) fun _ s11 => bnd (M_tell s11 x7) fun _ s13 => some (v5, s13)) fun k8 => M_finds_L52 k8 (us τ 33 0 0) z0 z1 FU 0 v5 v5)) := by
        unfold M_finds
        rw [pf_eq, M_isPlace_y a, bndp_eq, if_neg (by decide), M_isNumber_y b, bndp_eq, if_neg (by decide)]
      rcases y2 with ⟨h1, h2, h3, h4⟩ | ⟨h1, h2, h3, h4, h5, h6, h7⟩
      · have fo : M_firstOf (us τ 33 0 0) z0 z1 0 (σ 25 z0) = some (-1) := firstOf_none a n0 (σ 25 z0).toNat FU 0 (by omega) (by omega) (by unfold FU; omega) h4
        refine ⟨-2, sa, us τ 33 0 0, ?_, ?_, hS0.asq (f1.mono (by decide)) (fr_sc _ _ _ _ (by decide)) (Rws.fr (fr_sc [33] _ _ _ (by decide)) (by decide) (by decide) (by decide) _)⟩
        · refine eE.trans ?_
          rw [hK1]; exact if_pos h1
        · refine hMb.trans ?_
          rw [rd_eq (by omega), x3, fo, bndp_eq, if_pos rfl]
      · dsimp only at h3 h4 h6 h7
        have fo : M_firstOf (us τ 33 0 0) z0 z1 0 (σ 25 z0) = some p := firstOf_eq a n0.2 h3 (by omega) h2.1 h2.2 h4
        obtain ⟨K2, hK2⟩ : ∃ K2 : Int → Int → Option (Int × St), K2 = fun (x6 : Int) (x7 : Int) => pf (us τ 33 0 0) 32 0 fun s9 => bnd (M_tell s9 x6) fun _ s11 => bnd (M_tell s11 x7) fun _ s13 => some (p, s13) := ⟨_, rfl⟩
        have cp : cn (fun z => us τ 33 0 0 1 (256 * z0 + z) - z1) p.toNat = p := cn_none h2.1 (fun z w1 w2 => by have := h4 z w1 w2; omega)
        obtain ⟨b2, w1, w2, w3, w4, w5⟩ := findsM_loop (K2 := K2) (v := z1) (a := p) a n0 x3 (σ 25 z0 - p).toNat FU 0 p p (by omega) (by omega) h2.1 (by unfold FU; omega) (by omega) h2.1 (by omega) (Or.inl ⟨rfl, rfl⟩) (fun _ => h3) h2.2
        have eb : b2 = q := by
          rcases Int.lt_trichotomy b2 q with w | w | w
          · exact absurd h6 (w5 q w h5.2)
          · exact w
          · exact absurd w4 (h7 b2 w w3)
        rw [← y3, eb] at w1
        obtain ⟨σt, τ1, τt, t1, t2, t3, t4, t5, t6, t7, -⟩ := tells2 sa (us τ 33 0 0) (a := c) (b := q) (by omega) (by omega)
        refine ⟨p, σt, τt, ?_, ?_, hS0.ask ((f1.mono (by decide)).tr (t5.mono (by decide))) (((fr_sc [33] τ 33 0 (by decide)).mono (by decide)).tr (t7.mono (by decide))) ((Rws.fr (fr_sc [33] _ _ _ (by decide)) (by decide) (by decide) (by decide) _).tr (Rws.fr t7 (by decide) (by decide) (by decide) _)) t4⟩
        · refine eE.trans ?_
          rw [hK1]
          show (if c = 0 then _ else _) = _
          rw [if_neg (by omega), t1, bnd_eq]
        · refine hMb.trans ?_
          rw [rd_eq (by omega), x3, fo, bndp_eq, if_neg (by omega), ← hK2, jn_eq]
          refine w1.trans ?_
          rw [hK2]
          show pf _ 32 0 _ = _
          rw [pf_eq, t2, bnd_eq, t3, bnd_eq]
    · refine ⟨-1, σ, us τ 33 0 0, ?_, ?_, hS0.thr⟩
      · simp (disch := omega) only [↓jn_e, ↓ite_y, ↓ite_n, ↓oadd_eq, ↓osub_eq, ↓omul_eq, ↓odiv_eq, ↓orem_eq, ↓rd_eq, ↓wr_eq, ↓gf_e, ↓pf_e, ↓bnd_e, ↓bndp_e, ↓opure_e, ↓oif_t, ↓oif_f, ↓E_isPlace_y, ↓E_isPlace_n, ↓E_isNumber_y, ↓E_isNumber_n, ↓M_isPlace_y, ↓M_isPlace_n, ↓M_isNumber_y, ↓M_isNumber_n, ↓M_in_y, ↓M_in_n, ↓us_ne]
      · simp (disch := omega) only [↓jn_e, ↓ite_y, ↓ite_n, ↓oadd_eq, ↓osub_eq, ↓omul_eq, ↓odiv_eq, ↓orem_eq, ↓rd_eq, ↓wr_eq, ↓gf_e, ↓pf_e, ↓bnd_e, ↓bndp_e, ↓opure_e, ↓oif_t, ↓oif_f, ↓E_isPlace_y, ↓E_isPlace_n, ↓E_isNumber_y, ↓E_isNumber_n, ↓M_isPlace_y, ↓M_isPlace_n, ↓M_isNumber_y, ↓M_isNumber_n, ↓M_in_y, ↓M_in_n, ↓us_ne]
  · refine ⟨-1, σ, us τ 33 0 0, ?_, ?_, hS0.thr⟩
    · simp (disch := omega) only [↓jn_e, ↓ite_y, ↓ite_n, ↓oadd_eq, ↓osub_eq, ↓omul_eq, ↓odiv_eq, ↓orem_eq, ↓rd_eq, ↓wr_eq, ↓gf_e, ↓pf_e, ↓bnd_e, ↓bndp_e, ↓opure_e, ↓oif_t, ↓oif_f, ↓E_isPlace_y, ↓E_isPlace_n, ↓E_isNumber_y, ↓E_isNumber_n, ↓M_isPlace_y, ↓M_isPlace_n, ↓M_isNumber_y, ↓M_isNumber_n, ↓M_in_y, ↓M_in_n, ↓us_ne]
    · simp (disch := omega) only [↓jn_e, ↓ite_y, ↓ite_n, ↓oadd_eq, ↓osub_eq, ↓omul_eq, ↓odiv_eq, ↓orem_eq, ↓rd_eq, ↓wr_eq, ↓gf_e, ↓pf_e, ↓bnd_e, ↓bndp_e, ↓opure_e, ↓oif_t, ↓oif_f, ↓E_isPlace_y, ↓E_isPlace_n, ↓E_isNumber_y, ↓E_isNumber_n, ↓M_isPlace_y, ↓M_isPlace_n, ↓M_isNumber_y, ↓M_isNumber_n, ↓M_in_y, ↓M_in_n, ↓us_ne]
