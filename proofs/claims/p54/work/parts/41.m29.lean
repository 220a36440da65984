-- MATH 29: calls: adds, differs, and those that build
def hel (a : Int) : Int := imax (-999) (imin 999 a)
theorem hel_rng (a : Int) : -999 ≤ hel a ∧ hel a ≤ 999 := by
  unfold hel imax imin
  split <;> split <;> omega
theorem E_held_eq (a : Int) : E_held a = some (hel a) := rfl
theorem M_held_eq (a : Int) : M_held a = some (hel a) := rfl
theorem adds_loopE {K : St → Option (Int × St)} {l r v : Int} (hr : 0 ≤ l ∧ r ≤ 255) (hv : v ≠ 0 ∧ -999 ≤ v ∧ v ≤ 999) (σ : St) (hu : ∀ x, 0 ≤ x → x < r → -999 ≤ σ 26 x ∧ σ 26 x ≤ 999) (hz : ∀ z, 0 ≤ z → z < 255 → σ 23 z = 0) : ∀ (t m : Nat) (s : St) (x : Int), x + t = r → l ≤ x → t < m → Fr [23, 26, 44] σ s → Eb s → (∀ z, s 26 z = if l ≤ z ∧ z < x then hel (σ 26 z + v) else σ 26 z) →
      (∀ z, 0 ≤ z → z < 255 → (s 23 z = 1 ↔ ∃ y, l ≤ y ∧ y < x ∧ onW y z)) → ∃ s2, E_adds_L69 K r v m s x = K s2 ∧ Fr [23, 26, 44] σ s2 ∧ Eb s2 ∧ (∀ z, s2 26 z = if l ≤ z ∧ z < r then hel (σ 26 z + v) else σ 26 z) ∧ (∀ z, 0 ≤ z → z < 255 → (s2 23 z = 1 ↔ ∃ y, l ≤ y ∧ y < r ∧ onW y z)) := by
  intro t
  induction t with
  | zero =>
    intro m s x h1 h0 h2 hF hE h26 h23
    cases m with
    | zero => omega
    | succ m =>
    have e : x = r := by omega
    subst e
    unfold E_adds_L69
    rw [if_neg (by omega)]
    exact ⟨s, rfl, hF, hE, h26, h23⟩
  | succ t ih =>
    intro m s x h1 h0 h2 hF hE h26 h23
    cases m with
    | zero => omega
    | succ m =>
    have e26 : s 26 x = σ 26 x := by rw [h26 x, if_neg (by omega)]
    have u := hu x (by omega) (by omega)
    obtain ⟨sa, hsa⟩ : ∃ sa, sa = us s 26 x (hel (σ 26 x + v)) := ⟨_, rfl⟩
    have fa : Fr [26] s sa := by rw [hsa]; exact (Fr.rf _ _).us (by decide)
    have ea : Eb sa := by
      unfold Eb at *
      rw [fa 23 (by decide), fa 44 (by decide)]; exact hE
    obtain ⟨sb, e1, f1, b1, z1⟩ := mark_ex (i := x) (by omega) ea
    obtain ⟨s2, x1, x2⟩ := ih m sb (x + 1) (by omega) (by omega) (by omega) (hF.tr ((fa.mono (by decide)).tr (f1.mono (by decide)))) b1 (fun z => by
      rw [f1 26 (by decide), hsa]
      by_cases e : z = x
      · rw [e, us_eq, if_pos (by omega)]
      · rw [us_ni e, h26 z]
        by_cases w : l ≤ z ∧ z < x
        · rw [if_pos w, if_pos (by omega)]
        · rw [if_neg w, if_neg (by omega)]) (fun z z0 zn => by
      rw [z1 z z0 zn, fa 23 (by decide), h23 z z0 zn]
      constructor
      · rintro (⟨y, y0, y1, y2⟩ | w)
        · exact ⟨y, y0, by omega, y2⟩
        · exact ⟨x, h0, by omega, w⟩
      · rintro ⟨y, y0, y1, y2⟩
        by_cases e : y = x
        · right; rw [e] at y2; exact y2
        · exact Or.inl ⟨y, y0, by omega, y2⟩)
    refine ⟨s2, ?_, x2⟩
    unfold E_adds_L69
    rw [if_pos (by omega), if_neg hv.1, rd_eq (by omega), e26, oadd_eq (by omega), E_held_eq, bndp_eq, wr_eq (by omega), ← hsa, e1, bnd_eq, oadd_eq (by omega)]
    exact x1
theorem adds_loopM {K : St → Option (Int × St)} {l r v : Int} (hr : 0 ≤ l ∧ r ≤ 255) (hv : v ≠ 0 ∧ -999 ≤ v ∧ v ≤ 999) (τ : St) (hu : ∀ x, 0 ≤ x → x < r → -999 ≤ τ 1 (256 * 7 + x) ∧ τ 1 (256 * 7 + x) ≤ 999) (hz : ∀ z, 0 ≤ z → z < 256 → τ 7 z = 0) : ∀ (t m : Nat) (s : St) (x : Int), x + t = r → l ≤ x → t < m → Fr [1, 6, 7, 35, 36] τ s → bits01 (s 7) → (∀ q, s 1 q = if 256 * 7 + l ≤ q ∧ q < 256 * 7 + x then hel (τ 1 q + v) else τ 1 q) →
      (∀ z, 0 ≤ z → z < 256 → (s 7 z = 1 ↔ ∃ y, l ≤ y ∧ y < x ∧ onW y z)) → ∃ s2, M_adds_L56 K r v m s x = K s2 ∧ Fr [1, 6, 7, 35, 36] τ s2 ∧ bits01 (s2 7) ∧ (∀ q, s2 1 q = if 256 * 7 + l ≤ q ∧ q < 256 * 7 + r then hel (τ 1 q + v) else τ 1 q) ∧ (∀ z, 0 ≤ z → z < 256 → (s2 7 z = 1 ↔ ∃ y, l ≤ y ∧ y < r ∧ onW y z)) := by
  intro t
  induction t with
  | zero =>
    intro m s x h1 h0 h2 hF hE h26 h23
    cases m with
    | zero => omega
    | succ m =>
    have e : x = r := by omega
    subst e
    unfold M_adds_L56
    rw [if_neg (by omega)]
    exact ⟨s, rfl, hF, hE, h26, h23⟩
  | succ t ih =>
    intro m s x h1 h0 h2 hF hE h26 h23
    cases m with
    | zero => omega
    | succ m =>
    have u := hu x (by omega) (by omega)
    obtain ⟨sb, e1, f1, b1, z1⟩ := marks_ex (i := x) (it := 1) (by omega) (Or.inr rfl) s hE
    have e26 : sb 1 (256 * 7 + x) = τ 1 (256 * 7 + x) := by rw [f1 1 (by decide), h26 _, if_neg (by omega)]
    have nM : M_number sb 7 x = some (τ 1 (256 * 7 + x)) := by rw [M_number_eq (by omega) (by omega), e26]
    obtain ⟨sa, hsa⟩ : ∃ sa, sa = us sb 1 (1792 + x) (hel (τ 1 (256 * 7 + x) + v)) := ⟨_, rfl⟩
    have fa : Fr [1] sb sa := by rw [hsa]; exact (Fr.rf _ _).us (by decide)
    obtain ⟨s2, x1, x2⟩ := ih m sa (x + 1) (by omega) (by omega) (by omega) (hF.tr ((f1.mono (by decide)).tr (fa.mono (by decide)))) (by rw [fa 7 (by decide)]; exact b1) (fun q => by
      rw [hsa]
      by_cases e : q = 1792 + x
      · rw [e, us_eq, if_pos (by omega), show (256 * 7 + x : Int) = 1792 + x by omega]
      · rw [us_ni e, f1 1 (by decide), h26 q]
        by_cases w : 256 * 7 + l ≤ q ∧ q < 256 * 7 + x
        · rw [if_pos w, if_pos (by omega)]
        · rw [if_neg w, if_neg (by omega)]) (fun z z0 zn => by
      rw [fa 7 (by decide), z1 z z0 zn, h23 z z0 zn]
      constructor
      · rintro (⟨y, y0, y1, y2⟩ | w)
        · exact ⟨y, y0, by omega, y2⟩
        · exact ⟨x, h0, by omega, w.1⟩
      · rintro ⟨y, y0, y1, y2⟩
        by_cases e : y = x
        · right; rw [e] at y2; exact ⟨y2, Or.inl rfl⟩
        · exact Or.inl ⟨y, y0, by omega, y2⟩)
    refine ⟨s2, ?_, x2⟩
    unfold M_adds_L56
    rw [if_pos (by omega), if_neg hv.1, e1, bnd_eq, oadd_eq (by omega), nM, bndp_eq, oadd_eq (by omega), opure_eq, opure_eq, wr_eq (by omega)]
    have e9 : us sb 1 (1792 + x) (imax (-999) (imin 999 (τ 1 (256 * 7 + x) + v))) = sa := hsa.symm
    rw [e9, oadd_eq (by omega)]
    exact x1
theorem isSpanM_y {τ : St} {p a b : Int} (h : 0 ≤ p ∧ p < 6) (hq : 0 ≤ a ∧ a ≤ b ∧ b ≤ τ 3 p) : M_isSpan τ p a b = some 1 := by
  unfold M_isSpan
  simp (disch := omega) only [↓jn_e, ↓ite_y, ↓ite_n, ↓oadd_eq, ↓osub_eq, ↓omul_eq, ↓odiv_eq, ↓orem_eq, ↓rd_eq, ↓wr_eq, ↓gf_e, ↓pf_e, ↓bnd_e, ↓bndp_e, ↓opure_e, ↓oif_t, ↓oif_f, ↓E_isPlace_y, ↓E_isPlace_n, ↓E_isNumber_y, ↓E_isNumber_n, ↓M_isPlace_y, ↓M_isPlace_n, ↓M_isNumber_y, ↓M_isNumber_n, ↓M_in_y, ↓M_in_n, ↓us_ne]
theorem isSpanM_n {τ : St} {p a b : Int} (h : 0 ≤ p ∧ p < 6) (hq : ¬ (0 ≤ a ∧ a ≤ b ∧ b ≤ τ 3 p)) : M_isSpan τ p a b = some 0 := by
  unfold M_isSpan
  by_cases h2 : a < 0
  · simp (disch := omega) only [↓jn_e, ↓ite_y, ↓ite_n, ↓oadd_eq, ↓osub_eq, ↓omul_eq, ↓odiv_eq, ↓orem_eq, ↓rd_eq, ↓wr_eq, ↓gf_e, ↓pf_e, ↓bnd_e, ↓bndp_e, ↓opure_e, ↓oif_t, ↓oif_f, ↓E_isPlace_y, ↓E_isPlace_n, ↓E_isNumber_y, ↓E_isNumber_n, ↓M_isPlace_y, ↓M_isPlace_n, ↓M_isNumber_y, ↓M_isNumber_n, ↓M_in_y, ↓M_in_n, ↓us_ne]
  · by_cases h3 : b < a
    · simp (disch := omega) only [↓jn_e, ↓ite_y, ↓ite_n, ↓oadd_eq, ↓osub_eq, ↓omul_eq, ↓odiv_eq, ↓orem_eq, ↓rd_eq, ↓wr_eq, ↓gf_e, ↓pf_e, ↓bnd_e, ↓bndp_e, ↓opure_e, ↓oif_t, ↓oif_f, ↓E_isPlace_y, ↓E_isPlace_n, ↓E_isNumber_y, ↓E_isNumber_n, ↓M_isPlace_y, ↓M_isPlace_n, ↓M_isNumber_y, ↓M_isNumber_n, ↓M_in_y, ↓M_in_n, ↓us_ne]
    · simp (disch := omega) only [↓jn_e, ↓ite_y, ↓ite_n, ↓oadd_eq, ↓osub_eq, ↓omul_eq, ↓odiv_eq, ↓orem_eq, ↓rd_eq, ↓wr_eq, ↓gf_e, ↓pf_e, ↓bnd_e, ↓bndp_e, ↓opure_e, ↓oif_t, ↓oif_f, ↓E_isPlace_y, ↓E_isPlace_n, ↓E_isNumber_y, ↓E_isNumber_n, ↓M_isPlace_y, ↓M_isPlace_n, ↓M_isNumber_y, ↓M_isNumber_n, ↓M_in_y, ↓M_in_n, ↓us_ne]
theorem call_adds : HS_16 SS := by
  intro k σ τ z0 z1 z2 z3 z4 hk hS i0 i1 i2 i3 i4
  have hS0 := hS
  obtain ⟨⟨ρ, hW⟩, hT, hr, hn, hm⟩ := hS
  unfold E_adds M_adds
  by_cases a : 0 ≤ z0 ∧ z0 < 6
  · have hP := hW.2.2 z0 a.1 a.2
    have s0 := hP.2.1
    have n0 := hP.1
    have s1 : us τ 33 0 0 3 z0 = τ 3 z0 := us_ne (by decide)
    by_cases b : 0 ≤ z1 ∧ z1 ≤ z2 ∧ z2 ≤ σ 25 z0
    · have b1 : E_isRange σ z0 z1 z2 = some 1 := isRange_y ⟨a, b⟩
      have b2 : M_isSpan (us τ 33 0 0) z0 z1 z2 = some 1 := isSpanM_y a (by rw [s1]; omega)
      by_cases v : -999 ≤ z3 ∧ z3 ≤ 999
      · by_cases c : 0 ≤ z4 ∧ z4 < 6
        · obtain ⟨sa, e5, f5, y5, c5⟩ := waysClear_ex σ
          have h24 : sa 24 = σ 24 := f5 24 (by decide)
          have h25 : sa 25 = σ 25 := f5 25 (by decide)
          obtain ⟨sb, e6, f6, c6⟩ := read_one_eq sa (sa 24 z0) (sa 25 z0) (by rw [h25]; exact n0)
          have hu : ∀ x, 0 ≤ x → x < σ 25 z0 → sb 26 x = τ 1 (256 * z0 + x) ∧ -999 ≤ τ 1 (256 * z0 + x) ∧ τ 1 (256 * z0 + x) ≤ 999 := fun x p q => by
            have w := hP.num (x := x) ⟨p, q⟩
            rw [c6 x p (by rw [h25]; exact q), h24, sl_of (f5 8 (by decide)) (f5 9 (by decide)), nu_of (f5 7 (by decide))]
            exact w
          have yb : Eb sb := by
            unfold Eb at *
            rw [f6 23 (by decide), f6 44 (by decide)]; exact y5
          have zb : ∀ z, 0 ≤ z → z < 255 → sb 23 z = 0 := fun z p q => by rw [f6 23 (by decide)]; exact c5 z p q
          -- the loop of E
          have hE : ∀ K, ∃ sc, E_adds_L69 K z2 z3 FU sb z1 = K sc ∧ Fr [23, 26, 44] sb sc ∧ Eb sc ∧ (∀ z, sc 26 z = if z3 ≠ 0 ∧ z1 ≤ z ∧ z < z2 then hel (sb 26 z + z3) else sb 26 z) ∧ (∀ z, 0 ≤ z → z < 255 → (sc 23 z = 1 ↔ (z3 ≠ 0 ∧ ∃ y, z1 ≤ y ∧ y < z2 ∧ onW y z))) := fun K => by
            by_cases q : z3 = 0
            · refine ⟨sb, ?_, Fr.rf _ _, yb, fun z => by rw [if_neg (by omega)], fun z p0 p1 => ⟨fun w => by rw [zb z p0 p1] at w; omega, fun w => absurd q w.1⟩⟩
              show E_adds_L69 K z2 z3 (7999 + 1) sb z1 = K sb
              unfold E_adds_L69
              by_cases w : z1 < z2
              · rw [if_pos w, if_pos q]
              · rw [if_neg w]
            · obtain ⟨s9, q1, q2, q3, q4, q5⟩ := adds_loopE (K := K) (l := z1) (r := z2) (by omega) ⟨q, v⟩ sb (fun x p0 p1 => by rw [(hu x p0 (by omega)).1]; exact (hu x p0 (by omega)).2) zb (z2 - z1).toNat FU sb z1 (by omega) (by omega) (by unfold FU; omega) (Fr.rf _ _) yb (fun z => by rw [if_neg (by omega)]) (fun z p0 p1 => ⟨fun w => by rw [zb z p0 p1] at w; omega, fun ⟨y, y0, y1, _⟩ => by omega⟩)
              refine ⟨s9, q1, q2, q3, fun z => ?_, fun z p0 p1 => ?_⟩
              · rw [q4 z]
                by_cases w : z1 ≤ z ∧ z < z2
                · rw [if_pos w, if_pos ⟨q, w⟩]
                · rw [if_neg w, if_neg (fun e => w e.2)]
              · rw [q5 z p0 p1]
                exact ⟨fun w => ⟨q, w⟩, fun w => w.2⟩
          obtain ⟨sc, g1, g2, g3, g4, g5⟩ := hE (fun s9 => bnd (E_renew s9 z0 z4) fun v11 s12 => some (v11, s12))
          have fs : Fr [12, 23, 26, 44] σ sc := (f5.mono (by decide)).tr ((f6.mono (by decide)).tr (g2.mono (by decide)))
          have hS7 : SS k sc (us τ 33 0 0) := hS0.asq0 (fs.mono (by decide)) (fr_sc _ _ _ _ (by decide)) (Rws.fr (fr_sc [33] _ _ _ (by decide)) (by decide) (by decide) (by decide) _)
          obtain ⟨τ1, τ2, x1, x2, x3, x4, x5, x6, x7, x8⟩ := renew_ex hS7 hk a c
          have q25 : sc 25 z0 = σ 25 z0 := by rw [fs 25 (by decide)]
          rw [q25] at x5 x6 x7 x8
          clear x8
          obtain ⟨τa, ea, fa, za⟩ := clearsNew_ex τ2
          have ha : ∀ x, 0 ≤ x → x < σ 25 z0 → τa 1 (256 * 7 + x) = τ 1 (256 * z0 + x) := fun x p0 p1 => by
            rw [fa 1 (by decide), (x6 x p0 p1).1, us_ne (by decide)]
          have ba : bits01 (τa 7) := fun x p0 p1 => Or.inl (za x p0 p1)
          have hM : ∀ K, ∃ sd, M_adds_L56 K z2 z3 FU τa z1 = K sd ∧ Fr [1, 6, 7, 35, 36] τa sd ∧ bits01 (sd 7) ∧ (∀ q, sd 1 q = if z3 ≠ 0 ∧ 256 * 7 + z1 ≤ q ∧ q < 256 * 7 + z2 then hel (τa 1 q + z3) else τa 1 q) ∧ (∀ z, 0 ≤ z → z < 256 → (sd 7 z = 1 ↔ (z3 ≠ 0 ∧ ∃ y, z1 ≤ y ∧ y < z2 ∧ onW y z))) := fun K => by
            by_cases q : z3 = 0
            · refine ⟨τa, ?_, Fr.rf _ _, ba, fun z => by rw [if_neg (by omega)], fun z p0 p1 => ⟨fun w => by rw [za z p0 p1] at w; omega, fun w => absurd q w.1⟩⟩
              show M_adds_L56 K z2 z3 (7999 + 1) τa z1 = K τa
              unfold M_adds_L56
              by_cases w : z1 < z2
              · rw [if_pos w, if_pos q]
              · rw [if_neg w]
            · obtain ⟨s9, q1, q2, q3, q4, q5⟩ := adds_loopM (K := K) (l := z1) (r := z2) (by omega) ⟨q, v⟩ τa (fun x p0 p1 => by rw [ha x p0 (by omega)]; exact (hu x p0 (by omega)).2) za (z2 - z1).toNat FU τa z1 (by omega) (by omega) (by unfold FU; omega) (Fr.rf _ _) ba (fun z => by rw [if_neg (by omega)]) (fun z p0 p1 => ⟨fun w => by rw [za z p0 p1] at w; omega, fun ⟨y, y0, y1, _⟩ => by omega⟩)
              refine ⟨s9, q1, q2, q3, fun z => ?_, fun z p0 p1 => ?_⟩
              · rw [q4 z]
                by_cases w : 256 * 7 + z1 ≤ z ∧ z < 256 * 7 + z2
                · rw [if_pos w, if_pos ⟨q, w⟩]
                · rw [if_neg w, if_neg (fun e => w e.2)]
              · rw [q5 z p0 p1]
                exact ⟨fun w => ⟨q, w⟩, fun w => w.2⟩
          obtain ⟨sd, t1, t2, t3, t4, t5⟩ := hM (fun (s12 : St) => bnd (M_renews s12) fun _ s15 => bnd (M_ends s15 z4) fun v16 s17 => some (v16, s17))
          have hMk : Mk sc sd (σ 25 z0) := Mk.of (P := fun x => z3 ≠ 0 ∧ ∃ y, z1 ≤ y ∧ y < z2 ∧ onW y x) (Q := fun x => z3 ≠ 0 ∧ ∃ y, z1 ≤ y ∧ y < z2 ∧ onW y x) g3 (by omega) g5 t3 t5 (fun _ _ _ => Iff.rfl)
          have rc : ∀ x, 0 ≤ x → x < σ 25 z0 → sc 26 x = sd 1 (256 * 7 + x) := fun x p0 p1 => by
            rw [g4 x, t4 _, (hu x p0 p1).1, ha x p0 p1]
            by_cases w : z3 ≠ 0 ∧ z1 ≤ x ∧ x < z2
            · rw [if_pos w, if_pos ⟨w.1, by omega, by omega⟩]
            · rw [if_neg w, if_neg (fun e => w ⟨e.1, by omega, by omega⟩)]
          obtain ⟨r, σ4, τ4, τ5, y1, y2, y3, y4⟩ := x7 sd ((fa.mono (by decide)).tr t2) (fun q hq => by rw [t4 q, if_neg (by omega), fa 1 (by decide)]) hMk (fun x p0 p1 => ⟨rc x p0 p1, by
            rw [t4 _, ha x p0 p1]
            split
            · exact hel_rng _
            · exact (hu x p0 p1).2⟩) (fun x p0 p1 w => by
            rw [t4 _, if_neg, ha x p0 p1, us_ne (by decide)]
            intro e
            have := (g5 x p0 (by omega)).mpr ⟨e.1, x, by omega, by omega, onW_self (by omega)⟩
            omega)
          refine ⟨r, σ4, τ5, ?_, ?_, y4⟩
          · simp (disch := omega) only [↓jn_e, ↓ite_y, ↓ite_n, ↓oadd_eq, ↓osub_eq, ↓omul_eq, ↓odiv_eq, ↓orem_eq, ↓rd_eq, ↓wr_eq, ↓gf_e, ↓pf_e, ↓bnd_e, ↓bndp_e, ↓opure_e, ↓oif_t, ↓oif_f, ↓E_isPlace_y, ↓E_isPlace_n, ↓E_isNumber_y, ↓E_isNumber_n, ↓M_isPlace_y, ↓M_isPlace_n, ↓M_isNumber_y, ↓M_isNumber_n, ↓M_in_y, ↓M_in_n, ↓us_ne, ↓b1, ↓e5, ↓e6]
            refine g1.trans ?_
            simp (disch := omega) only [↓jn_e, ↓ite_y, ↓ite_n, ↓oadd_eq, ↓osub_eq, ↓omul_eq, ↓odiv_eq, ↓orem_eq, ↓rd_eq, ↓wr_eq, ↓gf_e, ↓pf_e, ↓bnd_e, ↓bndp_e, ↓opure_e, ↓oif_t, ↓oif_f, ↓E_isPlace_y, ↓E_isPlace_n, ↓E_isNumber_y, ↓E_isNumber_n, ↓M_isPlace_y, ↓M_isPlace_n, ↓M_isNumber_y, ↓M_isNumber_n, ↓M_in_y, ↓M_in_n, ↓us_ne, ↓y1]
          · simp (disch := omega) only [↓jn_e, ↓ite_y, ↓ite_n, ↓oadd_eq, ↓osub_eq, ↓omul_eq, ↓odiv_eq, ↓orem_eq, ↓rd_eq, ↓wr_eq, ↓gf_e, ↓pf_e, ↓bnd_e, ↓bndp_e, ↓opure_e, ↓oif_t, ↓oif_f, ↓E_isPlace_y, ↓E_isPlace_n, ↓E_isNumber_y, ↓E_isNumber_n, ↓M_isPlace_y, ↓M_isPlace_n, ↓M_isNumber_y, ↓M_isNumber_n, ↓M_in_y, ↓M_in_n, ↓us_ne, ↓b2, ↓x1, ↓x2, ↓ea]
            refine t1.trans ?_
            simp (disch := omega) only [↓jn_e, ↓ite_y, ↓ite_n, ↓oadd_eq, ↓osub_eq, ↓omul_eq, ↓odiv_eq, ↓orem_eq, ↓rd_eq, ↓wr_eq, ↓gf_e, ↓pf_e, ↓bnd_e, ↓bndp_e, ↓opure_e, ↓oif_t, ↓oif_f, ↓E_isPlace_y, ↓E_isPlace_n, ↓E_isNumber_y, ↓E_isNumber_n, ↓M_isPlace_y, ↓M_isPlace_n, ↓M_isNumber_y, ↓M_isNumber_n, ↓M_in_y, ↓M_in_n, ↓us_ne, ↓y2, ↓y3]
        · refine ⟨-1, σ, us τ 33 0 0, ?_, ?_, hS0.thr⟩
          · simp (disch := omega) only [↓jn_e, ↓ite_y, ↓ite_n, ↓oadd_eq, ↓osub_eq, ↓omul_eq, ↓odiv_eq, ↓orem_eq, ↓rd_eq, ↓wr_eq, ↓gf_e, ↓pf_e, ↓bnd_e, ↓bndp_e, ↓opure_e, ↓oif_t, ↓oif_f, ↓E_isPlace_y, ↓E_isPlace_n, ↓E_isNumber_y, ↓E_isNumber_n, ↓M_isPlace_y, ↓M_isPlace_n, ↓M_isNumber_y, ↓M_isNumber_n, ↓M_in_y, ↓M_in_n, ↓us_ne, ↓b1]
          · simp (disch := omega) only [↓jn_e, ↓ite_y, ↓ite_n, ↓oadd_eq, ↓osub_eq, ↓omul_eq, ↓odiv_eq, ↓orem_eq, ↓rd_eq, ↓wr_eq, ↓gf_e, ↓pf_e, ↓bnd_e, ↓bndp_e, ↓opure_e, ↓oif_t, ↓oif_f, ↓E_isPlace_y, ↓E_isPlace_n, ↓E_isNumber_y, ↓E_isNumber_n, ↓M_isPlace_y, ↓M_isPlace_n, ↓M_isNumber_y, ↓M_isNumber_n, ↓M_in_y, ↓M_in_n, ↓us_ne, ↓b2]
      · refine ⟨-1, σ, us τ 33 0 0, ?_, ?_, hS0.thr⟩
        · by_cases q : z3 < -999
          · simp (disch := omega) only [↓jn_e, ↓ite_y, ↓ite_n, ↓oadd_eq, ↓osub_eq, ↓omul_eq, ↓odiv_eq, ↓orem_eq, ↓rd_eq, ↓wr_eq, ↓gf_e, ↓pf_e, ↓bnd_e, ↓bndp_e, ↓opure_e, ↓oif_t, ↓oif_f, ↓E_isPlace_y, ↓E_isPlace_n, ↓E_isNumber_y, ↓E_isNumber_n, ↓M_isPlace_y, ↓M_isPlace_n, ↓M_isNumber_y, ↓M_isNumber_n, ↓M_in_y, ↓M_in_n, ↓us_ne, ↓b1]
          · simp (disch := omega) only [↓jn_e, ↓ite_y, ↓ite_n, ↓oadd_eq, ↓osub_eq, ↓omul_eq, ↓odiv_eq, ↓orem_eq, ↓rd_eq, ↓wr_eq, ↓gf_e, ↓pf_e, ↓bnd_e, ↓bndp_e, ↓opure_e, ↓oif_t, ↓oif_f, ↓E_isPlace_y, ↓E_isPlace_n, ↓E_isNumber_y, ↓E_isNumber_n, ↓M_isPlace_y, ↓M_isPlace_n, ↓M_isNumber_y, ↓M_isNumber_n, ↓M_in_y, ↓M_in_n, ↓us_ne, ↓b1]
        · simp (disch := omega) only [↓jn_e, ↓ite_y, ↓ite_n, ↓oadd_eq, ↓osub_eq, ↓omul_eq, ↓odiv_eq, ↓orem_eq, ↓rd_eq, ↓wr_eq, ↓gf_e, ↓pf_e, ↓bnd_e, ↓bndp_e, ↓opure_e, ↓oif_t, ↓oif_f, ↓E_isPlace_y, ↓E_isPlace_n, ↓E_isNumber_y, ↓E_isNumber_n, ↓M_isPlace_y, ↓M_isPlace_n, ↓M_isNumber_y, ↓M_isNumber_n, ↓M_in_y, ↓M_in_n, ↓us_ne, ↓b2]
    · have b1 : E_isRange σ z0 z1 z2 = some 0 := isRange_n (fun q => b q.2)
      have b2 : M_isSpan (us τ 33 0 0) z0 z1 z2 = some 0 := isSpanM_n a (by rw [s1, s0]; exact b)
      refine ⟨-1, σ, us τ 33 0 0, ?_, ?_, hS0.thr⟩
      · simp (disch := omega) only [↓jn_e, ↓ite_y, ↓ite_n, ↓oadd_eq, ↓osub_eq, ↓omul_eq, ↓odiv_eq, ↓orem_eq, ↓rd_eq, ↓wr_eq, ↓gf_e, ↓pf_e, ↓bnd_e, ↓bndp_e, ↓opure_e, ↓oif_t, ↓oif_f, ↓E_isPlace_y, ↓E_isPlace_n, ↓E_isNumber_y, ↓E_isNumber_n, ↓M_isPlace_y, ↓M_isPlace_n, ↓M_isNumber_y, ↓M_isNumber_n, ↓M_in_y, ↓M_in_n, ↓us_ne, ↓b1]
      · simp (disch := omega) only [↓jn_e, ↓ite_y, ↓ite_n, ↓oadd_eq, ↓osub_eq, ↓omul_eq, ↓odiv_eq, ↓orem_eq, ↓rd_eq, ↓wr_eq, ↓gf_e, ↓pf_e, ↓bnd_e, ↓bndp_e, ↓opure_e, ↓oif_t, ↓oif_f, ↓E_isPlace_y, ↓E_isPlace_n, ↓E_isNumber_y, ↓E_isNumber_n, ↓M_isPlace_y, ↓M_isPlace_n, ↓M_isNumber_y, ↓M_isNumber_n, ↓M_in_y, ↓M_in_n, ↓us_ne, ↓b2]
  · have b1 : E_isRange σ z0 z1 z2 = some 0 := isRange_n (fun q => a q.1)
    refine ⟨-1, σ, us τ 33 0 0, ?_, ?_, hS0.thr⟩
    · simp (disch := omega) only [↓jn_e, ↓ite_y, ↓ite_n, ↓oadd_eq, ↓osub_eq, ↓omul_eq, ↓odiv_eq, ↓orem_eq, ↓rd_eq, ↓wr_eq, ↓gf_e, ↓pf_e, ↓bnd_e, ↓bndp_e, ↓opure_e, ↓oif_t, ↓oif_f, ↓E_isPlace_y, ↓E_isPlace_n, ↓E_isNumber_y, ↓E_isNumber_n, ↓M_isPlace_y, ↓M_isPlace_n, ↓M_isNumber_y, ↓M_isNumber_n, ↓M_in_y, ↓M_in_n, ↓us_ne, ↓b1]
    · simp (disch := omega) only [↓jn_e, ↓ite_y, ↓ite_n, ↓oadd_eq, ↓osub_eq, ↓omul_eq, ↓odiv_eq, ↓orem_eq, ↓rd_eq, ↓wr_eq, ↓gf_e, ↓pf_e, ↓bnd_e, ↓bndp_e, ↓opure_e, ↓oif_t, ↓oif_f, ↓E_isPlace_y, ↓E_isPlace_n, ↓E_isNumber_y, ↓E_isNumber_n, ↓M_isPlace_y, ↓M_isPlace_n, ↓M_isNumber_y, ↓M_isNumber_n, ↓M_in_y, ↓M_in_n, ↓us_ne]
