-- P54, 7: what is asked
/-- the rows of the places are as before -/
def Rq (τ τ' : St) : Prop := ∀ p, 0 ≤ p → p < 6 → τ' 3 p = τ 3 p ∧ ∀ x, 0 ≤ x → x < 256 → τ' 1 (256 * p + x) = τ 1 (256 * p + x)
theorem Rq.fr {l : List Nat} {τ τ' : St} (h : Fr l τ τ') (h1 : 1 ∉ l) (h3 : 3 ∉ l) : Rq τ τ' := fun p _ _ => ⟨by rw [h 3 h3], fun x _ _ => by rw [h 1 h1]⟩
theorem Rq.tr {τ τ1 τ2 : St} (h : Rq τ τ1) (k : Rq τ1 τ2) : Rq τ τ2 := fun p p0 p6 => ⟨(k p p0 p6).1.trans (h p p0 p6).1, fun x x0 xn => ((k p p0 p6).2 x x0 xn).trans ((h p p0 p6).2 x x0 xn)⟩
theorem Rq.rf (τ : St) : Rq τ τ := fun _ _ _ => ⟨rfl, fun _ _ _ => rfl⟩
theorem rd_i {α : Type} {σ : St} {f : Nat} {n i : Int} {k : Int → Option α} {x : α} (h : rd σ f n i k = some x) : (0 ≤ i ∧ i < n) ∧ k (σ f i) = some x := ck_s h
theorem oadd_i {α : Type} {a b : Int} {k : Int → Option α} {x : α} (h : oadd a b k = some x) : k (a + b) = some x := (ck_s h).2
theorem tell_i {s t : St} {v x : Int} (h : M_tell s v = some (x, t)) : Fr [5, 32] s t ∧ t 32 0 = s 32 0 + 1 ∧ t 5 (s 32 0) = v ∧ ∀ j, j ≠ s 32 0 → t 5 j = s 5 j := by
  unfold M_tell at h
  rw [gf_eq] at h
  obtain ⟨h1, h⟩ := ck_s h
  dsimp only at h
  rw [gf_eq] at h
  have h := oadd_i h
  rw [pf_eq] at h
  cases h
  refine ⟨((Fr.rf _ _).us (by decide)).us (by decide), ?_, ?_, fun j hj => ?_⟩
  · rw [us_eq, us_ne (by decide)]
  · rw [us_ne (by decide), us_eq]
  · rw [us_ne (by decide), us_ni hj]
theorem get_q {k : Nat} {σ τ : St} (hS : SS k σ τ) {l x : Int} (hl : 0 ≤ l ∧ l < 6) (hx : 0 ≤ x ∧ x < τ 3 l) : E_get σ l x = some (τ 1 (256 * l + x)) := by
  obtain ⟨⟨ρ, hW⟩, hT, hr, hn, hm⟩ := hS
  have hP := hW.2.2 l hl.1 hl.2
  have s0 := hP.2.1
  have n0 := hP.1
  have b : 0 ≤ x ∧ x < σ 25 l := by omega
  have b1 : E_isIndex σ l x = some 1 := isIndexE_y ⟨hl, b⟩
  have e1 : Pool_numberAt σ (σ 24 l) x = some (τ 1 (256 * l + x)) := by rw [numberAt_eq σ _ (by omega), (hP.num b).1]
  unfold E_get
  simp (disch := omega) only [↓jn_e, ↓ite_y, ↓ite_n, ↓oadd_eq, ↓osub_eq, ↓omul_eq, ↓odiv_eq, ↓orem_eq, ↓rd_eq, ↓wr_eq, ↓gf_e, ↓pf_e, ↓bnd_e, ↓bndp_e, ↓opure_e, ↓oif_t, ↓oif_f, ↓E_isPlace_y, ↓E_isPlace_n, ↓E_isNumber_y, ↓E_isNumber_n, ↓M_isPlace_y, ↓M_isPlace_n, ↓M_isNumber_y, ↓M_isNumber_n, ↓M_in_y, ↓M_in_n, ↓us_ne, ↓b1, ↓e1]
theorem get_out {k : Nat} {σ τ : St} (hS : SS k σ τ) {l : Int} (hl : 0 ≤ l ∧ l < 6) : E_get σ l (τ 3 l) = some (-1000) := by
  obtain ⟨⟨ρ, hW⟩, hT, hr, hn, hm⟩ := hS
  have hP := hW.2.2 l hl.1 hl.2
  have s0 := hP.2.1
  have b1 : E_isIndex σ l (τ 3 l) = some 0 := isIndexE_n (fun q => by have := q.2; omega)
  unfold E_get
  simp (disch := omega) only [↓jn_e, ↓ite_y, ↓ite_n, ↓oadd_eq, ↓osub_eq, ↓omul_eq, ↓odiv_eq, ↓orem_eq, ↓rd_eq, ↓wr_eq, ↓gf_e, ↓pf_e, ↓bnd_e, ↓bndp_e, ↓opure_e, ↓oif_t, ↓oif_f, ↓E_isPlace_y, ↓E_isPlace_n, ↓E_isNumber_y, ↓E_isNumber_n, ↓M_isPlace_y, ↓M_isPlace_n, ↓M_isNumber_y, ↓M_isNumber_n, ↓M_in_y, ↓M_in_n, ↓us_ne, ↓b1]
theorem count_q (σ : St) : E_count σ 1 = some (σ 32 0) := by
  unfold E_count
  simp (disch := omega) only [↓jn_e, ↓ite_y, ↓ite_n, ↓oadd_eq, ↓osub_eq, ↓omul_eq, ↓odiv_eq, ↓orem_eq, ↓rd_eq, ↓wr_eq, ↓gf_e, ↓pf_e, ↓bnd_e, ↓bndp_e, ↓opure_e, ↓oif_t, ↓oif_f, ↓E_isPlace_y, ↓E_isPlace_n, ↓E_isNumber_y, ↓E_isNumber_n, ↓M_isPlace_y, ↓M_isPlace_n, ↓M_isNumber_y, ↓M_isNumber_n, ↓M_in_y, ↓M_in_n, ↓us_ne]
theorem made_q {k : Nat} {σ τ : St} (hS : SS k σ τ) : σ 32 0 = τ 30 0 := hS.2.2.2.2.1
/-- what was told stands in the row -/
theorem row_q {k : Nat} {σ τ : St} (hS : SS k σ τ) {j : Int} (hj : 0 ≤ j ∧ j < τ 32 0) : E_row σ j = some (τ 5 j) := by
  obtain ⟨-, -, hr, -, -⟩ := hS
  obtain ⟨r1, r2, r3⟩ := hr
  unfold E_row
  rw [jn_eq, if_neg (by omega), gf_eq, if_pos (by omega), rd_eq (by omega), r3 j hj.1 (by omega)]
theorem size_q {k : Nat} {σ τ : St} (hk : k < 512) (hS : SS k σ τ) {i : Int} (hi : 0 ≤ i ∧ i < 6) (ii : in32 i) : ∃ σ1 τ1, E_size σ i = some (τ 3 i, σ1) ∧ SS (k + 1) σ1 τ1 ∧ Rq τ τ1 := by
  obtain ⟨r, σ1, τ1, e1, e2, e3⟩ := call_size k σ τ i hk hS ii
  have n0 := ((hS.ok hk).2 i hi.1 hi.2).1
  unfold M_size at e2
  rw [pf_eq, M_isPlace_y hi, bndp_eq, if_neg (by decide), pf_eq] at e2
  obtain ⟨-, e2⟩ := rd_i e2
  rw [us_ne (by decide), us_ne (by decide)] at e2
  have c1 := counts_eq 12 (us (us τ 33 0 0) 41 0 0) (τ 3 i) n0.1 (by rw [p2_12]; omega) n0.2 (by omega) (by rw [us_eq]; omega)
  rw [RD_eq, c1, bnd_eq, pf_eq, gf_eq] at e2
  obtain ⟨ta, h5, h6⟩ : ∃ ta, ta = us (us (us (us τ 33 0 0) 41 0 0) 41 0 (us (us τ 33 0 0) 41 0 0 41 0 + cs 12 (τ 3 i))) 32 0 0 ∧ Fr [32, 33, 41] τ ta := ⟨_, rfl, ((((Fr.rf _ _).us (by decide)).us (by decide)).us (by decide)).us (by decide)⟩
  rw [← h5] at e2
  obtain ⟨q1, t1, e4, e2⟩ := bnd_s e2
  have f1 := (tell_i e4).1
  obtain ⟨-, e2⟩ := rd_i e2
  obtain ⟨q2, e5, e2⟩ := bndp_s e2
  obtain ⟨q3, t2, e6, e2⟩ := bnd_s e2
  have f2 := (tell_i e6).1
  obtain ⟨-, e2⟩ := rd_i e2
  have fa : Fr [5, 32, 33, 41] τ t2 := (h6.mono (by decide)).tr ((f1.mono (by decide)).tr (f2.mono (by decide)))
  rw [fa 3 (by decide)] at e2
  cases e2
  exact ⟨σ1, τ1, e1, e3, Rq.fr fa (by decide) (by decide)⟩
theorem heap_q {k : Nat} {σ τ : St} (hk : k < 512) (hS : SS k σ τ) {i : Int} (hi : 0 ≤ i ∧ i < 6) (ii : in32 i) (hH : HP (fun x => τ 1 (256 * i + x)) (τ 3 i)) : ∃ σ1 τ1, E_heap σ i = some (1, σ1) ∧ SS (k + 1) σ1 τ1 ∧ Rq τ τ1 ∧ τ1 30 0 = τ 30 0 := by
  obtain ⟨r, σ1, τ1, e1, e2, e3⟩ := call_heap k σ τ i hk hS ii
  have n0 := ((hS.ok hk).2 i hi.1 hi.2).1
  unfold M_heap at e2
  rw [pf_eq, M_isPlace_y hi, bndp_eq, if_neg (by decide), rd_eq (by omega), us_ne (by decide), osub_eq (by omega), jn_eq] at e2
  obtain ⟨w, t2, x1, x2, x3⟩ := heapM_loop (K := fun (s5 : St) (x6 : Int) => pf s5 32 0 fun s8 => bnd (M_tell s8 x6) fun _ s10 => oif (x6 = (-1)) inferInstance 1 0 fun v11 => some (v11, s10)) (τ := us τ 33 0 0) (N := τ 3 i) (u := fun z => τ 1 (256 * i + z)) hi n0 (fun x p q => by rw [us_ne (by decide)]) (τ 3 i).toNat FU (us τ 33 0 0) (-1) (τ 3 i - 1) (by omega) (by omega) (by unfold FU; omega) (Fr.rf _ _) (Or.inl ⟨rfl, fun z p q r => by omega⟩)
  rw [x1] at e2
  have w1 : w = -1 := by
    rcases x3 with ⟨a, -⟩ | ⟨a1, a2, a3, -⟩
    · exact a
    · have := hH w (by omega) a2
      exact absurd a3 (Int.not_lt.mpr this)
  subst w1
  rw [pf_eq] at e2
  obtain ⟨q1, t3, e4, e2⟩ := bnd_s e2
  have f1 := (tell_i e4).1
  rw [oif_t rfl (by decide)] at e2
  cases e2
  have fa : Fr [5, 6, 32, 33, 35, 36] τ τ1 := (((Fr.rf _ τ).us (f := 33) (by decide)).tr (x2.mono (by decide))).tr ((((Fr.rf _ t2).us (f := 32) (by decide))).tr (f1.mono (by decide)))
  exact ⟨σ1, τ1, e1, e3, Rq.fr fa (by decide) (by decide), by rw [fa 30 (by decide)]⟩
theorem sumM_i {K : Int → Int → Int → Option (Int × St)} {s : St} {i b : Int} (hi : 0 ≤ i ∧ i < 6) (hb : b ≤ 255) {X : Int × St} : ∀ (m : Nat) (a l h x : Int), 0 ≤ x → x ≤ b → M_sum_L42 K s i b m a l h x = some X → ∃ l' h', K (a + (sm (fun z => s 1 (256 * i + z)) b.toNat - sm (fun z => s 1 (256 * i + z)) x.toNat)) l' h' = some X := by
  intro m
  induction m with
  | zero => intro a l h x _ _ e; cases e
  | succ m ih =>
    intro a l h x x0 xb e
    unfold M_sum_L42 at e
    by_cases c : x < b
    · have hn : M_number s i x = some (s 1 (256 * i + x)) := M_number_eq (by omega) (by omega)
      rw [if_pos c, hn, bndp_eq] at e
      have e := oadd_i e
      rw [bndp_eq, opure_eq, bndp_eq, opure_eq] at e
      have e := oadd_i e
      obtain ⟨l', h', g⟩ := ih _ _ _ _ (by omega) (by omega) e
      have st := sm_step (fun z => s 1 (256 * i + z)) x0
      refine ⟨l', h', ?_⟩
      rw [st] at g
      rw [← g]
      congr 1
      show _ = a + s 1 (256 * i + x) + _
      omega
    · rw [if_neg c] at e
      refine ⟨l, h, ?_⟩
      rw [show x = b by omega]
      rw [show a + (sm (fun z => s 1 (256 * i + z)) b.toNat - sm (fun z => s 1 (256 * i + z)) b.toNat) = a by omega]
      exact e
theorem sum_q {k : Nat} {σ τ : St} (hk : k < 512) (hS : SS k σ τ) {i a b : Int} (hi : 0 ≤ i ∧ i < 6) (ii : in32 i) (hab : 0 ≤ a ∧ a ≤ b ∧ b ≤ τ 3 i) : ∃ σ1 τ1, E_sum σ i a b = some (sm (fun z => τ 1 (256 * i + z)) b.toNat - sm (fun z => τ 1 (256 * i + z)) a.toNat, σ1) ∧ SS (k + 1) σ1 τ1 ∧ Rq τ τ1 ∧ τ1 30 0 = τ 30 0 := by
  have n0 := ((hS.ok hk).2 i hi.1 hi.2).1
  obtain ⟨r, σ1, τ1, e1, e2, e3⟩ := call_sum k σ τ i a b hk hS ii (by omega) (by omega)
  unfold M_sum at e2
  have b2 : M_isSpan (us τ 33 0 0) i a b = some 1 := isSpanM_y hi (by rw [us_ne (by decide)]; omega)
  rw [pf_eq, M_isPlace_y hi, bndp_eq, jn_eq, if_neg (by decide), b2, bndp_eq, if_neg (by decide), jn_eq] at e2
  obtain ⟨l', h', e2⟩ := sumM_i hi (by omega) FU 0 999 (-999) a hab.1 hab.2.1 e2
  rw [us_f (by decide), Int.zero_add] at e2
  rw [pf_eq] at e2
  have f0 : Fr [5, 32, 33] τ (us (us τ 33 0 0) 32 0 0) := ((Fr.rf _ _).us (by decide)).us (by decide)
  by_cases c : a < b
  · rw [if_pos c] at e2
    obtain ⟨q1, t1, g1, e2⟩ := bnd_s e2
    obtain ⟨q2, t2, g2, e2⟩ := bnd_s e2
    obtain ⟨q3, g3, e2⟩ := bndp_s e2
    obtain ⟨q4, t4, g4, e2⟩ := bnd_s e2
    obtain ⟨q5, g5, e2⟩ := bndp_s e2
    obtain ⟨q6, t6, g6, e2⟩ := bnd_s e2
    have fa : Fr [5, 32, 33] τ t6 := f0.tr (((tell_i g1).1.mono (by decide)).tr (((tell_i g2).1.mono (by decide)).tr (((tell_i g4).1.mono (by decide)).tr ((tell_i g6).1.mono (by decide)))))
    cases e2
    exact ⟨σ1, τ1, e1, e3, Rq.fr fa (by decide) (by decide), by rw [fa 30 (by decide)]⟩
  · rw [if_neg c] at e2
    cases e2
    exact ⟨σ1, _, e1, e3, Rq.fr f0 (by decide) (by decide), by rw [f0 30 (by decide)]⟩
theorem ownM_i {K : Int → Int → Option (Int × St)} {s : St} {p : Int} {X : Int × St} : ∀ (m : Nat) (a b x : Int), 0 ≤ x → M_own_L21 K s p m a b x = some X → ∃ a' b', K a' b' = some X ∧ (x ≤ s 3 p → a' ≤ a + (s 3 p - x)) := by
  intro m
  induction m with
  | zero => intro a b x _ e; cases e
  | succ m ih =>
    intro a b x x0 e
    unfold M_own_L21 at e
    obtain ⟨-, e⟩ := rd_i e
    by_cases c : x < s 3 p
    · rw [if_pos c] at e
      obtain ⟨v, -, e⟩ := bndp_s e
      rw [jn_eq] at e
      by_cases v0 : v = 0
      · rw [if_pos v0] at e
        have e := oadd_i e
        obtain ⟨a', b', g1, g2⟩ := ih _ _ _ (by omega) e
        exact ⟨a', b', g1, fun h => by have := g2 (by omega); omega⟩
      · rw [if_neg v0] at e
        have e := oadd_i e
        obtain ⟨v1, -, e⟩ := bndp_s e
        obtain ⟨v2, -, e⟩ := bndp_s e
        obtain ⟨v3, -, -, e⟩ := oif_s e
        have e := oadd_i e
        have e := oadd_i e
        obtain ⟨a', b', g1, g2⟩ := ih _ _ _ (by omega) e
        exact ⟨a', b', g1, fun h => by have := g2 (by omega); omega⟩
    · rw [if_neg c] at e
      exact ⟨a, b, e, fun h => by omega⟩
theorem own_q {k : Nat} {σ τ : St} (hk : k < 512) (hS : SS k σ τ) {i : Int} (hi : 0 ≤ i ∧ i < 6) (ii : in32 i) : ∃ r σ1 τ1, E_own σ i = some (r, σ1) ∧ SS (k + 1) σ1 τ1 ∧ Rq τ τ1 ∧ r ≤ τ 3 i := by
  have n0 := ((hS.ok hk).2 i hi.1 hi.2).1
  obtain ⟨r, σ1, τ1, e1, e2, e3⟩ := call_own k σ τ i hk hS ii
  unfold M_own at e2
  rw [pf_eq, M_isPlace_y hi, bndp_eq, if_neg (by decide), jn_eq] at e2
  obtain ⟨a', b', e2, le⟩ := ownM_i FU 0 0 0 (by omega) e2
  rw [us_ne (by decide)] at le
  rw [pf_eq] at e2
  obtain ⟨q1, t1, g1, e2⟩ := bnd_s e2
  have fa : Fr [5, 32, 33] τ t1 := (((Fr.rf _ τ).us (f := 33) (by decide)).us (f := 32) (by decide)).tr ((tell_i g1).1.mono (by decide))
  cases e2
  exact ⟨r, σ1, τ1, e1, e3, Rq.fr fa (by decide) (by decide), by have := le n0.1; omega⟩
theorem nodesI_i {K : Int → Int → Option (Int × St)} {s : St} {p : Int} {X : Int × St} : ∀ (m : Nat) (a b x : Int), 0 ≤ x → M_nodes_L34 K s p m a b x = some X → ∃ a' b', K a' b' = some X ∧ (x ≤ s 3 p → a' ≤ a + (s 3 p - x)) := by
  intro m
  induction m with
  | zero => intro a b x _ e; cases e
  | succ m ih =>
    intro a b x x0 e
    unfold M_nodes_L34 at e
    obtain ⟨-, e⟩ := rd_i e
    by_cases c : x < s 3 p
    · rw [if_pos c] at e
      obtain ⟨v, -, e⟩ := bndp_s e
      rw [jn_eq] at e
      by_cases v0 : v = 0
      · rw [if_pos v0] at e
        have e := oadd_i e
        obtain ⟨a', b', g1, g2⟩ := ih _ _ _ (by omega) e
        exact ⟨a', b', g1, fun h => by have := g2 (by omega); omega⟩
      · rw [if_neg v0] at e
        obtain ⟨v1, -, e⟩ := bndp_s e
        obtain ⟨v2, -, e⟩ := bndp_s e
        by_cases v20 : v2 = 0
        · rw [if_pos v20] at e
          have e := oadd_i e
          obtain ⟨v3, -, e⟩ := bndp_s e
          obtain ⟨v4, -, e⟩ := bndp_s e
          obtain ⟨v5, -, -, e⟩ := oif_s e
          have e := oadd_i e
          have e := oadd_i e
          obtain ⟨a', b', g1, g2⟩ := ih _ _ _ (by omega) e
          exact ⟨a', b', g1, fun h => by have := g2 (by omega); omega⟩
        · rw [if_neg v20] at e
          have e := oadd_i e
          obtain ⟨a', b', g1, g2⟩ := ih _ _ _ (by omega) e
          exact ⟨a', b', g1, fun h => by have := g2 (by omega); omega⟩
    · rw [if_neg c] at e
      exact ⟨a, b, e, fun h => by omega⟩
theorem nodesO_i {K : Int → Int → Int → Option (Int × St)} {s : St} {X : Int × St} (hs : ∀ p, 0 ≤ p → p < 6 → 0 ≤ s 3 p) : ∀ (m : Nat) (a b c x : Int), 0 ≤ x → x ≤ 6 → a ≤ c → c = sm (s 3) x.toNat → M_nodes_L14 K s m a b c x = some X → ∃ a' b', K a' b' (sm (s 3) 6) = some X ∧ a' ≤ sm (s 3) 6 := by
  intro m
  induction m with
  | zero => intro a b c x _ _ _ _ e; cases e
  | succ m ih =>
    intro a b c x x0 x6 ac cs e
    unfold M_nodes_L14 at e
    by_cases h : x < 6
    · rw [if_pos h] at e
      obtain ⟨-, e⟩ := rd_i e
      have e := oadd_i e
      rw [jn_eq] at e
      obtain ⟨a1, b1, e, le⟩ := nodesI_i FU _ _ 0 (by omega) e
      have e := oadd_i e
      have sx := hs x x0 h
      have st := sm_step (s 3) x0
      exact ih _ _ _ _ (by omega) (by omega) (by have := le sx; omega) (by rw [st, cs]) e
    · rw [if_neg h] at e
      have : x = 6 := by omega
      subst this
      rw [cs] at e ac
      exact ⟨a, b, e, ac⟩
theorem nodes_q {k : Nat} {σ τ : St} (hk : k < 512) (hS : SS k σ τ) : ∃ r σ1 τ1, E_nodes σ = some (r, σ1) ∧ SS (k + 1) σ1 τ1 ∧ Rq τ τ1 ∧ r ≤ sm (τ 3) 6 ∧ τ1 32 0 = 2 ∧ τ1 5 1 = sm (τ 3) 6 := by
  obtain ⟨r, σ1, τ1, e1, e2, e3⟩ := call_nodes k σ τ hk hS
  unfold M_nodes at e2
  rw [pf_eq, jn_eq] at e2
  have u3 : us τ 33 0 0 3 = τ 3 := us_f (by decide)
  obtain ⟨a', b', e2, le⟩ := nodesO_i (s := us τ 33 0 0) (fun p p0 p6 => by rw [u3]; exact ((hS.ok hk).2 p p0 p6).1.1) FU 0 0 0 0 (by omega) (by omega) (by omega) rfl e2
  rw [u3] at e2 le
  rw [pf_eq] at e2
  obtain ⟨q1, t1, g1, e2⟩ := bnd_s e2
  obtain ⟨q2, t2, g2, e2⟩ := bnd_s e2
  have i1 := tell_i g1
  have i2 := tell_i g2
  rw [us_eq] at i1
  have fa : Fr [5, 32, 33] τ t2 := (((Fr.rf _ τ).us (f := 33) (by decide)).us (f := 32) (by decide)).tr ((i1.1.mono (by decide)).tr (i2.1.mono (by decide)))
  cases e2
  refine ⟨r, σ1, τ1, e1, e3, Rq.fr fa (by decide) (by decide), le, by rw [i2.2.1, i1.2.1]; rfl, ?_⟩
  have := i2.2.2.1
  rw [i1.2.1] at this
  exact this
theorem sameI_i {K : Int → Option (Int × St)} {s : St} {p v : Int} {X : Int × St} : ∀ (m : Nat) (x : Int), x ≤ v → M_same_L40 K s p p v m x = some X → K v = some X := by
  intro m
  induction m with
  | zero => intro x _ e; cases e
  | succ m ih =>
    intro x xv e
    unfold M_same_L40 at e
    by_cases c : x < v
    · rw [if_pos c] at e
      obtain ⟨v1, h1, e⟩ := bndp_s e
      obtain ⟨v2, h2, e⟩ := bndp_s e
      have e12 : v1 = v2 := Option.some.inj (h1.symm.trans h2)
      rw [if_pos e12] at e
      exact ih _ (by omega) (oadd_i e)
    · rw [if_neg c] at e
      rw [show v = x by omega]
      exact e
theorem sameO_i {K : Int → Option (Int × St)} {s : St} {p q : Int} {X : Int × St} : ∀ (m : Nat) (a x : Int), 0 ≤ x → M_same_L104 K s p q m a x = some X → ∃ a', K a' = some X ∧ (x ≤ s 3 p → a' ≤ a + (s 3 p - x)) := by
  intro m
  induction m with
  | zero => intro a x _ e; cases e
  | succ m ih =>
    intro a x x0 e
    unfold M_same_L104 at e
    obtain ⟨-, e⟩ := rd_i e
    by_cases c : x < s 3 p
    · rw [if_pos c] at e
      obtain ⟨v, -, e⟩ := bndp_s e
      rw [jn_eq, jn_eq] at e
      have go : ∀ w : Int, w ≤ 1 → (oadd a w fun v29 => oadd x 1 fun v30 => M_same_L104 K s p q m v29 v30) = some X → ∃ a', K a' = some X ∧ (x ≤ s 3 p → a' ≤ a + (s 3 p - x)) := fun w hw e => by
        have e := oadd_i (oadd_i e)
        obtain ⟨a', g1, g2⟩ := ih _ _ (by omega) e
        exact ⟨a', g1, fun h => by have := g2 (by omega); omega⟩
      by_cases v0 : v = 0
      · rw [if_pos v0] at e
        exact go 0 (by omega) e
      · rw [if_neg v0] at e
        obtain ⟨v1, -, e⟩ := bndp_s e
        obtain ⟨-, e⟩ := rd_i e
        obtain ⟨v2, -, e⟩ := bndp_s e
        by_cases v20 : v2 = 0
        · rw [if_pos v20] at e
          exact go 0 (by omega) e
        · rw [if_neg v20] at e
          exact go 1 (by omega) e
    · rw [if_neg c] at e
      exact ⟨a, e, fun h => by omega⟩
theorem same_q {k : Nat} {σ τ : St} (hk : k < 512) (hS : SS k σ τ) {i : Int} (hi : 0 ≤ i ∧ i < 6) (ii : in32 i) : ∃ σ1 τ1 w, E_same σ i i = some (1, σ1) ∧ SS (k + 1) σ1 τ1 ∧ Rq τ τ1 ∧ τ1 32 0 = 2 ∧ τ1 5 1 = w ∧ w ≤ τ 3 i := by
  have n0 := ((hS.ok hk).2 i hi.1 hi.2).1
  obtain ⟨r, σ1, τ1, e1, e2, e3⟩ := call_same k σ τ i i hk hS ii ii
  unfold M_same at e2
  have u3 : us τ 33 0 0 3 i = τ 3 i := us_ne (by decide)
  have im : imin (τ 3 i) (τ 3 i) = τ 3 i := by unfold imin; rw [if_neg (by omega)]
  rw [pf_eq, M_isPlace_y hi, bndp_eq, if_neg (by decide), bndp_eq, if_neg (by decide), rd_eq (by omega), rd_eq (by omega), u3, opure_eq, im, jn_eq] at e2
  have e2 := sameI_i FU 0 n0.1 e2
  rw [rd_eq (by omega), u3, jn_eq, jn_eq, if_pos rfl, rd_eq (by omega), u3, if_pos rfl] at e2
  dsimp only at e2
  rw [jn_eq] at e2
  obtain ⟨w, e2, le⟩ := sameO_i FU 0 0 (by omega) e2
  rw [u3] at le
  rw [pf_eq, jn_eq, if_neg (by decide)] at e2
  obtain ⟨q1, t1, g1, e2⟩ := bnd_s e2
  obtain ⟨q2, t2, g2, e2⟩ := bnd_s e2
  have i1 := tell_i g1
  have i2 := tell_i g2
  rw [us_eq] at i1
  rw [oif_f (by decide) (by decide)] at e2
  have fa : Fr [5, 32, 33] τ t2 := (((Fr.rf _ τ).us (f := 33) (by decide)).us (f := 32) (by decide)).tr ((i1.1.mono (by decide)).tr (i2.1.mono (by decide)))
  cases e2
  refine ⟨σ1, τ1, w, e1, e3, Rq.fr fa (by decide) (by decide), by rw [i2.2.1, i1.2.1]; rfl, ?_, by have := le n0.1; omega⟩
  have := i2.2.2.1
  rw [i1.2.1] at this
  exact this
