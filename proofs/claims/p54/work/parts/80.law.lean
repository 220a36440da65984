-- P54, 9: the law's rows beside the reference's; what holds behind each act
theorem SS.upn {k : Nat} {σ τ : St} (h : SS k σ τ) : ∀ j, SS (k + j) σ τ
  | 0 => h
  | j + 1 => (SS.upn h j).up
theorem SS.le {k j : Nat} {σ τ : St} (h : SS k σ τ) (hj : k ≤ j) : SS j σ τ := by
  have q := h.upn (j - k)
  rw [show k + (j - k) = j by omega] at q
  exact q
theorem bvi (x : BitVec 32) (n : Nat) (h : x.toNat ≤ n) (hn : n < 2147483648) : 0 ≤ x.toInt ∧ x.toInt ≤ n := by
  have e : x.toInt = x.toNat := BitVec.toInt_eq_toNat_of_lt (by omega)
  omega
theorem band_r (a b : Int) (n : Nat) (h : (I b).toBitVec.toNat = n) (hn : n < 2147483648) : 0 ≤ band a b ∧ band a b ≤ n := by
  refine bvi ((I a).toBitVec &&& (I b).toBitVec) n ?_ hn
  rw [BitVec.toNat_and, h]
  exact Nat.and_le_right
theorem band15 (a : Int) : 0 ≤ band a 15 ∧ band a 15 ≤ 15 := band_r a 15 15 (by decide) (by decide)
theorem band2047 (a : Int) : 0 ≤ band a 2047 ∧ band a 2047 ≤ 2047 := band_r a 2047 2047 (by decide) (by decide)
theorem band1 (a : Int) : 0 ≤ band a 1 ∧ band a 1 ≤ 1 := band_r a 1 1 (by decide) (by decide)
theorem bushr27 (a : Int) : 0 ≤ bushr a 27 ∧ bushr a 27 ≤ 31 := by
  have e : ((I 27).toUInt32 &&& Int32.toUInt32 31) = 27 := by decide
  have e2 : bushr a 27 = ((I a).toUInt32 >>> 27).toBitVec.toInt := by
    unfold bushr
    rw [e]
    rfl
  rw [e2]
  refine bvi _ 31 ?_ (by decide)
  show ((I a).toUInt32 >>> 27).toNat ≤ 31
  rw [UInt32.toNat_shiftRight, show (27 : UInt32).toNat % 32 = 27 from rfl, Nat.shiftRight_eq_div_pow]
  have q := UInt32.toNat_lt (I a).toUInt32
  omega
theorem rdA_eq {α : Type} {μ : St} {r i : Int} {k : Int → Option α} (h : (0 ≤ r ∧ r < 6) ∧ (0 ≤ i ∧ i < 64)) : rdA μ r i k = k (μ (51 + r.toNat) i) := if_pos h
theorem chk6_eq {α : Type} {i : Int} {k : Int → Option α} (h : 0 ≤ i ∧ i < 6) : chk6 i k = k i := if_pos h
theorem lcmp0 (a : Int) : lcmpv a a = 0 := by
  unfold lcmpv
  rw [if_neg (by omega), if_pos rfl]
theorem lcmp_le {a b : Int} (h : a ≤ b) : ¬ 0 < lcmpv a b := by
  unfold lcmpv
  split
  · omega
  · split
    · omega
    · omega
theorem n48 (p : Int) : 51 + p.toNat ∉ [48] := fun q => by
  have e := List.mem_singleton.mp q
  omega
theorem sm_bd {f : Int → Int} {b : Int} : ∀ m : Nat, (∀ x : Int, 0 ≤ x → x < m → -b ≤ f x ∧ f x ≤ b) → -(b * m) ≤ sm f m ∧ sm f m ≤ b * m := by
  intro m
  induction m with
  | zero => intro _; show -(b * 0) ≤ 0 ∧ 0 ≤ b * 0; omega
  | succ m ih =>
    intro h
    have a := ih (fun x x0 xn => h x x0 (by omega))
    have c := h m (by omega) (by omega)
    rw [show ((m + 1 : Nat) : Int) = (m : Int) + 1 from by omega, Int.mul_add, Int.mul_one]
    show -(b * m + b) ≤ sm f m + f m ∧ sm f m + f m ≤ b * m + b
    omega
/-- the law's rows are the reference's -/
def Rel (τ μ : St) : Prop := ∀ p, 0 ≤ p → p < 6 → (μ 47 p = τ 3 p ∧ τ 3 p ≤ 63) ∧ ∀ x, 0 ≤ x → x < τ 3 p → μ (51 + p.toNat) x = τ 1 (256 * p + x)
def J9 (k : Nat) (σ μ : St) : Prop := ∃ τ, SS (20 * k) σ τ ∧ Rel τ μ
theorem Rel.rq {τ τ' μ : St} (h : Rel τ μ) (q : Rq τ τ') : Rel τ' μ := fun p p0 p6 => by
  have a := h p p0 p6
  have b := q p p0 p6
  rw [b.1]
  refine ⟨a.1, fun x x0 xn => ?_⟩
  rw [b.2 x x0 (by omega)]
  exact a.2 x x0 xn
theorem Rel.fr {τ μ μ' : St} (h : Rel τ μ) (q : Fr [48] μ μ') : Rel τ μ' := fun p p0 p6 => by
  have a := h p p0 p6
  rw [q 47 (by decide), q (51 + p.toNat) (n48 p)]
  exact a
theorem is_loop {k : Nat} {σ τ μ : St} {K : Option (Int × St)} {p n : Int} (hS : SS k σ τ) (hM : Rel τ μ) (hp : 0 ≤ p ∧ p < 6) (h3 : τ 3 p = n) : ∀ (r m : Nat) (x : Int), x + r = n → 0 ≤ x → r < m → L_is_L14 K σ μ p n p m x = K := by
  have n63 := (hM p hp.1 hp.2).1.2
  intro r
  induction r with
  | zero =>
    intro m x hx x0 hm
    obtain ⟨m, rfl⟩ : ∃ m', m = m' + 1 := ⟨m - 1, by omega⟩
    unfold L_is_L14
    exact if_neg (by omega)
  | succ r ih =>
    intro m x hx x0 hm
    obtain ⟨m, rfl⟩ : ∃ m', m = m' + 1 := ⟨m - 1, by omega⟩
    have e := (hM p hp.1 hp.2).2 x x0 (by omega)
    unfold L_is_L14
    rw [if_pos (by omega), get_q hS hp (by omega), bndp_eq, rdA_eq ⟨⟨by omega, by omega⟩, by omega, by omega⟩, if_pos e.symm, oadd_eq (by omega)]
    exact ih m (x + 1) (by omega) (by omega) (by omega)
theorem is_q {k : Nat} {σ τ μ : St} {p n : Int} (hk : k + 1 < 512) (hS : SS k σ τ) (hM : Rel τ μ) (hp : 0 ≤ p ∧ p < 6) (h3 : τ 3 p = n) : ∃ σ1 τ1, L_is σ μ p p n = some (1, σ1) ∧ SS (k + 2) σ1 τ1 ∧ Rq τ τ1 := by
  subst h3
  have n0 := ((hS.ok (by omega)).2 p hp.1 hp.2).1
  have n63 := (hM p hp.1 hp.2).1.2
  obtain ⟨σ1, τ1, e1, s1, q1⟩ := size_q (by omega) hS hp (by omega)
  have h31 := (q1 p hp.1 hp.2).1
  obtain ⟨r, σ2, τ2, e2, s2, q2, b2⟩ := own_q hk s1 hp (by omega)
  have hg := get_out s1 hp
  rw [h31] at hg
  refine ⟨σ2, τ2, ?_, s2, q1.tr q2⟩
  unfold L_is
  rw [e1, bnd_eq, if_pos rfl, jn_eq, is_loop s1 (hM.rq q1) hp h31 (τ 3 p).toNat FU 0 (by omega) (by omega) (by unfold FU; omega), hg, bndp_eq, if_pos rfl, e2, bnd_eq, if_neg (by omega)]
theorem tail_loop {K : Nat} {μ : St} (hK : K ≤ 500) : ∀ (r m k : Nat) (σ τ : St) (a x : Int), x + r = 6 → 0 ≤ x → r < m → k + 2 * r ≤ K → SS k σ τ → Rel τ μ → a = sm (τ 3) x.toNat →
    ∃ σ' τ', (∀ k5, L_tail_L1311 k5 m σ μ a x = k5 σ' μ (sm (τ' 3) 6)) ∧ SS K σ' τ' ∧ Rq τ τ' := by
  intro r
  induction r with
  | zero =>
    intro m k σ τ a x hx x0 hm hkK hS hM ha
    obtain ⟨m, rfl⟩ : ∃ m', m = m' + 1 := ⟨m - 1, by omega⟩
    refine ⟨σ, τ, fun k5 => ?_, hS.le (by omega), Rq.rf _⟩
    have x6 : x = 6 := by omega
    subst x6
    unfold L_tail_L1311
    rw [if_neg (by omega), ha]
    rfl
  | succ r ih =>
    intro m k σ τ a x hx x0 hm hkK hS hM ha
    obtain ⟨m, rfl⟩ : ∃ m', m = m' + 1 := ⟨m - 1, by omega⟩
    have hp : 0 ≤ x ∧ x < 6 := ⟨x0, by omega⟩
    have h47 := (hM x x0 hp.2).1
    have ok := ((hS.ok (by omega)).2 x x0 hp.2).1
    have bd := sm_bd (f := τ 3) (b := 63) x.toNat (fun y y0 yn => by
      have q := (hM y y0 (by omega)).1.2
      have q2 := ((hS.ok (by omega)).2 y y0 (by omega)).1
      omega)
    rw [← ha] at bd
    obtain ⟨σ1, τ1, e1, s1, q1⟩ := is_q (by omega) hS hM hp h47.1.symm
    have hs : a + μ 47 x = sm (τ1 3) (x + 1).toNat := by
      rw [sm_step _ x0, ha, (q1 x x0 hp.2).1, h47.1]
      congr 1
      exact sm_ext _ (fun y y0 yn => ((q1 y y0 (by omega)).1).symm)
    obtain ⟨σ2, τ2, e2, s2, q2⟩ := ih m (k + 2) σ1 τ1 (a + μ 47 x) (x + 1) (by omega) (by omega) (by omega) (by omega) s1 (hM.rq q1) hs
    refine ⟨σ2, τ2, fun k5 => ?_, s2, q1.tr q2⟩
    unfold L_tail_L1311
    rw [if_pos hp.2, chk6_eq hp, rd_eq hp, e1, bnd_eq, if_neg (by decide), rd_eq hp, oadd_eq (by omega), oadd_eq (by omega)]
    exact e2 k5
theorem tail_q {k : Nat} {σ τ μ : St} {l n : Int} (hk : k + 14 ≤ 500) (hS : SS k σ τ) (hM : Rel τ (us μ 47 l n)) (hl : 0 ≤ l ∧ l < 6) :
    ∃ σ' τ', L_tail σ μ l n = some (σ', us μ 47 l n) ∧ SS (k + 14) σ' τ' ∧ Rel τ' (us μ 47 l n) := by
  obtain ⟨σ1, τ1, e1, s1, q1⟩ := tail_loop (K := k + 12) (by omega) 6 FU k σ τ 0 0 rfl (by decide) (by unfold FU; omega) (by omega) hS hM rfl
  obtain ⟨r, σ2, τ2, e2, s2, q2, b2, b3, b4⟩ := nodes_q (by omega) s1
  obtain ⟨σ3, τ3, w, e3, s3, q3, c1, c2, c3⟩ := same_q (by omega) s2 hl (by omega)
  have M2 := (hM.rq q1).rq q2
  have r2 := row_q s2 (j := 1) (by omega)
  have r3 := row_q s3 (j := 1) (by omega)
  rw [b4] at r2
  rw [c2] at r3
  have w1 := (M2 l hl.1 hl.2).1.1
  refine ⟨σ3, τ3, ?_, s3, M2.rq q3⟩
  unfold L_tail
  rw [wr_eq hl, jn_eq, e1, e2, bnd_eq, if_neg (by omega), r2, bndp_eq, opure_eq, lcmp0, if_pos rfl, e3, bnd_eq, if_pos rfl, r3, bndp_eq, rd_eq hl, opure_eq, if_neg (lcmp_le (by omega))]
/-- the act's end: what it made and told is held against the law's rows -/
def K12 (d l : Int) (s m : St) (r n : Int) : Option (St × St) := if r < 0 then none else (bndp (E_count s 1) fun v13 => oadd d r fun v14 => if v13 = v14 then (chk6 l fun v15 => L_tail s (mvB m v15) v15 n) else none)
theorem fin_q {k k1 : Nat} {σ1 τ τ1 μ m : St} {d l n r : Int} {f : Int → Int} (hk : k < 20) (h1 : k1 + 14 ≤ 20 * (k + 1)) (hS : SS k1 σ1 τ1) (hM : Rel τ μ) (hf : Fr [48] μ m) (hl : 0 ≤ l ∧ l < 6) (hn : 0 ≤ n ∧ n ≤ 63) (o : Op τ τ1 l n f r) (hb : ∀ x, 0 ≤ x → x < n → m 48 x = f x) (hd : d = τ 30 0) :
    ∃ σ' μ', K12 d l σ1 m r n = some (σ', μ') ∧ J9 (k + 1) σ' μ' := by
  obtain ⟨⟨h3, h4⟩, ho, hr, r0⟩ := o
  have hM2 : Rel τ1 (us (mvB m l) 47 l n) := fun p p0 p6 => by
    by_cases pl : p = l
    · subst pl
      have e : mvB m p (51 + p.toNat) = m 48 := if_pos rfl
      rw [us_eq, us_f (by omega), e]
      refine ⟨⟨h3.symm, by omega⟩, fun x x0 xn => ?_⟩
      rw [hb x x0 (by omega)]
      exact (h4 x x0 (by omega)).symm
    · have a := hM p p0 p6
      have b := ho p p0 p6 pl
      have e : mvB m l (51 + p.toNat) = m (51 + p.toNat) := if_neg (by omega)
      have e7 : mvB m l 47 = m 47 := if_neg (by omega)
      rw [us_ni pl, us_f (by omega), e, e7, hf 47 (by decide), hf _ (n48 p), b.1]
      refine ⟨a.1, fun x x0 xn => ?_⟩
      rw [b.2 x x0 (by omega)]
      exact a.2 x x0 xn
  have ok := (hS.ok (by omega)).1
  obtain ⟨σ', τ', e, s, M⟩ := tail_q (by omega) hS hM2 hl
  refine ⟨σ', _, ?_, τ', s.le (by omega), M⟩
  unfold K12
  rw [if_neg (by omega), count_q, bndp_eq, oadd_eq (by omega), made_q hS, if_pos (by omega), chk6_eq hl]
  exact e
/-- what an act of the law finds -/
def Hy (k : Nat) (σ τ μ m : St) (i j l v n d : Int) : Prop := (k < 20) ∧ (SS (20 * k) σ τ) ∧ (Rel τ μ) ∧ (Fr [48] μ m) ∧ (∀ y, 0 ≤ y → y < n → m 48 y = τ 1 (256 * i + y)) ∧ (0 ≤ i ∧ i < 6) ∧ (0 ≤ j ∧ j < 6) ∧ (0 ≤ l ∧ l < 6) ∧ (-999 ≤ v ∧ v ≤ 999) ∧ (τ 3 i = n) ∧ (0 ≤ n ∧ n ≤ 63) ∧ (d = τ 30 0)
theorem Hy.k20 {k : Nat} {σ τ μ m : St} {i j l v n d : Int} (h : Hy k σ τ μ m i j l v n d) : k < 20 := h.1
theorem Hy.S {k : Nat} {σ τ μ m : St} {i j l v n d : Int} (h : Hy k σ τ μ m i j l v n d) : SS (20 * k) σ τ := h.2.1
theorem Hy.M {k : Nat} {σ τ μ m : St} {i j l v n d : Int} (h : Hy k σ τ μ m i j l v n d) : Rel τ μ := h.2.2.1
theorem Hy.f {k : Nat} {σ τ μ m : St} {i j l v n d : Int} (h : Hy k σ τ μ m i j l v n d) : Fr [48] μ m := h.2.2.2.1
theorem Hy.b {k : Nat} {σ τ μ m : St} {i j l v n d : Int} (h : Hy k σ τ μ m i j l v n d) : ∀ y, 0 ≤ y → y < n → m 48 y = τ 1 (256 * i + y) := h.2.2.2.2.1
theorem Hy.i6 {k : Nat} {σ τ μ m : St} {i j l v n d : Int} (h : Hy k σ τ μ m i j l v n d) : 0 ≤ i ∧ i < 6 := h.2.2.2.2.2.1
theorem Hy.j6 {k : Nat} {σ τ μ m : St} {i j l v n d : Int} (h : Hy k σ τ μ m i j l v n d) : 0 ≤ j ∧ j < 6 := h.2.2.2.2.2.2.1
theorem Hy.l6 {k : Nat} {σ τ μ m : St} {i j l v n d : Int} (h : Hy k σ τ μ m i j l v n d) : 0 ≤ l ∧ l < 6 := h.2.2.2.2.2.2.2.1
theorem Hy.v9 {k : Nat} {σ τ μ m : St} {i j l v n d : Int} (h : Hy k σ τ μ m i j l v n d) : -999 ≤ v ∧ v ≤ 999 := h.2.2.2.2.2.2.2.2.1
theorem Hy.n3 {k : Nat} {σ τ μ m : St} {i j l v n d : Int} (h : Hy k σ τ μ m i j l v n d) : τ 3 i = n := h.2.2.2.2.2.2.2.2.2.1
theorem Hy.nn {k : Nat} {σ τ μ m : St} {i j l v n d : Int} (h : Hy k σ τ μ m i j l v n d) : 0 ≤ n ∧ n ≤ 63 := h.2.2.2.2.2.2.2.2.2.2.1
theorem Hy.d0 {k : Nat} {σ τ μ m : St} {i j l v n d : Int} (h : Hy k σ τ μ m i j l v n d) : d = τ 30 0 := h.2.2.2.2.2.2.2.2.2.2.2
theorem Hy.row {k : Nat} {σ τ μ m : St} {i j l v n d : Int} (h : Hy k σ τ μ m i j l v n d) {x : Int} (hx : 0 ≤ x ∧ x < n) : μ (51 + i.toNat) x = τ 1 (256 * i + x) := (h.M i h.i6.1 h.i6.2).2 x hx.1 (by rw [h.n3]; exact hx.2)
theorem Hy.num {k : Nat} {σ τ μ m : St} {i j l v n d : Int} (h : Hy k σ τ μ m i j l v n d) {x : Int} (hx : 0 ≤ x ∧ x < n) : -999 ≤ τ 1 (256 * i + x) ∧ τ 1 (256 * i + x) ≤ 999 := ((h.S.ok (by have := h.k20; omega)).2 i h.i6.1 h.i6.2).2 x hx.1 (by rw [h.n3]; exact hx.2)
theorem Hy.con {k k1 : Nat} {σ τ μ m σ1 τ1 : St} {i j l v n d : Int} (h : Hy k σ τ μ m i j l v n d) (h1 : k1 ≤ 20 * (k + 1)) (hS : SS k1 σ1 τ1) (q : Rq τ τ1) : J9 (k + 1) σ1 m := ⟨τ1, hS.le h1, (h.M.rq q).fr h.f⟩
theorem Hy.fin {k k1 : Nat} {σ τ μ m m' σ1 τ1 : St} {i j l v n d r n' : Int} {f : Int → Int} (h : Hy k σ τ μ m i j l v n d) (h1 : k1 + 14 ≤ 20 * (k + 1)) (hS : SS k1 σ1 τ1) (o : Op τ τ1 l n' f r) (hn : 0 ≤ n' ∧ n' ≤ 63) (hf : Fr [48] μ m') (hb : ∀ x, 0 ≤ x → x < n' → m' 48 x = f x) :
    ∃ σ' μ', K12 d l σ1 m' r n' = some (σ', μ') ∧ J9 (k + 1) σ' μ' := fin_q h.k20 h1 hS h.M hf h.l6 hn o hb h.d0
theorem b_up {m : St} {G : Int → Int} {x : Int} (hb : ∀ y, 0 ≤ y → y < x → m 48 y = G y) : ∀ y, 0 ≤ y → y < x + 1 → us m 48 x (G x) 48 y = G y := by
  intro y y0 yn
  by_cases e : y = x
  · subst e
    exact us_eq _ _ _ _
  · rw [us_ni e]
    exact hb y y0 (by omega)
