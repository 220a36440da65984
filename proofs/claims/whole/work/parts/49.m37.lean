-- MATH 37: sign, ways (bits: rows out of kit/laws/BITS.to-paste stand at the head)
def bt (x : Int32) (i : Nat) : Bool := x.toBitVec.getLsbD i
theorem b_ext {x y : Int32} (h : ∀ i, i < 32 → bt x i = bt y i) : x = y := Int32.toBitVec_inj.mp (BitVec.eq_of_getLsbD_eq (fun i hi => h i hi))
theorem b_and (x y : Int32) (i : Nat) : bt (x &&& y) i = (bt x i && bt y i) := by unfold bt; rw [Int32.toBitVec_and, BitVec.getLsbD_and]
theorem b_big {x : Int32} {i : Nat} (h : 32 ≤ i) : bt x i = false := BitVec.getLsbD_of_ge _ _ h
theorem b_255 (i : Nat) : bt 255 i = decide (i < 8) := by
  rcases Nat.lt_or_ge i 32 with h | h
  · exact (by decide +kernel : ∀ i, i < 32 → bt 255 i = decide (i < 8)) i h
  · rw [b_big h, decide_eq_false (by omega)]
theorem s_l : ∀ n, n < 32 → ((nI n &&& 31).toBitVec.smod 32).toNat = n := by decide +kernel
theorem s_u : ∀ n, n < 32 → (((nI n).toUInt32 &&& Int32.toUInt32 31).toBitVec % 32).toNat = n := by decide +kernel
theorem b_ushr (n : Nat) (hn : n < 32) (x : Int32) (i : Nat) : bt ((x.toUInt32 >>> ((nI n).toUInt32 &&& Int32.toUInt32 31)).toInt32) i = bt x (n + i) := by
  show (x.toUInt32 >>> ((nI n).toUInt32 &&& Int32.toUInt32 31)).toBitVec.getLsbD i = x.toUInt32.toBitVec.getLsbD (n + i)
  rw [UInt32.toBitVec_shiftRight]
  show (x.toUInt32.toBitVec >>> (((nI n).toUInt32 &&& Int32.toUInt32 31).toBitVec % 32).toNat).getLsbD i = _
  rw [s_u n hn, BitVec.getLsbD_ushiftRight]
theorem b_sshr (n : Nat) (hn : n < 32) (x : Int32) {i : Nat} (hi : i < 32) : bt (x >>> (nI n &&& 31)) i = if n + i < 32 then bt x (n + i) else bt x 31 := by
  unfold bt
  rw [Int32.toBitVec_shiftRight]
  show (x.toBitVec.sshiftRight ((nI n &&& 31).toBitVec.smod 32).toNat).getLsbD i = _
  rw [s_l n hn, BitVec.getLsbD_sshiftRight, BitVec.msb_eq_getLsbD_last]
  simp [hi]
theorem bp_b (x : Int32) : x.toInt8.toInt32 &&& 255 = x &&& 255 := by
  apply Int32.toBitVec_inj.mp
  rw [Int32.toBitVec_and, Int32.toBitVec_and, Int8.toBitVec_toInt32, Int32.toBitVec_toInt8]
  apply BitVec.eq_of_getLsbD_eq
  intro i hi
  rw [BitVec.getLsbD_and, BitVec.getLsbD_and]
  have hm : ∀ i < 32, 8 ≤ i → (255 : Int32).toBitVec.getLsbD i = false := by decide
  rcases Nat.lt_or_ge i 8 with z | z
  · rw [BitVec.getLsbD_signExtend, BitVec.getLsbD_signExtend, if_pos z, if_pos hi]
    simp only [z, hi, decide_true, Bool.true_and]
  · rw [hm i hi z]; simp
theorem pf_lI {a : Nat} (h : a < 2 ^ 63) : (lN a).toInt = (a : Int) := lg_ofNat_toInt h
theorem pf_shr {a d : Nat} {D : Int64} (hD : (D.toBitVec.smod 64).toNat = d) (h : a < 2 ^ 62) : lN a >>> D = lN (a / 2 ^ d) := by
  have hd : a / 2 ^ d ≤ a := Nat.div_le_self _ _
  apply Int64.toInt_inj.mp
  have e : (lN a >>> D).toInt = (lN a).toInt >>> d := by
    rw [← hD]
    exact BitVec.toInt_sshiftRight ..
  rw [e, Int.shiftRight_eq_div_pow, pf_lI (by omega), pf_lI (by omega)]
  rfl
theorem pf_ushr {a d : Nat} {D : UInt64} (hD : D.toNat % 64 = d) (h : a < 2 ^ 62) : ((lN a).toUInt64 >>> D).toInt64 = lN (a / 2 ^ d) := by
  have hd : a / 2 ^ d ≤ a := Nat.div_le_self _ _
  have e : (lN a).toUInt64 >>> D = UInt64.ofNat (a / 2 ^ d) := UInt64.toNat_inj.mp (by
    rw [UInt64.toNat_shiftRight, hD, Nat.shiftRight_eq_div_pow, UInt64.toNat_ofNat']
    show (UInt64.ofNat a).toNat / 2 ^ d = _
    rw [UInt64.toNat_ofNat', Nat.mod_eq_of_lt (by omega), Nat.mod_eq_of_lt (by omega)])
  rw [e]
  rfl
def uN (x : Int64) : Nat := x.toUInt64.toNat
theorem uN_shr (x : Int64) (s : UInt64) : uN (x.toUInt64 >>> s).toInt64 = uN x / 2 ^ (s.toNat % 64) := by
  show (x.toUInt64 >>> s).toNat = _
  rw [UInt64.toNat_shiftRight, Nat.shiftRight_eq_div_pow]
  rfl
theorem uN_int (x : Int64) : x.toInt = if 2 * uN x < 18446744073709551616 then (uN x : Int) else (uN x : Int) - 18446744073709551616 := BitVec.toInt_eq_toNat_cond _
-- sign
theorem sign_bits (p x y : Int) (n : Nat) (hn : n ≤ 24) (hx : I x = nI n) (hy : I y = nI n) : band (bushr p x) 255 = band (bi2b (bshr p y)) 255 := by
  unfold band bi2b bshr bushr
  have e255 : I 255 = 255 := by decide
  rw [hx, hy, e255]
  show (Int32.ofInt _ &&& 255).toInt = (Int32.ofInt _ &&& 255).toInt
  rw [Int32.ofInt_toInt, Int32.ofInt_toInt, show I (I p >>> (nI n &&& 31)).toInt = I p >>> (nI n &&& 31) from Int32.ofInt_toInt _, bp_b]
  congr 1
  refine b_ext (fun i hi => ?_)
  rw [b_and, b_and, b_255, b_ushr n (by omega), b_sshr n (by omega) _ hi]
  by_cases h8 : i < 8
  · rw [if_pos (by omega)]
  · rw [decide_eq_false h8, Bool.and_false, Bool.and_false]
theorem bi2b_rng (a : Int) : -128 ≤ bi2b a ∧ bi2b a ≤ 127 := by
  unfold bi2b
  rw [Int8.toInt_toInt32]
  have h1 := (I a).toInt8.le_toInt
  have h2 := (I a).toInt8.toInt_lt
  omega
theorem sign_loop {K1 K2 : St → Option (Int × St)} (p : Int) : ∀ (r m1 m2 : Nat) (s t : St), r ≤ 4 → r < m1 → r < m2 → s 35 0 = t 31 0 → (0 ≤ s 35 0 ∧ s 35 0 + r ≤ 200) → (∀ j, 0 ≤ j → j < s 35 0 → s 14 j = band (t 4 j) 255) →
    ∃ s2 t2, Text_addFour_L15 K1 p m1 s (8 * (r : Int) - 8) = K1 s2 ∧ M_sign_L21 K2 p m2 t ((r : Int) - 1) = K2 t2 ∧ Tx s2 t2 ∧ Fr [14, 35] s s2 ∧ Fr [4, 31] t t2 := by
  intro r
  induction r with
  | zero =>
    intro m1 m2 s t h0 h1 h2 h3 h4 h5
    cases m1 with
    | zero => omega
    | succ m1 =>
    cases m2 with
    | zero => omega
    | succ m2 =>
    refine ⟨s, t, ?_, ?_, ⟨h3, by omega, h5⟩, Fr.rf _ _, Fr.rf _ _⟩
    · unfold Text_addFour_L15
      exact if_pos (by omega)
    · unfold M_sign_L21
      exact if_pos (by omega)
  | succ r ih =>
    intro m1 m2 s t h0 h1 h2 h3 h4 h5
    cases m1 with
    | zero => omega
    | succ m1 =>
    cases m2 with
    | zero => omega
    | succ m2 =>
    have e1 : 8 * ((r + 1 : Nat) : Int) - 8 = 8 * (r : Int) := by omega
    have e2 : ((r + 1 : Nat) : Int) - 1 = (r : Int) := by omega
    have hb : band (bushr p (8 * (r : Int))) 255 = band (bi2b (bshr p (8 * (r : Int)))) 255 := by
      refine sign_bits p _ _ (8 * r) (by omega) ?_ ?_
      all_goals (
        rcases (show r = 0 ∨ r = 1 ∨ r = 2 ∨ r = 3 by omega) with h | h | h | h
        all_goals (subst h; decide))
    have hr := bi2b_rng (bshr p (8 * (r : Int)))
    obtain ⟨s2, t2, x1, x2, x3, x4, x5⟩ := ih m1 m2 (us (us s 14 (s 35 0) (band (bushr p (8 * (r : Int))) 255)) 35 0 (s 35 0 + 1)) (us (us t 31 0 (t 31 0 + 1)) 4 (t 31 0) (bi2b (bshr p (8 * (r : Int))))) (by omega) (by omega) (by omega) (by rw [us_eq, us_ne (by decide), us_eq]; omega) (by rw [us_eq]; omega) (fun j j0 jn => by
      rw [us_eq] at jn
      rw [us_ne (by decide)]
      by_cases e : j = s 35 0
      · rw [e, us_eq, ← h3, us_eq]; exact hb
      · rw [us_ni e, us_ni (by omega), us_ne (by decide)]
        exact h5 j j0 (by omega))
    refine ⟨s2, t2, ?_, ?_, x3, (((Fr.rf _ s).us (by decide)).us (by decide)).tr x4, (((Fr.rf _ t).us (by decide)).us (by decide)).tr x5⟩
    · rw [e1]
      unfold Text_addFour_L15
      have e3 : 8 * (r : Int) + -8 = 8 * (r : Int) - 8 := by omega
      rw [if_neg (by omega), gf_eq, opure_eq, opure_eq, wr_eq (by omega), gf_eq, us_ne (by decide), oadd_eq (by omega), pf_eq, oadd_eq (by omega), e3]
      exact x1
    · rw [e2]
      unfold M_sign_L21
      have e3 : (r : Int) + -1 = (r : Int) - 1 := by omega
      rw [if_neg (by omega), gf_eq, oadd_eq (by omega), pf_eq, omul_eq (by omega), opure_eq, opure_eq, wrB_eq (by omega) hr, oadd_eq (by omega), e3]
      exact x2
theorem SS.txt {k : Nat} {σ τ σ' τ' : St} (h : SS k σ τ) (hE : Fr (14 :: 35 :: SE) σ σ') (hM : Fr (4 :: 31 :: SM) τ τ') (hR : Rws [6, 7, 8, 9] τ τ') (ht : Tx σ' τ') : SS k σ' τ' := by
  obtain ⟨⟨ρ, hW⟩, hT, hr, hn, hm⟩ := h
  refine ⟨⟨ρ, hW.mv hE (by decide) hR (by decide) (by rw [hM 30 (by decide)])⟩, ht, hr.fr hE hM (by decide) (by decide), ?_, ?_⟩
  · unfold Sn at *
    rw [hE 11 (by decide), hE 33 (by decide)]; exact hn
  · unfold Mb at *
    rw [hE 32 (by decide), hM 30 (by decide)]; exact hm
theorem call_sign : HS_0 SS := by
  intro k σ τ z0 hk hR hR9 hS i0
  have hS0 := hS
  obtain ⟨⟨ρ, hW⟩, hT, hr, hn, hm⟩ := hS
  have t1 := hT.1
  have t2 := hT.2.1
  unfold E_sign Text_addFour M_sign
  by_cases a : σ 35 0 ≤ 196
  · obtain ⟨K1, hK1⟩ : ∃ K1 : St → Option (Int × St), K1 = fun (s2 : St) => gf s2 35 fun v4 => some (v4, s2) := ⟨_, rfl⟩
    obtain ⟨K2, hK2⟩ : ∃ K2 : St → Option (Int × St), K2 = fun (s4 : St) => gf s4 31 fun v6 => some (v6, s4) := ⟨_, rfl⟩
    obtain ⟨s2, t2', x1, x2, x3, x4, x5⟩ := sign_loop (K1 := K1) (K2 := K2) z0 4 FU FU σ (us τ 33 0 0) (by omega) (by unfold FU; omega) (by unfold FU; omega) (by rw [us_ne (by decide)]; exact t1) (by omega) (fun j p q => by rw [us_ne (by decide)]; exact hT.2.2 j p q)
    have fM : Fr [4, 31, 33] τ t2' := (fr_sc _ τ 33 0 (by decide)).tr (x5.mono (by decide))
    refine ⟨s2 35 0, s2, t2', ?_, ?_, (hS0.txt (x4.mono (by decide)) (fM.mono (by decide)) (Rws.fr fM (by decide) (by decide) (by decide) _) x3).up⟩
    · rw [gf_eq, if_neg (by omega), ← hK1, jn_eq]
      have x1 : Text_addFour_L15 K1 z0 FU σ 24 = K1 s2 := x1
      rw [x1, hK1]
      rfl
    · rw [pf_eq, gf_eq, us_ne (by decide), oadd_eq (by omega), if_neg (by omega), ← hK2, jn_eq]
      have x2 : M_sign_L21 K2 z0 FU (us τ 33 0 0) 3 = K2 t2' := x2
      rw [x2, hK2]
      show some (t2' 31 0, t2') = _
      rw [x3.1]
  · refine ⟨-1, σ, us τ 33 0 0, ?_, ?_, hS0.thr⟩
    · simp (disch := omega) only [↓jn_e, ↓ite_y, ↓ite_n, ↓oadd_eq, ↓osub_eq, ↓omul_eq, ↓odiv_eq, ↓orem_eq, ↓rd_eq, ↓wr_eq, ↓gf_e, ↓pf_e, ↓bnd_e, ↓bndp_e, ↓opure_e, ↓oif_t, ↓oif_f, ↓E_isPlace_y, ↓E_isPlace_n, ↓E_isNumber_y, ↓E_isNumber_n, ↓M_isPlace_y, ↓M_isPlace_n, ↓M_isNumber_y, ↓M_isNumber_n, ↓M_in_y, ↓M_in_n, ↓us_ne]
    · simp (disch := omega) only [↓jn_e, ↓ite_y, ↓ite_n, ↓oadd_eq, ↓osub_eq, ↓omul_eq, ↓odiv_eq, ↓orem_eq, ↓rd_eq, ↓wr_eq, ↓gf_e, ↓pf_e, ↓bnd_e, ↓bndp_e, ↓opure_e, ↓oif_t, ↓oif_f, ↓E_isPlace_y, ↓E_isPlace_n, ↓E_isNumber_y, ↓E_isNumber_n, ↓M_isPlace_y, ↓M_isPlace_n, ↓M_isNumber_y, ↓M_isNumber_n, ↓M_in_y, ↓M_in_n, ↓us_ne]
-- ways
theorem J_lN {a : Int} (h : 0 ≤ a) : J a = lN a.toNat := by
  obtain ⟨n, rfl⟩ : ∃ n : Nat, a = (n : Int) := ⟨a.toNat, by omega⟩
  show Int64.ofInt (n : Int) = Int64.ofNat _
  rw [Int.toNat_natCast]
  exact Int64.ofInt_eq_ofNat
theorem w_cu : ∀ k : Fin 63, ((I (k.val : Int)).toInt64.toUInt64 &&& Int64.toUInt64 63).toNat % 64 = k.val ∧ (((I (k.val : Int)).toInt64 &&& 63).toBitVec.smod 64).toNat = k.val := by decide +kernel
theorem llushr_sm {a b : Int} (h : 0 ≤ a ∧ a ≤ 4611686018427387903) (hb : 0 ≤ b ∧ b < 63) : llushr a b = llshr a b ∧ llushr a b = ((a.toNat / 2 ^ b.toNat : Nat) : Int) := by
  obtain ⟨k, hk⟩ := fin_int (n := 63) hb
  have w := w_cu k
  rw [hk] at w
  have eb : k.val = b.toNat := by omega
  rw [eb] at w
  have ha : a.toNat < 2 ^ 62 := by omega
  have hd : a.toNat / 2 ^ b.toNat ≤ a.toNat := Nat.div_le_self _ _
  unfold llushr llshr
  rw [J_lN h.1, pf_ushr w.1 ha, pf_shr w.2 ha, pf_lI (by omega)]
  exact ⟨rfl, rfl⟩
theorem llushr_62 {a : Int} (h : in64 a) : llushr a 62 = 0 ↔ (0 ≤ a ∧ a ≤ 4611686018427387903) := by
  constructor
  · intro e
    have w := (w_cu 62).1
    have u := uN_shr (J a) ((I ((62 : Fin 63).val : Int)).toInt64.toUInt64 &&& Int64.toUInt64 63)
    rw [w] at u
    have e0 : llushr a 62 = ((J a).toUInt64 >>> ((I ((62 : Fin 63).val : Int)).toInt64.toUInt64 &&& Int64.toUInt64 63)).toInt64.toInt := rfl
    rw [e0] at e
    have i1 := uN_int ((J a).toUInt64 >>> ((I ((62 : Fin 63).val : Int)).toInt64.toUInt64 &&& Int64.toUInt64 63)).toInt64
    rw [e, u] at i1
    have i2 := uN_int (J a)
    rw [J_toInt h] at i2
    have v62 : ((62 : Fin 63).val) = 62 := rfl
    rw [v62] at i1
    have p62 : 2 ^ 62 = 4611686018427387904 := by decide
    rw [p62] at i1
    generalize uN (J a) = q at i1 i2
    split at i1
    · split at i2 <;> omega
    · split at i2 <;> omega
  · intro q
    have := (llushr_sm (b := 62) q (by omega)).2
    rw [this]
    have e : (62 : Int).toNat = 62 := rfl
    rw [e]
    have : a.toNat / 2 ^ 62 = 0 := Nat.div_eq_of_lt (by omega)
    rw [this]; rfl
theorem ways_loop {K1 K2 : St → Option (Int × St)} {i N v : Int} (hi : 0 ≤ i ∧ i < 6) (hN : 0 ≤ N ∧ N ≤ 255) (hv : 0 ≤ v ∧ v ≤ 4611686018427387903) (P : Int → Int → Prop) (hP : ∀ x z, P x z ↔ ∃ y, 0 ≤ y ∧ y < x ∧ lland (llushr v y) 1 = 1 ∧ onW y z) {σ τ : St} (h25 : σ 25 i = N) (h3 : τ 3 i = N) : ∀ (r m1 m2 : Nat) (s t : St) (x : Int), x + r = 62 → 0 ≤ x → x ≤ N → r < m1 → r < m2 → Fr [23, 44] σ s → Fr [6, 7, 35, 36] τ t → Eb s → bits01 (t 7) → (∀ z, 0 ≤ z → z < 255 → (s 23 z = 1 ↔ P x z)) → (∀ z, 0 ≤ z → z < 256 → (t 7 z = 1 ↔ P x z)) →
    ∃ s2 t2 e, E_ways_L28 K1 i v m1 s x = K1 s2 ∧ M_ways_L32 K2 i v m2 t x = K2 t2 ∧ Fr [23, 44] σ s2 ∧ Fr [6, 7, 35, 36] τ t2 ∧ Eb s2 ∧ bits01 (t2 7) ∧ (∀ z, 0 ≤ z → z < 255 → (s2 23 z = 1 ↔ P e z)) ∧ (∀ z, 0 ≤ z → z < 256 → (t2 7 z = 1 ↔ P e z)) ∧ e ≤ 255 := by
  intro r
  induction r with
  | zero =>
    intro m1 m2 s t x h1 h0 hx h2 h3' hF hG hE hb hs ht
    cases m1 with
    | zero => omega
    | succ m1 =>
    cases m2 with
    | zero => omega
    | succ m2 =>
    refine ⟨s, t, x, ?_, ?_, hF, hG, hE, hb, hs, ht, by omega⟩
    · unfold E_ways_L28
      exact if_neg (by omega)
    · unfold M_ways_L32
      exact if_neg (by omega)
  | succ r ih =>
    intro m1 m2 s t x h1 h0 hx h2 h3' hF hG hE hb hs ht
    cases m1 with
    | zero => omega
    | succ m1 =>
    cases m2 with
    | zero => omega
    | succ m2 =>
    have s25 : s 25 i = N := by rw [hF 25 (by decide)]; exact h25
    have t3 : t 3 i = N := by rw [hG 3 (by decide)]; exact h3
    by_cases q : x < N
    · have hl := (llushr_sm (b := x) hv (by omega)).1
      have lc : ∀ c : Int, lcmpv c 1 = 0 ↔ c = 1 := fun c => by
        unfold lcmpv
        split
        · constructor <;> intro <;> omega
        · split
          · constructor <;> intro <;> omega
          · constructor <;> intro <;> omega
      by_cases w : lland (llushr v x) 1 = 1
      · obtain ⟨s1, e1, f1, b1, z1⟩ := mark_ex (i := x) (by omega) hE
        obtain ⟨t1, e2, f2, b2, z2⟩ := marks_ex (i := x) (it := 1) (by omega) (Or.inr rfl) t hb
        have hst : ∀ z, P (x + 1) z ↔ (P x z ∨ onW x z) := fun z => by
          rw [hP, hP]
          constructor
          · rintro ⟨y, y0, y1, y2, y3⟩
            by_cases e : y = x
            · right; rw [e] at y3; exact y3
            · exact Or.inl ⟨y, y0, by omega, y2, y3⟩
          · rintro (⟨y, y0, y1, y2, y3⟩ | y)
            · exact ⟨y, y0, by omega, y2, y3⟩
            · exact ⟨x, h0, by omega, w, y⟩
        obtain ⟨s2, t2, e, x1, x2, x3⟩ := ih m1 m2 s1 t1 (x + 1) (by omega) (by omega) (by omega) (by omega) (by omega) (hF.tr f1) (hG.tr f2) b1 b2 (fun z p0 p1 => by rw [z1 z p0 p1, hs z p0 p1, hst]) (fun z p0 p1 => by
          rw [z2 z p0 p1, ht z p0 p1, hst]
          exact ⟨fun w => w.elim Or.inl (fun w => Or.inr w.1), fun w => w.elim Or.inl (fun w => Or.inr ⟨w, Or.inl rfl⟩)⟩)
        refine ⟨s2, t2, e, ?_, ?_, x3⟩
        · conv => lhs; unfold E_ways_L28
          rw [if_pos (by omega), rd_eq (by omega), s25, if_pos q, opure_eq, opure_eq, opure_eq, jn_eq, if_pos ((lc _).mpr w), e1, bnd_eq]
          simp (disch := omega) only [↓jn_e, ↓ite_y, ↓ite_n, ↓oadd_eq, ↓osub_eq, ↓omul_eq, ↓odiv_eq, ↓orem_eq, ↓rd_eq, ↓wr_eq, ↓gf_e, ↓pf_e, ↓bnd_e, ↓bndp_e, ↓opure_e, ↓oif_t, ↓oif_f, ↓E_isPlace_y, ↓E_isPlace_n, ↓E_isNumber_y, ↓E_isNumber_n, ↓M_isPlace_y, ↓M_isPlace_n, ↓M_isNumber_y, ↓M_isNumber_n, ↓M_in_y, ↓M_in_n, ↓us_ne]
          exact x1
        · conv => lhs; unfold M_ways_L32
          rw [if_pos (by omega), rd_eq (by omega), t3, if_pos q, opure_eq, opure_eq, opure_eq, jn_eq, if_pos ((lc _).mpr (by rw [← hl]; exact w)), e2, bnd_eq]
          simp (disch := omega) only [↓jn_e, ↓ite_y, ↓ite_n, ↓oadd_eq, ↓osub_eq, ↓omul_eq, ↓odiv_eq, ↓orem_eq, ↓rd_eq, ↓wr_eq, ↓gf_e, ↓pf_e, ↓bnd_e, ↓bndp_e, ↓opure_e, ↓oif_t, ↓oif_f, ↓E_isPlace_y, ↓E_isPlace_n, ↓E_isNumber_y, ↓E_isNumber_n, ↓M_isPlace_y, ↓M_isPlace_n, ↓M_isNumber_y, ↓M_isNumber_n, ↓M_in_y, ↓M_in_n, ↓us_ne]
          exact x2
      · have hst : ∀ z, P (x + 1) z ↔ P x z := fun z => by
          rw [hP, hP]
          constructor
          · rintro ⟨y, y0, y1, y2, y3⟩
            have : y ≠ x := fun e => w (by rw [← e]; exact y2)
            exact ⟨y, y0, by omega, y2, y3⟩
          · rintro ⟨y, y0, y1, y2, y3⟩
            exact ⟨y, y0, by omega, y2, y3⟩
        obtain ⟨s2, t2, e, x1, x2, x3⟩ := ih m1 m2 s t (x + 1) (by omega) (by omega) (by omega) (by omega) (by omega) hF hG hE hb (fun z p0 p1 => by rw [hst]; exact hs z p0 p1) (fun z p0 p1 => by rw [hst]; exact ht z p0 p1)
        refine ⟨s2, t2, e, ?_, ?_, x3⟩
        · conv => lhs; unfold E_ways_L28
          rw [if_pos (by omega), rd_eq (by omega), s25, if_pos q, opure_eq, opure_eq, opure_eq, jn_eq, if_neg (fun e => w ((lc _).mp e))]
          simp (disch := omega) only [↓jn_e, ↓ite_y, ↓ite_n, ↓oadd_eq, ↓osub_eq, ↓omul_eq, ↓odiv_eq, ↓orem_eq, ↓rd_eq, ↓wr_eq, ↓gf_e, ↓pf_e, ↓bnd_e, ↓bndp_e, ↓opure_e, ↓oif_t, ↓oif_f, ↓E_isPlace_y, ↓E_isPlace_n, ↓E_isNumber_y, ↓E_isNumber_n, ↓M_isPlace_y, ↓M_isPlace_n, ↓M_isNumber_y, ↓M_isNumber_n, ↓M_in_y, ↓M_in_n, ↓us_ne]
          exact x1
        · conv => lhs; unfold M_ways_L32
          rw [if_pos (by omega), rd_eq (by omega), t3, if_pos q, opure_eq, opure_eq, opure_eq, jn_eq, if_neg (fun e => w (by rw [hl]; exact (lc _).mp e))]
          simp (disch := omega) only [↓jn_e, ↓ite_y, ↓ite_n, ↓oadd_eq, ↓osub_eq, ↓omul_eq, ↓odiv_eq, ↓orem_eq, ↓rd_eq, ↓wr_eq, ↓gf_e, ↓pf_e, ↓bnd_e, ↓bndp_e, ↓opure_e, ↓oif_t, ↓oif_f, ↓E_isPlace_y, ↓E_isPlace_n, ↓E_isNumber_y, ↓E_isNumber_n, ↓M_isPlace_y, ↓M_isPlace_n, ↓M_isNumber_y, ↓M_isNumber_n, ↓M_in_y, ↓M_in_n, ↓us_ne]
          exact x2
    · refine ⟨s, t, x, ?_, ?_, hF, hG, hE, hb, hs, ht, by omega⟩
      · unfold E_ways_L28
        rw [if_pos (by omega), rd_eq (by omega), s25, if_neg q]
      · unfold M_ways_L32
        rw [if_pos (by omega), rd_eq (by omega), t3, if_neg q]
theorem call_ways : HS_48 SS := by
  intro k σ τ z0 z1 hk hR hR9 hS i0 i1
  have hS0 := hS
  obtain ⟨⟨ρ, hW⟩, hT, hr, hn, hm⟩ := hS
  unfold E_ways M_ways
  have lc : ∀ c : Int, lcmpv c 0 = 0 ↔ c = 0 := fun c => by
    unfold lcmpv
    split
    · constructor <;> intro <;> omega
    · split
      · constructor <;> intro <;> omega
      · constructor <;> intro <;> omega
  by_cases a : 0 ≤ z0 ∧ z0 < 6
  · have hP := hW.2.2 z0 a.1 a.2
    have s0 := hP.2.1
    have n0 := hP.1
    by_cases b : 0 ≤ z1 ∧ z1 ≤ 4611686018427387903
    · obtain ⟨sa, ea, fa, ba, za⟩ := waysClear_ex σ
      obtain ⟨τa, eb, fb, zb⟩ := clearsNew_ex (us τ 33 0 0)
      obtain ⟨K1, hK1⟩ : ∃ K1 : St → Option (Int × St), K1 = fun (s6 : St) => gf s6 44 fun v8 => some (v8, s6) := ⟨_, rfl⟩
      obtain ⟨K2, hK2⟩ : ∃ K2 : St → Option (Int × St), K2 = fun (s6 : St) => bndp (M_markedMany s6) fun v8 => some (v8, s6) := ⟨_, rfl⟩
      obtain ⟨s2, t2, e, x1, x2, x3, x4, x5, x6, x7, x8, x9⟩ := ways_loop (K1 := K1) (K2 := K2) (N := σ 25 z0) (v := z1) a n0 b (fun x z => ∃ y, 0 ≤ y ∧ y < x ∧ lland (llushr z1 y) 1 = 1 ∧ onW y z) (fun _ _ => Iff.rfl) (σ := sa) (τ := τa) (by rw [fa 25 (by decide)]) (by rw [fb 3 (by decide), us_ne (by decide)]; exact s0) 62 FU FU sa τa 0 (by omega) (by omega) (by omega) (by unfold FU; omega) (by unfold FU; omega) (Fr.rf _ _) (Fr.rf _ _) ba (fun x p q => Or.inl (zb x p q)) (fun z p q => ⟨fun w => by rw [za z p q] at w; omega, fun ⟨y, y0, y1, _⟩ => by omega⟩) (fun z p q => ⟨fun w => by rw [zb z p q] at w; omega, fun ⟨y, y0, y1, _⟩ => by omega⟩)
      have hal := marked_alike x5 x7 x6 x8 (fun ⟨y, y0, y1, y2, y3⟩ => by
        have := onW_rng (i := y) (by omega) y3
        omega)
      have eM := markedMany_eq t2
      rw [hal] at eM
      refine ⟨s2 44 0, s2, t2, ?_, ?_, hS0.asq ((fa.mono (by decide)).tr (x3.mono (by decide))) (((fr_sc [33] τ 33 0 (by decide)).mono (by decide)).tr ((fb.mono (by decide)).tr (x4.mono (by decide)))) ((Rws.fr (fr_sc [33] _ _ _ (by decide)) (by decide) (by decide) (by decide) _).tr ((Rws.fr fb (by decide) (by decide) (by decide) _).tr (Rws.fr x4 (by decide) (by decide) (by decide) _)))⟩
      · rw [E_isPlace_y a, bndp_eq, if_neg (by decide), opure_eq, opure_eq, if_pos ((lc _).mpr ((llushr_62 i1).mpr b)), ea, bnd_eq, ← hK1, jn_eq]
        refine x1.trans ?_
        rw [hK1]; rfl
      · rw [pf_eq, M_isPlace_y a, bndp_eq, if_neg (by decide), M_in_y b, bndp_eq, if_neg (by decide), eb, bnd_eq, ← hK2, jn_eq]
        refine x2.trans ?_
        rw [hK2]
        show bndp (M_markedMany t2) _ = _
        rw [eM, bndp_eq]
    · refine ⟨-1, σ, us τ 33 0 0, ?_, ?_, hS0.thr⟩
      · rw [E_isPlace_y a, bndp_eq, if_neg (by decide), opure_eq, opure_eq, if_neg (fun e => b ((llushr_62 i1).mp ((lc _).mp e)))]
      · simp (disch := omega) only [↓jn_e, ↓ite_y, ↓ite_n, ↓oadd_eq, ↓osub_eq, ↓omul_eq, ↓odiv_eq, ↓orem_eq, ↓rd_eq, ↓wr_eq, ↓gf_e, ↓pf_e, ↓bnd_e, ↓bndp_e, ↓opure_e, ↓oif_t, ↓oif_f, ↓E_isPlace_y, ↓E_isPlace_n, ↓E_isNumber_y, ↓E_isNumber_n, ↓M_isPlace_y, ↓M_isPlace_n, ↓M_isNumber_y, ↓M_isNumber_n, ↓M_in_y, ↓M_in_n, ↓us_ne]
  · refine ⟨-1, σ, us τ 33 0 0, ?_, ?_, hS0.thr⟩
    · simp (disch := omega) only [↓jn_e, ↓ite_y, ↓ite_n, ↓oadd_eq, ↓osub_eq, ↓omul_eq, ↓odiv_eq, ↓orem_eq, ↓rd_eq, ↓wr_eq, ↓gf_e, ↓pf_e, ↓bnd_e, ↓bndp_e, ↓opure_e, ↓oif_t, ↓oif_f, ↓E_isPlace_y, ↓E_isPlace_n, ↓E_isNumber_y, ↓E_isNumber_n, ↓M_isPlace_y, ↓M_isPlace_n, ↓M_isNumber_y, ↓M_isNumber_n, ↓M_in_y, ↓M_in_n, ↓us_ne]
    · simp (disch := omega) only [↓jn_e, ↓ite_y, ↓ite_n, ↓oadd_eq, ↓osub_eq, ↓omul_eq, ↓odiv_eq, ↓orem_eq, ↓rd_eq, ↓wr_eq, ↓gf_e, ↓pf_e, ↓bnd_e, ↓bndp_e, ↓opure_e, ↓oif_t, ↓oif_f, ↓E_isPlace_y, ↓E_isPlace_n, ↓E_isNumber_y, ↓E_isNumber_n, ↓M_isPlace_y, ↓M_isPlace_n, ↓M_isNumber_y, ↓M_isNumber_n, ↓M_in_y, ↓M_in_n, ↓us_ne]
