-- MATH 50: grows
theorem idx_loop {K1 K2 : St → Option (Int × St)} {ab sd sr ls rs nb : Int → Int} {N : Int} (hN : N ≤ 100) (hT : TT ab sd sr ls rs N (-1)) (h0r : N = 1 + ls 0 + rs 0) (hE : ∀ k, 0 ≤ k → k < N → ev ls rs k) {σ τ : St} (h38 : σ 38 0 = N) (h40 : τ 40 0 = N)
    (hs : ∀ k, 0 ≤ k → k < N → σ 17 k = ab k ∧ σ 18 k = sd k ∧ σ 16 k = nb k ∧ τ 10 k = ab k ∧ τ 11 k = sd k ∧ τ 9 k = nb k ∧ -999 ≤ nb k ∧ nb k ≤ 999) : ∀ (r m1 m2 : Nat) (s t : St) (x : Int), x + r = N → 0 ≤ x → r < m1 → r < m2 → Fr [22, 28] σ s → Fr [1, 13, 14] τ t → Rws [7] τ t → IX ab sd ls rs (s 22) N x → (∀ k, 0 ≤ k → k < x → t 13 k = s 22 k ∧ t 14 k = st (s 22 k)) → (∀ k, 0 ≤ k → k < x → s 28 (s 22 k) = t 1 (256 * 7 + s 22 k) ∧ -999 ≤ t 1 (256 * 7 + s 22 k) ∧ t 1 (256 * 7 + s 22 k) ≤ 999) →
    ∃ s' t', Reader_numbersByIndex_fresh_L2 K1 m1 s x = K1 s' ∧ M_grows_L104 K2 m2 t x = K2 t' ∧ Fr [22, 28] σ s' ∧ Fr [1, 13, 14] τ t' ∧ Rws [7] τ t' ∧ IX ab sd ls rs (s' 22) N N ∧ ∀ k, 0 ≤ k → k < N → s' 28 (s' 22 k) = t' 1 (256 * 7 + s' 22 k) ∧ -999 ≤ t' 1 (256 * 7 + s' 22 k) ∧ t' 1 (256 * 7 + s' 22 k) ≤ 999 := by
  intro r
  induction r with
  | zero =>
    intro m1 m2 s t x h1 h0 h2 h3 hF hM hR hI hC hw
    cases m1 with
    | zero => omega
    | succ m1 =>
    cases m2 with
    | zero => omega
    | succ m2 =>
    have e : x = N := by omega
    rw [e] at hI hw
    refine ⟨s, t, ?_, ?_, hF, hM, hR, hI, hw⟩
    · unfold Reader_numbersByIndex_fresh_L2
      rw [gf_eq, hF 38 (by decide), h38, if_neg (by omega)]
    · unfold M_grows_L104
      rw [gf_eq, hM 40 (by decide), h40, if_neg (by omega)]
  | succ r ih =>
    intro m1 m2 s t x h1 h0 h2 h3 hF hM hR hI hC hw
    cases m1 with
    | zero => omega
    | succ m1 =>
    cases m2 with
    | zero => omega
    | succ m2 =>
    have hx := hs x h0 (by omega)
    have a1 := hT.1 x h0 (by omega)
    obtain ⟨w, ew⟩ : ∃ w, w = if ab x = -1 then 0 else s 22 (ab x) + st (s 22 (ab x)) * (sd x + 1) := ⟨_, rfl⟩
    obtain ⟨W1, W2, W3⟩ := ix_step hN hT h0r hE hI ⟨h0, by omega⟩ ew
    have sw := st_pos w
    obtain ⟨s', es'⟩ : ∃ s', s' = us (us s 22 x w) 28 w (nb x) := ⟨_, rfl⟩
    obtain ⟨t', et'⟩ : ∃ t', t' = us (us (us t 13 x w) 14 x (st w)) 1 (256 * 7 + w) (nb x) := ⟨_, rfl⟩
    have i22 : s' 22 = st1 (s 22) x w := by rw [es', us_f (by decide), us_st1]
    have i28 : s' 28 = st1 (s 28) w (nb x) := by rw [es', us_st1, us_f (by decide)]
    have j13 : t' 13 = st1 (t 13) x w := by rw [et', us_f (by decide), us_f (by decide), us_st1]
    have j14 : t' 14 = st1 (t 14) x (st w) := by rw [et', us_f (by decide), us_st1, us_f (by decide)]
    have j1 : t' 1 = st1 (t 1) (256 * 7 + w) (nb x) := by rw [et', us_st1, us_f (by decide), us_f (by decide)]
    have pE : ∀ k, 0 ≤ k → k < x + 1 → IX ab sd ls rs (s 22) N x := fun k _ _ => hI
    obtain ⟨s2, t2, y1, y2, y3⟩ := ih m1 m2 s' t' (x + 1) (by omega) (by omega) (by omega) (by omega) (by rw [es']; exact (hF.us (by decide)).us (by decide)) (by rw [et']; exact ((hM.us (by decide)).us (by decide)).us (by decide)) (hR.tr (by
      rw [et']
      exact ⟨fun q hq => ⟨by rw [us_ni (by have := hq 7 (by decide); omega), us_ne (by decide), us_ne (by decide)], by rw [us_ne (by decide), us_ne (by decide), us_ne (by decide)]⟩, fun p _ => by rw [us_ne (by decide), us_ne (by decide), us_ne (by decide)]⟩)) (fun k k0 kn => by
      rw [i22]
      have b1 := hT.1 k k0 (by omega)
      by_cases q : k = x
      · have n1 : ¬ ab k = x := by omega
        rw [st1_y q, st1_n n1, q]
        refine ⟨W1, W2, fun e => by rw [ew, if_pos e], fun e => ⟨?_, W3 e⟩⟩
        rw [ew, if_neg (by omega)]
      · have n1 : ¬ ab k = x := by omega
        rw [st1_n q, st1_n n1]
        exact hI k k0 (by omega)) (fun k k0 kn => by
      rw [i22, j13, j14]
      by_cases q : k = x
      · rw [st1_y q, st1_y q, st1_y q]; exact ⟨rfl, rfl⟩
      · rw [st1_n q, st1_n q, st1_n q]; exact hC k k0 (by omega)) (fun k k0 kn => by
      rw [i22, i28, j1]
      by_cases q : k = x
      · rw [st1_y q, st1_y rfl, st1_y rfl]
        exact ⟨rfl, hx.2.2.2.2.2.2⟩
      · rw [st1_n q]
        by_cases u : s 22 k = w
        · rw [st1_y u, st1_y (by omega)]
          exact ⟨rfl, hx.2.2.2.2.2.2⟩
        · rw [st1_n u, st1_n (by omega)]
          exact hw k k0 (by omega))
    refine ⟨s2, t2, ?_, ?_, y3⟩
    · have s17 : s 17 x = ab x := by rw [hF 17 (by decide)]; exact hx.1
      have s18 : s 18 x = sd x := by rw [hF 18 (by decide)]; exact hx.2.1
      have s16 : us s 22 x w 16 x = nb x := by rw [us_ne (by decide), hF 16 (by decide)]; exact hx.2.2.1
      have fin : ∀ y, y = w → (wr s 22 100 x y fun s11 => jn (fun (s12 : St) => oadd x 1 fun v14 => Reader_numbersByIndex_fresh_L2 K1 m1 s12 v14) fun k13 => if y < 0 then (k13 s11) else (if y < 256 then (rd s11 16 100 x fun v15 => wr s11 28 256 y v15 fun s16 => k13 s16) else (k13 s11))) = K1 s2 := fun y ey => by
        rw [ey, wr_eq (by omega), jn_eq, if_neg (by omega), if_pos (by omega), rd_eq (by omega), s16, wr_eq (by omega), ← es']
        dsimp only
        rw [oadd_eq (by omega)]
        exact y1
      unfold Reader_numbersByIndex_fresh_L2
      rw [gf_eq, hF 38 (by decide), h38, if_pos (by omega), rd_eq (by omega), s17, jn_eq]
      by_cases q : ab x = -1
      · rw [if_pos q] at ew
        rw [if_pos (by omega)]
        exact fin 0 ew.symm
      · rw [if_neg q] at ew
        have hp := hI (ab x) (by omega) (by omega)
        have sp := st_pos (s 22 (ab x))
        have cm : (1 + sd x) * st (s 22 (ab x)) = st (s 22 (ab x)) * (sd x + 1) := by rw [Int.mul_comm, Int.add_comm 1]
        have nw : 0 ≤ st (s 22 (ab x)) * (sd x + 1) := Int.mul_nonneg (by omega) (by omega)
        rw [if_neg (by omega), if_pos (by omega), rd_eq (by omega), rd_eq (by omega), s18, oadd_eq (by omega), rd_eq (by omega), Shape_stride_eq (by omega), bndp_eq, omul_eq (by rw [cm]; omega), oadd_eq (by rw [cm]; omega)]
        exact fin _ (by rw [cm]; omega)
    · have t10 : t 10 x = ab x := by rw [hM 10 (by decide)]; exact hx.2.2.2.1
      have t11 : t 11 x = sd x := by rw [hM 11 (by decide)]; exact hx.2.2.2.2.1
      have t9 : us (us t 13 x w) 14 x (st w) 9 x = nb x := by rw [us_ne (by decide), us_ne (by decide), hM 9 (by decide)]; exact hx.2.2.2.2.2.1
      have t13 : us (us t 13 x w) 14 x (st w) 13 x = w := by rw [us_ne (by decide), us_eq]
      have fin2 : ∀ z, z = st w → (wr (us t 13 x w) 14 200 x z fun s28 => rd s28 13 200 x fun v29 => oadd 1792 v29 fun v30 => rd s28 9 200 x fun v31 => wr s28 1 2560 v30 v31 fun s32 => oadd x 1 fun v33 => M_grows_L104 K2 m2 s32 v33) = K2 t2 := fun z ez => by
        rw [ez, wr_eq (by omega), rd_eq (by omega), t13, oadd_eq (by omega), rd_eq (by omega), t9, wr_eq (by omega), oadd_eq (by omega)]
        rw [show (1792 : Int) + w = 256 * 7 + w by omega, ← et']
        exact y2
      unfold M_grows_L104
      rw [gf_eq, hM 40 (by decide), h40, if_pos (by omega), rd_eq (by omega), t10, jn_eq]
      by_cases q : ab x = -1
      · rw [if_pos q] at ew
        rw [if_pos q, ← ew]
        dsimp only
        rw [wr_eq (by omega), jn_eq, if_pos q]
        exact fin2 1 (by rw [ew]; rfl)
      · rw [if_neg q] at ew
        have hp := hI (ab x) (by omega) (by omega)
        have hc := hC (ab x) (by omega) (by omega)
        have sp := st_pos (s 22 (ab x))
        have nw : 0 ≤ st (s 22 (ab x)) * (sd x + 1) := Int.mul_nonneg (by omega) (by omega)
        have u14 : us t 13 x w 14 (ab x) = st (s 22 (ab x)) := by rw [us_ne (by decide)]; exact hc.2
        rw [if_neg q, rd_eq (by omega), hc.1, rd_eq (by omega), hc.2, rd_eq (by omega), t11, oadd_eq (by omega), omul_eq (by omega), oadd_eq (by omega), ← ew]
        dsimp only
        rw [wr_eq (by omega), jn_eq, if_neg q, rd_eq (by omega), u14, omul_eq (by omega)]
        exact fin2 _ (W3 (by omega)).symm
theorem call_grows : HS_3 SS := by
  intro k σ τ z0 hk hR hR9 hS i0
  have hS0 := hS
  obtain ⟨⟨ρ, hW⟩, hT, hr, hn, hm⟩ := hS
  have hB := begin_rdr hT
  have hL := hT.2.1
  obtain ⟨s0, hs0⟩ : ∃ s0, s0 = us (us (us (us σ 36 0 0) 38 0 0) 39 0 (-1)) 40 0 0 := ⟨_, rfl⟩
  obtain ⟨tb, htb⟩ : ∃ tb, tb = us (us (us (us τ 33 0 0) 38 0 (us τ 33 0 0 31 0)) 31 0 0) 37 0 0 := ⟨_, rfl⟩
  rw [← htb] at hB
  obtain ⟨t0, ht0⟩ : ∃ t0, t0 = us tb 40 0 0 := ⟨_, rfl⟩
  have fs : Fr FQ σ s0 := by rw [hs0]; exact ((((Fr.rf _ _).us (by decide)).us (by decide)).us (by decide)).us (by decide)
  have fb : Fr [31, 33, 37, 38] τ tb := by rw [htb]; exact ((((Fr.rf _ _).us (by decide)).us (by decide)).us (by decide)).us (by decide)
  have ft : Fr [31, 33, 37, 38, 40] τ t0 := by rw [ht0]; exact (fb.mono (by decide)).us (by decide)
  have t31 : t0 31 0 = 0 := by rw [ht0, us_ne (by decide), htb, us_ne (by decide), us_eq]
  have eM : ∀ (k : Int → St → Option (Int × St)), bnd (M_begin (us τ 33 0 0)) k = k 0 tb := fun k => by rw [M_begin_eq, bnd_eq, htb]
  have b36 : s0 36 0 = 0 := by rw [hs0, us_ne (by decide), us_ne (by decide), us_ne (by decide), us_eq]
  have b38 : s0 38 0 = 0 := by rw [hs0, us_ne (by decide), us_ne (by decide), us_eq]
  have b39 : s0 39 0 = -1 := by rw [hs0, us_ne (by decide), us_eq]
  have b40 : s0 40 0 = 0 := by rw [hs0, us_eq]
  have R0 : Rdr (σ 35 0) (σ 14) s0 t0 := by
    have e1 : Fr [38, 39, 40] (us σ 36 0 0) s0 := by rw [hs0]; exact (((Fr.rf _ _).us (by decide)).us (by decide)).us (by decide)
    have e2 : Fr [40] tb t0 := by rw [ht0]; exact (Fr.rf _ _).us (by decide)
    exact hB.fr e1 e2 (by decide) (by decide)
  have A0 : SA (σ 35 0) (σ 14) s0 t0 0 := by
    refine ⟨⟨R0, ⟨by omega, by omega, by rw [b38, ht0, us_eq]⟩, fun k k0 kn => by omega, ?_⟩, b40, fun _ => ⟨b38, rfl⟩, fun e => by omega⟩
    rw [b38, b39]
    exact ⟨fun c c0 cn => by omega, fun c c0 cn => by omega, fun c c0 cn => by omega, fun c d c0 cd dn => by omega, fun e => by omega, fun c c0 cn => by omega, by omega⟩
  obtain ⟨K1, hK1⟩ : ∃ K1 : St → Option (Int × St), K1 = fun (s5 : St) => gf s5 40 fun v7 => if v7 = 0 then (some (0, s5)) else (gf s5 36 fun v8 => gf s5 35 fun v9 => if v8 = v9 then (some (1, s5)) else (some (0, s5))) := ⟨_, rfl⟩
  obtain ⟨K2, hK2⟩ : ∃ K2 : St → Option (Int × St), K2 = fun (s2 : St) => gf s2 37 fun v4 => gf s2 38 fun v5 => oif (v4 = v5) inferInstance 1 0 fun v6 => retZ v6 s2 := ⟨_, rfl⟩
  have O := (tree_loop (L := σ 35 0) (g := σ 14) (K1 := K1) (K2 := K2) (σ := s0) (τ := t0) 300 (by omega)).1 FU FU s0 t0 0 0 (by unfold FU; omega) (by unfold FU; omega) (by omega) (by omega) (by omega) (Fr.rf _ _) (Fr.rf _ _) A0
  rw [b39] at O
  have eE : Reader_readTree σ = Reader_readTree_L22 K1 FU s0 0 := by
    unfold Reader_readTree
    rw [pf_eq, pf_eq, pf_eq, pfZ_eq (Or.inl rfl), ← hs0, ← hK1, jn_eq]
  have eT : M_readsTree tb = M_readsTree_L9 K2 FU t0 (-1) 0 := by
    unfold M_readsTree
    rw [pf_eq, ← ht0, ← hK2, jn_eq]
  -- what reading gives
  have key : ∃ b s1 t1, Reader_readTree σ = some (b, s1) ∧ M_readsTree tb = some (b, t1) ∧ (s1 36 0 = t1 37 0 ∧ 0 ≤ s1 36 0 ∧ s1 36 0 ≤ 200) ∧ Fr FQ s0 s1 ∧ Fr FV t0 t1 ∧ (b = 0 ∨ (b = 1 ∧ GR (σ 35 0) (σ 14) s1 t1 ∧ s1 39 0 = -1 ∧ (s1 38 0 = 0 ∨ s1 38 0 = 1 + s1 20 0 + s1 21 0))) := by
    rcases O with ⟨s1, t1, y1, y2, y3, y4, y5⟩ | ⟨s1, t1, y1, y2, y3, y4, y5, y6, y7, y8⟩
    · exact ⟨0, s1, t1, eE.trans y1, eT.trans y2, y3, y4, y5, Or.inl rfl⟩
    · have r := y3.1
      have rp := r.2.2.2.2
      have rl := r.2.2.1
      by_cases q : s1 36 0 = σ 35 0
      · refine ⟨1, s1, t1, ?_, ?_, by omega, y7, y8, Or.inr ⟨rfl, y3, y4, y6⟩⟩
        · rw [eE, y1, hK1]
          dsimp only
          rw [gf_eq, if_neg (by omega), gf_eq, gf_eq, if_pos (by rw [r.1]; exact q)]
        · rw [eT, y2, hK2]
          dsimp only
          rw [gf_eq, gf_eq, oif_t (by rw [r.2.1]; omega) (by decide)]; rfl
      · refine ⟨0, s1, t1, ?_, ?_, by omega, y7, y8, Or.inl rfl⟩
        · rw [eE, y1, hK1]
          dsimp only
          rw [gf_eq, if_neg (by omega), gf_eq, gf_eq, if_neg (by rw [r.1]; exact q)]
        · rw [eT, y2, hK2]
          dsimp only
          rw [gf_eq, gf_eq, oif_f (by rw [r.2.1]; omega) (by decide)]; rfl
  obtain ⟨b, s1, t1, x1, x2, x3, x4, x5, x6⟩ := key
  have p35 : s1 35 0 = σ 35 0 := by rw [x4 35 (by decide), fs 35 (by decide)]
  obtain ⟨s2, hs2⟩ : ∃ s2, s2 = us s1 35 0 0 := ⟨_, rfl⟩
  have ec : Text_cut s1 0 = some (1, s2) := by rw [hs2]; exact cut0 (by omega)
  have fE : Fr (14 :: 35 :: SE) σ s2 := by rw [hs2]; exact ((fs.mono (by decide)).tr (x4.mono (by decide))).us (by decide)
  have fM : Fr (4 :: 31 :: SM) τ t1 := (ft.mono (by decide)).tr (x5.mono (by decide))
  have t131 : t1 31 0 = 0 := by rw [x5 31 (by decide)]; exact t31
  have R1 : Rws [6, 7, 8, 9] τ t1 := (Rws.fr ft (by decide) (by decide) (by decide) _).tr (Rws.fr x5 (by decide) (by decide) (by decide) _)
  have s235 : s2 35 0 = 0 := by rw [hs2, us_eq]
  have hSb : ∀ s' t', Fr [22, 28] s2 s' → Fr [1, 3, 12, 13, 14] t1 t' → Rws [6, 7, 8, 9] t1 t' → SS k s' t' := fun s' t' h1 h2 h3 =>
    hS0.txt (fE.tr (h1.mono (by decide))) (fM.tr (h2.mono (by decide))) (R1.tr h3) ⟨by rw [h1 35 (by decide), h2 31 (by decide), s235, t131], by rw [h1 35 (by decide), s235]; omega, fun j j0 jn => by rw [h1 35 (by decide), s235] at jn; omega⟩
  have p36 : s2 36 0 = s1 36 0 := by rw [hs2, us_ne (by decide)]
  rcases x6 with b0 | ⟨b1, G, go, gn⟩
  · refine ⟨-2000 - s1 36 0, s2, t1, ?_, ?_, (hSb s2 t1 (Fr.rf _ _) (Fr.rf _ _) (Rws.rf _ _)).up⟩
    · unfold E_grows
      rw [x1, bnd_eq, ec, bnd_eq, if_pos b0, gf_eq, p36, osub_eq (by omega)]
    · unfold M_grows
      rw [pf_eq, eM, x2, bnd_eq, if_pos b0, gf_eq, ← x3.1, osub_eq (by omega)]
  · by_cases a : 0 ≤ z0 ∧ z0 < 6
    · have hmany := G.many
      obtain ⟨-, g2, g3, g4⟩ := G
      rw [go] at g4
      obtain ⟨N, eN⟩ : ∃ N, N = s1 38 0 := ⟨_, rfl⟩
      rw [← eN] at hmany g2 g3 g4 gn
      have u : ∀ f, ¬ f = 35 → s2 f = s1 f := fun f hf => by rw [hs2]; exact us_f hf
      have hb : ∀ k, 0 ≤ k → k < N → (0 ≤ s1 20 k ∧ s1 20 k ≤ N) ∧ 0 ≤ s1 21 k ∧ s1 21 k ≤ N := fun k a9 b9 => by
        have h1 := g4.1 k a9 b9
        have h2 := g4.2.2.1 k a9 b9 (by omega)
        omega
      obtain ⟨v, e3, v3⟩ := fu_loop (s := s2) (N := N) (by omega) (by rw [u 38 (by decide)]; exact eN.symm) (fun k a9 b9 => by
        rw [u 21 (by decide)]
        have := hb k a9 b9
        omega) N.toNat FU 0 (by omega) (by omega) (by unfold FU; omega) (fun k a9 b9 => by omega)
      rw [u 20 (by decide), u 21 (by decide)] at v3
      obtain ⟨v', t2, e4, f4, v4, v5⟩ := un_loop (N := N) (by omega) g4 (τ := t1) (fun k a9 b9 => ⟨(g3 k a9 b9).2.2.1, (g3 k a9 b9).2.2.2.1⟩) N.toNat FU t1 (-1) (N - 1) (by omega) (by omega) (by unfold FU; omega) (Fr.rf _ _) (fun p p0 pn => by
        have h := g3 p p0 pn
        have h6 := g4.2.2.2.2.2.1 p p0 pn
        have h3 := g4.2.2.1 p p0 pn (by omega)
        refine ⟨fun e => ?_, fun e => ?_⟩
        · rw [h.2.2.2.2.1]
          by_cases z : s1 20 p = 0
          · exact z.symm
          · have := h6.1 (by omega) z
            omega
        · rw [h.2.2.2.2.2]
          by_cases z : s1 21 p = 0
          · exact z.symm
          · have := h6.2 h3 z
            omega) (Or.inl ⟨rfl, fun k a9 b9 => by omega⟩)
      have eu : M_unevenTold t1 = some (v', t2) := by
        unfold M_unevenTold
        rw [gf_eq, g2.2.2, osub_eq (by omega)]
        exact e4
      have ef : Reader_firstUneven s2 = some v := e3
      have evv : v' = v := by
        rcases v3 with ⟨q1, q2⟩ | ⟨q1, q2, q3, q4⟩
        · rcases v5 with ⟨r1, r2⟩ | ⟨r1, r2, r3, r4⟩
          · omega
          · exact absurd (q2 v' r1 r2) r3
        · rcases v5 with ⟨r1, r2⟩ | ⟨r1, r2, r3, r4⟩
          · exact absurd (r2 v q1 q2) q3
          · by_cases l : v < v'
            · exact absurd (r4 v q1 l) q3
            · by_cases l2 : v' < v
              · exact absurd (q4 v' r1 l2) r3
              · omega
      rw [evv] at eu
      by_cases w : v = -1
      · -- even
        have hE : ∀ k, 0 ≤ k → k < N → ev (s1 20) (s1 21) k := by
          rcases v3 with ⟨q1, q2⟩ | ⟨q1, q2, q3, q4⟩
          · exact q2
          · omega
        obtain ⟨t3, ht3⟩ : ∃ t3, t3 = us t2 3 7 N := ⟨_, rfl⟩
        have f3 : Fr [3] t2 t3 := by rw [ht3]; exact (Fr.rf _ _).us (by decide)
        have R3 : Rws [6, 7, 8, 9] t2 t3 := by
          rw [ht3]
          exact ⟨fun q _ => ⟨us_ne (by decide), us_ne (by decide)⟩, fun p hp => us_ni (fun e => hp (by rw [e]; decide))⟩
        obtain ⟨KE, hKE⟩ : ∃ KE : St → Option (Int × St), KE = fun (s1 : St) => gf s1 38 fun v3 => some (v3, s1) := ⟨_, rfl⟩
        obtain ⟨KM, hKM⟩ : ∃ KM : St → Option (Int × St), KM = fun (s11 : St) => bnd (M_built s11) fun _ s14 => bnd (M_takes s14 7 z0) fun _ s16 => rd s16 3 10 z0 fun v17 => some (v17, s16) := ⟨_, rfl⟩
        have fin : ∃ s4 t4, Reader_numbersByIndex_fresh_L2 KE FU s2 0 = KE s4 ∧ M_grows_L104 KM FU t3 0 = KM t4 ∧ Fr [22, 28] s2 s4 ∧ Fr [1, 13, 14] t3 t4 ∧ Rws [7] t3 t4 ∧ ∀ z, 0 ≤ z → z < N → s4 28 z = t4 1 (256 * 7 + z) ∧ -999 ≤ t4 1 (256 * 7 + z) ∧ t4 1 (256 * 7 + z) ≤ 999 := by
          have z38 : s2 38 0 = N := by rw [u 38 (by decide)]; exact eN.symm
          have z40 : t3 40 0 = N := by rw [f3 40 (by decide), f4 40 (by decide)]; exact g2.2.2
          rcases gn with n0 | n1
          · refine ⟨s2, t3, ?_, ?_, Fr.rf _ _, Fr.rf _ _, Rws.rf _ _, fun z z0 zn => by omega⟩
            · show Reader_numbersByIndex_fresh_L2 KE (7999 + 1) s2 0 = _
              unfold Reader_numbersByIndex_fresh_L2
              rw [gf_eq, z38, if_neg (by omega)]
            · show M_grows_L104 KM (7999 + 1) t3 0 = _
              unfold M_grows_L104
              rw [gf_eq, z40, if_neg (by omega)]
          · obtain ⟨s4, t4, y1, y2, y3, y4, y5, y6, y7⟩ := idx_loop (K1 := KE) (K2 := KM) (ab := s1 17) (sd := s1 18) (sr := s1 19) (ls := s1 20) (rs := s1 21) (nb := s1 16) (N := N) (by omega) g4 n1 hE (σ := s2) (τ := t3) z38 z40 (fun k a9 b9 => by
              have h := g3 k a9 b9
              rw [u 17 (by decide), u 18 (by decide), u 16 (by decide), f3 10 (by decide), f4 10 (by decide), f3 11 (by decide), f4 11 (by decide), f3 9 (by decide), f4 9 (by decide)]
              exact ⟨rfl, rfl, rfl, h.2.2.1, h.2.2.2.1, h.2.1.1, h.2.1.2⟩) N.toNat FU FU s2 t3 0 (by omega) (by omega) (by unfold FU; omega) (by unfold FU; omega) (Fr.rf _ _) (Fr.rf _ _) (Rws.rf _ _) (fun k a9 b9 => by omega) (fun k a9 b9 => by omega) (fun k a9 b9 => by omega)
            refine ⟨s4, t4, y1, y2, y3, y4, y5, fun z z0 zn => ?_⟩
            have r0 := y6 0 (by omega) (by omega)
            have a00 := g4.1 0 (by omega) (by omega)
            have i0 : s4 22 0 = 0 := r0.2.2.1 (by omega)
            obtain ⟨k, k0, kn, ke⟩ := ix_all g4 hE y6 N.toNat 0 (by omega) (by omega) (by omega) z z0 (by omega)
            have s00 : st 0 = 1 := rfl
            rw [i0, s00] at ke
            have kz : s4 22 k = z := by omega
            have := y7 k k0 kn
            rw [kz] at this
            exact this
        obtain ⟨s4, t4, y1, y2, y3, y4, y5, y6⟩ := fin
        have S4 := hSb s4 t4 y3 ((f4.mono (by decide)).tr ((f3.mono (by decide)).tr (y4.mono (by decide)))) ((Rws.fr f4 (by decide) (by decide) (by decide) _).tr (R3.tr (y5.mono (by decide))))
        have t37 : t4 3 7 = N := by rw [y4 3 (by decide), ht3, us_eq]
        obtain ⟨σ5, τ5, τ6, b1', b2, b3, b4, b5⟩ := build_ex (p := z0) S4 hk (by omega) t37 y6 a
        refine ⟨N, σ5, τ6, ?_, ?_, b5⟩
        · unfold E_grows
          have en : Reader_numbersByIndex_fresh s2 = some (N, s4) := by
            unfold Reader_numbersByIndex_fresh
            rw [← hKE, jn_eq]
            refine y1.trans ?_
            rw [hKE]
            dsimp only
            rw [gf_eq, y3 38 (by decide), u 38 (by decide), ← eN]
          rw [x1, bnd_eq, ec, bnd_eq, if_neg (by omega), E_isPlace_y a, bndp_eq, if_neg (by decide), ef, bndp_eq, if_pos w, en, bnd_eq, b1', bnd_eq]
        · unfold M_grows
          have n40 : t2 40 0 = N := by rw [f4 40 (by decide)]; exact g2.2.2
          rw [pf_eq, eM, x2, bnd_eq, if_neg (by omega), M_isPlace_y a, bndp_eq, if_neg (by decide), eu, bnd_eq, if_pos w, gf_eq, n40, wr_eq (by omega), ← ht3, ← hKM, jn_eq]
          refine y2.trans ?_
          rw [hKM]
          dsimp only
          rw [b2, bnd_eq, b3, bnd_eq, rd_eq (by omega), b4]
      · -- uneven
        have vr : 0 ≤ v ∧ v < N := by
          rcases v3 with ⟨q1, q2⟩ | ⟨q1, q2, q3, q4⟩
          · omega
          · exact ⟨q1, q2⟩
        have h := g3 v vr.1 vr.2
        have hbv := hb v vr.1 vr.2
        have hv4 := v4 v vr.1 vr.2
        obtain ⟨σ1, τ1, τ2, τ3, w1, w2, w3, w4, w5, w6, w7, w8, w9⟩ := tells3 s2 t2 (a := s1 15 v) (b := s1 20 v) (c := s1 21 v) (by omega) (by omega) (by omega)
        have S2 := hSb s2 t2 (Fr.rf _ _) (f4.mono (by decide)) (Rws.fr f4 (by decide) (by decide) (by decide) _)
        refine ⟨-2, σ1, τ3, ?_, ?_, S2.ask (w6.mono (by decide)) (w9.mono (by decide)) (Rws.fr w9 (by decide) (by decide) (by decide) _) w5⟩
        · unfold E_grows
          rw [x1, bnd_eq, ec, bnd_eq, if_neg (by omega), E_isPlace_y a, bndp_eq, if_neg (by decide), ef, bndp_eq, if_neg w, rd_eq (by omega), rd_eq (by omega), rd_eq (by omega), u 15 (by decide), u 20 (by decide), u 21 (by decide), w1, bnd_eq]
        · unfold M_grows
          have k8 : us t2 32 0 0 8 v = s1 15 v := by rw [us_ne (by decide), f4 8 (by decide)]; exact h.1.1
          have k12 : τ1 12 (2 * v) = s1 20 v := by rw [w7 12 (by decide)]; exact hv4.1
          have k13 : τ2 12 (2 * v + 1) = s1 21 v := by rw [w8 12 (by decide)]; exact hv4.2
          rw [pf_eq, eM, x2, bnd_eq, if_neg (by omega), M_isPlace_y a, bndp_eq, if_neg (by decide), eu, bnd_eq, if_neg w, pf_eq, rd_eq (by omega), k8, w2, bnd_eq, omul_eq (by omega), rd_eq (by omega), k12, w3, bnd_eq, omul_eq (by omega), oadd_eq (by omega), rd_eq (by omega), k13, w4, bnd_eq]
    · refine ⟨-1, s2, t1, ?_, ?_, (hSb s2 t1 (Fr.rf _ _) (Fr.rf _ _) (Rws.rf _ _)).up⟩
      · unfold E_grows
        rw [x1, bnd_eq, ec, bnd_eq, if_neg (by omega), E_isPlace_n a, bndp_eq, if_pos rfl]
      · unfold M_grows
        rw [pf_eq, eM, x2, bnd_eq, if_neg (by omega), M_isPlace_n a, bndp_eq, if_pos rfl]
