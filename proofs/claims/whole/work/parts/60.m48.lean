-- MATH 48: a tree read in: the two loops
theorem opens_ex {L : Int} {g : Int → Int} {s t : St} {x8 : Int} (h : SA L g s t x8) (hq : s 36 0 < L) (hc : M_here t = some 40) :
    (∃ s' t', Reader_openNode s = some (0, s') ∧ (∀ (K : St → Option (Int × St)) (n : Nat), M_readsTree_L9 K (n + 1) t (s 39 0) x8 = some (0, t')) ∧ (s' 36 0 = t' 37 0 ∧ 0 ≤ s' 36 0 ∧ s' 36 0 ≤ 200) ∧ Fr FQ s s' ∧ Fr FV t t') ∨
    (∃ s' t', Reader_openNode s = some (1, s') ∧ (∀ (K : St → Option (Int × St)) (n : Nat), M_readsTree_L9 K (n + 1) t (s 39 0) x8 = M_readsTree_L9 K n t' (s' 39 0) 0) ∧ SA L g s' t' 0 ∧ s 36 0 < s' 36 0 ∧ Fr FQ s s' ∧ Fr FV t t') := by
  obtain ⟨hG, h40, hn, hp⟩ := h
  have hm := hG.many
  have hG0 := hG
  obtain ⟨hR, hN, hC, hT⟩ := hG
  have hpos := hR.2.2.2.2
  have hl := hR.2.2.1
  obtain ⟨N, eN⟩ : ∃ N, N = s 38 0 := ⟨_, rfl⟩
  obtain ⟨o, eo⟩ : ∃ o, o = s 39 0 := ⟨_, rfl⟩
  obtain ⟨a, ea⟩ : ∃ a, a = s 36 0 := ⟨_, rfl⟩
  rw [← eN, ← eo] at hm
  rw [← eN, ← ea] at hN
  rw [← eN, ← eo] at hn
  rw [← eo] at hp
  rw [← ea] at hpos hq
  have hN2 : N < 100 := by omega
  obtain ⟨t1, ht1⟩ : ∃ t1, t1 = us (us (us (us (us (us t 8 N a) 10 N o) 11 N x8) 12 (2 * N) 0) 12 (2 * N + 1) 0) 40 0 (N + 1) := ⟨_, rfl⟩
  have f1 : Fr [8, 10, 11, 12, 40] t t1 := by
    rw [ht1]
    exact ((((((Fr.rf _ _).us (by decide)).us (by decide)).us (by decide)).us (by decide)).us (by decide)).us (by decide)
  have R1 : Rdr L g s t1 := hR.fr (Fr.rf [] s) f1 (by decide) (by decide)
  have R2 := R1.adv (by omega)
  obtain ⟨s4, hs4⟩ : ∃ s4, s4 = us s 36 0 (s 36 0 + 1) := ⟨_, rfl⟩
  obtain ⟨t4, ht4⟩ : ∃ t4, t4 = us t1 37 0 (t1 37 0 + 1) := ⟨_, rfl⟩
  rw [← hs4, ← ht4] at R2
  have f4 : Fr [36] s s4 := by rw [hs4]; exact (Fr.rf _ _).us (by decide)
  have f5 : Fr [37] t1 t4 := by rw [ht4]; exact (Fr.rf _ _).us (by decide)
  have e36 : s4 36 0 = a + 1 := by rw [hs4, us_eq, ← ea]
  have e37 : t1 37 0 = a := by rw [f1 37 (by decide)]; omega
  obtain ⟨b, s6, t6, x1, x2, R3, f6, f7, hb, hv, hle, hlt⟩ := rn_ex R2
  have p3 := R3.2.2.2.2
  have fE : Fr FQ s s6 := (f4.mono (by decide)).tr (f6.mono (by decide))
  have fM : Fr FV t t6 := (f1.mono (by decide)).tr ((f5.mono (by decide)).tr (f7.mono (by decide)))
  have q38 : s6 38 0 = N := by rw [f6 38 (by decide), f4 38 (by decide), eN]
  have q39 : s6 39 0 = o := by rw [f6 39 (by decide), f4 39 (by decide), eo]
  have q19 : s6 19 = s 19 := by rw [f6 19 (by decide), f4 19 (by decide)]
  have mstep : ∀ (K : St → Option (Int × St)) (n : Nat), M_readsTree_L9 K (n + 1) t (s 39 0) x8 = if b = 0 then some (0, t6) else (gf t6 39 fun v47 => wr t6 9 200 N v47 fun s48 => M_readsTree_L9 K n s48 N 0) := fun K n => by
    have t40 : t 40 0 = N := hN.2.2
    have t37 : t 37 0 = a := by omega
    conv => lhs; unfold M_readsTree_L9
    rw [hc, bndp_eq, if_pos rfl, gf_eq, t40, gf_eq, t37, wr_eq (by omega), wr_eq (by omega), wr_eq (by omega), omul_eq (by omega), wr_eq (by omega), omul_eq (by omega), oadd_eq (by omega), wr_eq (by omega), gf_eq]
    have k40 : us (us (us (us (us t 8 N a) 10 N (s 39 0)) 11 N x8) 12 (2 * N) 0) 12 (2 * N + 1) 0 40 0 = N := by
      rw [us_f (by decide), us_f (by decide), us_f (by decide), us_f (by decide), us_f (by decide)]; exact t40
    rw [k40, oadd_eq (by omega), pf_eq]
    rw [← eo, ← ht1, gf_eq, e37, oadd_eq (by omega), pf_eq]
    have k4 : us t1 37 0 (a + 1) = t4 := by rw [ht4, e37]
    rw [k4, x2, bnd_eq]
  have estep : Reader_openNode s = if b = 0 then some (0, s6) else (some (1, us (us (us (us (us (us (us s6 15 N a) 16 N (s6 37 0)) 17 N o) 18 N x8) 19 N 0) 39 0 N) 38 0 (N + 1))) := by
    unfold Reader_openNode
    rw [gf_eq, gf_eq, oadd_eq (by omega), pf_eq, ← hs4, x1, bnd_eq]
    by_cases z : b = 0
    · rw [if_pos z, if_pos z]
    · rw [if_neg z, if_neg z, gf_eq, q38, if_pos (by omega), gf_eq, q38, wr_eq (by omega), ← ea]
      have k1 : ∀ f, ¬ f = 15 → us s6 15 N a f = s6 f := fun f hf => us_f hf
      rw [gf_eq, k1 38 (by decide), q38, gf_eq, k1 37 (by decide), wr_eq (by omega)]
      have k2 : ∀ f, ¬ f = 15 → ¬ f = 16 → us (us s6 15 N a) 16 N (s6 37 0) f = s6 f := fun f hf hg => by rw [us_f hg, us_f hf]
      rw [gf_eq, k2 38 (by decide) (by decide), q38, gf_eq, k2 39 (by decide) (by decide), q39, wr_eq (by omega)]
      have k3 : ∀ f, ¬ f = 15 → ¬ f = 16 → ¬ f = 17 → us (us (us s6 15 N a) 16 N (s6 37 0)) 17 N o f = s6 f := fun f hf hg hh => by rw [us_f hh, us_f hg, us_f hf]
      rw [gf_eq, k3 38 (by decide) (by decide) (by decide), q38, gf_eq, k3 39 (by decide) (by decide) (by decide), q39, jn_eq]
      have fin : ∀ y, y = x8 → (wr (us (us (us s6 15 N a) 16 N (s6 37 0)) 17 N o) 18 100 N y fun s20 => gf s20 38 fun v21 => wr s20 19 100 v21 0 fun s22 => gf s22 38 fun v23 => pf s22 39 v23 fun s24 => gf s24 38 fun v25 => oadd v25 1 fun v26 => pf s24 38 v26 fun s27 => some ((1 : Int), s27)) = some (1, us (us (us (us (us (us (us s6 15 N a) 16 N (s6 37 0)) 17 N o) 18 N x8) 19 N 0) 39 0 N) 38 0 (N + 1)) := fun y ey => by
        rw [ey, wr_eq (by omega), gf_eq]
        have k4 : us (us (us (us s6 15 N a) 16 N (s6 37 0)) 17 N o) 18 N x8 38 0 = N := by rw [us_f (by decide), k3 38 (by decide) (by decide) (by decide)]; exact q38
        rw [k4, wr_eq (by omega), gf_eq]
        have k5 : us (us (us (us (us s6 15 N a) 16 N (s6 37 0)) 17 N o) 18 N x8) 19 N 0 38 0 = N := by rw [us_f (by decide)]; exact k4
        rw [k5, pf_eq, gf_eq]
        have k6 : us (us (us (us (us (us s6 15 N a) 16 N (s6 37 0)) 17 N o) 18 N x8) 19 N 0) 39 0 N 38 0 = N := by rw [us_f (by decide)]; exact k5
        rw [k6, oadd_eq (by omega), pf_eq]
      by_cases w : o = -1
      · rw [if_pos w]
        exact fin 0 (hn w).2.symm
      · have w0 : 0 ≤ o := by omega
        have w1 := hp w0
        rw [if_neg w, gf_eq, k3 39 (by decide) (by decide) (by decide), q39, rd_eq (by omega), k3 19 (by decide) (by decide) (by decide), q19]
        exact fin _ w1.1.symm
  by_cases z : b = 0
  · refine Or.inl ⟨s6, t6, by rw [estep, if_pos z], fun K n => by rw [mstep, if_pos z], by omega, fE, fM⟩
  · have b1 : b = 1 := by omega
    have hgt := hlt b1
    obtain ⟨s', hs'⟩ : ∃ s', s' = us (us (us (us (us (us (us s6 15 N a) 16 N (s6 37 0)) 17 N o) 18 N x8) 19 N 0) 39 0 N) 38 0 (N + 1) := ⟨_, rfl⟩
    obtain ⟨t', ht'⟩ : ∃ t', t' = us t6 9 N (t6 39 0) := ⟨_, rfl⟩
    have gE : Fr [15, 16, 17, 18, 19, 39, 38] s6 s' := by
      rw [hs']
      exact (((((((Fr.rf _ _).us (by decide)).us (by decide)).us (by decide)).us (by decide)).us (by decide)).us (by decide)).us (by decide)
    have gM : Fr [9] t6 t' := by rw [ht']; exact (Fr.rf _ _).us (by decide)
    have i15 : s' 15 = st1 (s 15) N a := by
      rw [hs', us_f (by decide), us_f (by decide), us_f (by decide), us_f (by decide), us_f (by decide), us_f (by decide), us_st1, f6 15 (by decide), f4 15 (by decide)]
    have i16 : s' 16 = st1 (s 16) N (s6 37 0) := by
      rw [hs', us_f (by decide), us_f (by decide), us_f (by decide), us_f (by decide), us_f (by decide), us_st1, us_f (by decide), f6 16 (by decide), f4 16 (by decide)]
    have i17 : s' 17 = st1 (s 17) N o := by
      rw [hs', us_f (by decide), us_f (by decide), us_f (by decide), us_f (by decide), us_st1, us_f (by decide), us_f (by decide), f6 17 (by decide), f4 17 (by decide)]
    have i18 : s' 18 = st1 (s 18) N x8 := by
      rw [hs', us_f (by decide), us_f (by decide), us_f (by decide), us_st1, us_f (by decide), us_f (by decide), us_f (by decide), f6 18 (by decide), f4 18 (by decide)]
    have i19 : s' 19 = st1 (s 19) N 0 := by
      rw [hs', us_f (by decide), us_f (by decide), us_st1, us_f (by decide), us_f (by decide), us_f (by decide), us_f (by decide), q19]
    have i20 : s' 20 = s 20 := by rw [gE 20 (by decide), f6 20 (by decide), f4 20 (by decide)]
    have i21 : s' 21 = s 21 := by rw [gE 21 (by decide), f6 21 (by decide), f4 21 (by decide)]
    have i38 : s' 38 0 = N + 1 := by rw [hs', us_eq]
    have i39 : s' 39 0 = N := by rw [hs', us_f (by decide), us_eq]
    have i36 : s' 36 0 = s6 36 0 := by rw [gE 36 (by decide)]
    have u : ∀ f, f ∉ [37, 39] → ¬ f = 9 → t' f = t1 f := fun f h1 h2 => by
      rw [ht', us_f h2, f7 f h1, f5 f (by intro e; exact h1 (by simp at e; rw [e]; decide))]
    have j8 : t' 8 = st1 (t 8) N a := by
      rw [u 8 (by decide) (by decide), ht1, us_f (by decide), us_f (by decide), us_f (by decide), us_f (by decide), us_f (by decide), us_st1]
    have j9 : t' 9 = st1 (t 9) N (s6 37 0) := by
      rw [ht', us_st1, f7 9 (by decide), f5 9 (by decide), f1 9 (by decide), hv.1]
    have j10 : t' 10 = st1 (t 10) N o := by
      rw [u 10 (by decide) (by decide), ht1, us_f (by decide), us_f (by decide), us_f (by decide), us_f (by decide), us_st1, us_f (by decide)]
    have j11 : t' 11 = st1 (t 11) N x8 := by
      rw [u 11 (by decide) (by decide), ht1, us_f (by decide), us_f (by decide), us_f (by decide), us_st1, us_f (by decide), us_f (by decide)]
    have j12 : t' 12 = st1 (st1 (t 12) (2 * N) 0) (2 * N + 1) 0 := by
      rw [u 12 (by decide) (by decide), ht1, us_f (by decide), us_st1, us_st1, us_f (by decide), us_f (by decide), us_f (by decide)]
    have j40 : t' 40 0 = N + 1 := by rw [u 40 (by decide) (by decide), ht1, us_eq]
    refine Or.inr ⟨s', t', by rw [estep, if_neg z, ← hs'], fun K n => by rw [mstep, if_neg z, gf_eq, wr_eq (by omega), ← ht', i39], ⟨⟨R3.fr gE gM (by decide) (by decide), by omega, fun k k0 kn => ?_, ?_⟩, ?_, fun e => by omega, fun e => ?_⟩, by omega, fE.tr (gE.mono (by decide)), fM.tr (gM.mono (by decide))⟩
    · rw [i38] at kn
      rw [i15, i16, i17, i18, j8, j9, j10, j11, j12]
      by_cases e : k = N
      · simp (disch := omega) only [st1_y, st1_n]
        refine ⟨⟨trivial, by omega⟩, ⟨trivial, hv.2⟩, trivial, trivial, trivial, trivial⟩
      · simp (disch := omega) only [st1_n]
        exact hC k k0 (by omega)
    · rw [i17, i18, i19, i20, i21, i38, i39]
      rw [← eN, ← eo] at hT
      exact hT.op (fun e => (hn e).1) (fun e => by have := hp e; omega) (fun e => (hn e).2)
    · rw [gE 40 (by decide), f6 40 (by decide), f4 40 (by decide)]; exact h40
    · rw [i39, i19, st1_y rfl]; omega
def Oc (L : Int) (g : Int → Int) (K1 K2 : St → Option (Int × St)) (σ τ : St) (E M : Option (Int × St)) : Prop :=
  (∃ s' t', E = some (0, s') ∧ M = some (0, t') ∧ (s' 36 0 = t' 37 0 ∧ 0 ≤ s' 36 0 ∧ s' 36 0 ≤ 200) ∧ Fr FQ σ s' ∧ Fr FV τ t') ∨
  (∃ s' t', E = K1 s' ∧ M = K2 t' ∧ GR L g s' t' ∧ s' 39 0 = -1 ∧ s' 40 0 = 1 ∧ (s' 38 0 = 0 ∨ s' 38 0 = 1 + s' 20 0 + s' 21 0) ∧ Fr FQ σ s' ∧ Fr FV τ t')
theorem tree_loop {L : Int} {g : Int → Int} {K1 K2 : St → Option (Int × St)} {σ τ : St} : ∀ r : Nat, r ≤ 5000 →
    (∀ (m1 m2 : Nat) (s t : St) (x8 x10 : Int), r + 1 ≤ m1 → r + 1 ≤ m2 → L - s 36 0 < r → 0 ≤ x10 → x10 ≤ s 36 0 → Fr FQ σ s → Fr FV τ t → SA L g s t x8 → Oc L g K1 K2 σ τ (Reader_readTree_L22 K1 m1 s x10) (M_readsTree_L9 K2 m2 t (s 39 0) x8)) ∧
    (∀ (m1 m3 m4 : Nat) (s t : St) (x20 x10 : Int), r + 1 ≤ m1 → r + 1 ≤ m3 → r + 1 ≤ m4 → L - s 36 0 < r → 0 ≤ x10 → x10 ≤ s 36 0 → Fr FQ σ s → Fr FV τ t → SB L g s t x20 → Oc L g K1 K2 σ τ (Reader_readTree_L22 K1 m1 s x10) (M_readsTree_L134 (fun (s16 : St) (x17 : Int) => if x17 = (-1) then (K2 s16) else (M_readsTree_L9 K2 m3 s16 x17 1)) m4 t (s 39 0) x20)) := by
  intro r
  induction r with
  | zero =>
    intro _
    refine ⟨fun m1 m2 s t x8 x10 _ _ h _ _ _ _ hA => ?_, fun m1 m3 m4 s t x20 x10 _ _ _ h _ _ _ _ hB => ?_⟩
    · have := hA.1.1.2.2.2.2
      exfalso; omega
    · have := hB.1.1.2.2.2.2
      exfalso; omega
  | succ r ih =>
    intro hr5
    obtain ⟨ihA, ihB⟩ := ih (by omega)
    have A : ∀ (m1 m2 : Nat) (s t : St) (x8 x10 : Int), r + 1 + 1 ≤ m1 → r + 1 + 1 ≤ m2 → L - s 36 0 < (r + 1 : Nat) → 0 ≤ x10 → x10 ≤ s 36 0 → Fr FQ σ s → Fr FV τ t → SA L g s t x8 → Oc L g K1 K2 σ τ (Reader_readTree_L22 K1 m1 s x10) (M_readsTree_L9 K2 m2 t (s 39 0) x8) := by
      intro m1 m2 s t x8 x10 hm1 hm2 hL hx0 hx hE hM hA
      cases m1 with
      | zero => omega
      | succ m1 =>
      cases m2 with
      | zero => omega
      | succ m2 =>
      have hR := hA.1.1
      have hpos := hR.2.2.2.2
      have hl := hR.2.2.1
      have hm := hA.1.many
      obtain ⟨c, e1, e2, hc⟩ := hR.here
      have ePart : Reader_readPart s = (if c = 46 then (gf s 36 fun v7 => oadd v7 1 fun v8 => pf s 36 v8 fun s9 => bnd (Reader_settle s9 0) fun _ s11 => some (1, s11)) else (if c = 40 then (bnd (Reader_openNode s) fun v5 s6 => if v5 = 0 then (some (0, s6)) else (some (1, s6))) else (some (0, s)))) := by
        unfold Reader_readPart
        rw [gf_eq, e1, bndp_eq, gf_eq, jn_eq]
        by_cases w : s 39 0 = -1
        · rw [if_pos w]
        · have w1 := hA.2.2.2 (by omega)
          rw [if_neg w, gf_eq, rd_eq (by omega), if_neg (by omega)]
      have eE : ∀ (b : Int) (s2 : St), Reader_readPart s = some (b, s2) → Reader_readTree_L22 K1 (m1 + 1) s x10 = if b = 0 then some (0, s2) else Reader_readTree_L22 K1 m1 s2 (x10 + 1) := fun b s2 hp => by
        conv => lhs; unfold Reader_readTree_L22
        rw [if_neg (by omega), gf_eq, if_pos hA.2.1, hp, bnd_eq, oadd_eq (by omega)]
      by_cases c46 : c = 46
      · have hlt := hc (by omega)
        obtain ⟨s2, y1, y2, y3, y4, y5⟩ := dot_ex hA hlt
        have hp : Reader_readPart s = some (1, s2) := by
          rw [ePart, if_pos c46, gf_eq, oadd_eq (by omega), pf_eq, y1, bnd_eq]
        rw [eE 1 s2 hp, if_neg (by decide)]
        have eM : M_readsTree_L9 K2 (m2 + 1) t (s 39 0) x8 = M_readsTree_L134 (fun (s16 : St) (x17 : Int) => if x17 = (-1) then (K2 s16) else (M_readsTree_L9 K2 m2 s16 x17 1)) FU (us t 37 0 (t 37 0 + 1)) (s2 39 0) x8 := by
          conv => lhs; unfold M_readsTree_L9
          rw [e2, bndp_eq, if_neg (by omega), bndp_eq, if_pos c46, gf_eq, oadd_eq (by omega), pf_eq, y3, jn_eq]
        rw [eM]
        exact ihB m1 m2 FU s2 _ x8 (x10 + 1) (by omega) (by omega) (by unfold FU; omega) (by omega) (by omega) (by omega) (hE.tr y5) (hM.us (by decide)) y2
      · by_cases c40 : c = 40
        · have hlt := hc (by omega)
          rcases opens_ex hA hlt (by rw [e2, c40]) with ⟨s2, t2, y1, y2, y3, y4, y5⟩ | ⟨s2, t2, y1, y2, y3, y4, y5, y6⟩
          · have hp : Reader_readPart s = some (0, s2) := by
              rw [ePart, if_neg c46, if_pos c40, y1, bnd_eq, if_pos rfl]
            rw [eE 0 s2 hp, if_pos rfl, y2]
            exact Or.inl ⟨s2, t2, rfl, rfl, y3, hE.tr y4, hM.tr y5⟩
          · have hp : Reader_readPart s = some (1, s2) := by
              rw [ePart, if_neg c46, if_pos c40, y1, bnd_eq, if_neg (by decide)]
            rw [eE 1 s2 hp, if_neg (by decide), y2]
            exact ihA m1 m2 s2 t2 0 (x10 + 1) (by omega) (by omega) (by omega) (by omega) (by omega) (hE.tr y5) (hM.tr y6) y3
        · have hp : Reader_readPart s = some (0, s) := by
            rw [ePart, if_neg c46, if_neg c40]
          have eM : M_readsTree_L9 K2 (m2 + 1) t (s 39 0) x8 = some (0, t) := by
            conv => lhs; unfold M_readsTree_L9
            rw [e2, bndp_eq, if_neg c40, bndp_eq, if_neg c46]
          rw [eE 0 s hp, if_pos rfl, eM]
          exact Or.inl ⟨s, t, rfl, rfl, by omega, hE, hM⟩
    refine ⟨A, ?_⟩
    intro m1 m3 m4 s t x20 x10 hm1 hm3 hm4 hL hx0 hx hE hM hB
    have hR := hB.1.1
    have hpos := hR.2.2.2.2
    have hl := hR.2.2.1
    have hm := hB.1.many
    cases m1 with
    | zero => omega
    | succ m1 =>
    cases m4 with
    | zero => omega
    | succ m4 =>
    by_cases w : s 39 0 = -1
    · have w1 := hB.2.1 w
      refine Or.inr ⟨s, t, ?_, ?_, hB.1, w, w1.1, w1.2, hE, hM⟩
      · unfold Reader_readTree_L22
        rw [if_neg (by omega), gf_eq, if_neg (by omega)]
      · unfold M_readsTree_L134
        rw [if_pos w, if_pos w]
    · have w1 := hB.2.2 (by omega)
      by_cases z : x20 = 1
      · obtain ⟨c, e1, e2, hc⟩ := hR.here
        have ePart : Reader_readPart s = (if c = 41 then (bnd (Reader_close s) fun v14 s15 => if v14 = 0 then (some (0, s15)) else (some (1, s15))) else (some (0, s))) := by
          unfold Reader_readPart
          rw [gf_eq, e1, bndp_eq, gf_eq, jn_eq, if_neg w, gf_eq, rd_eq (by omega), if_pos (by omega)]
        have eE : ∀ (b : Int) (s2 : St), Reader_readPart s = some (b, s2) → Reader_readTree_L22 K1 (m1 + 1) s x10 = if b = 0 then some (0, s2) else Reader_readTree_L22 K1 m1 s2 (x10 + 1) := fun b s2 hp => by
          conv => lhs; unfold Reader_readTree_L22
          rw [if_neg (by omega), gf_eq, if_pos w1.1, hp, bnd_eq, oadd_eq (by omega)]
        by_cases c41 : c = 41
        · have hlt := hc (by omega)
          rw [z] at hB
          obtain ⟨s2, y1, y2, y3, y4, y5⟩ := close_ex' hB (by omega) hlt
          have hp : Reader_readPart s = some (1, s2) := by
            rw [ePart, if_pos c41, y1, bnd_eq, if_neg (by decide)]
          have hC := hB.1.2.2.1 (s 39 0) (by omega) (by omega)
          have eM : M_readsTree_L134 (fun (s16 : St) (x17 : Int) => if x17 = (-1) then (K2 s16) else (M_readsTree_L9 K2 m3 s16 x17 1)) (m4 + 1) t (s 39 0) x20 = M_readsTree_L134 (fun (s16 : St) (x17 : Int) => if x17 = (-1) then (K2 s16) else (M_readsTree_L9 K2 m3 s16 x17 1)) m4 (us t 37 0 (t 37 0 + 1)) (s2 39 0) (s 18 (s 39 0)) := by
            conv => lhs; unfold M_readsTree_L134
            rw [if_neg w, if_pos z, e2, bndp_eq, if_pos c41, gf_eq, oadd_eq (by omega), pf_eq, rd_eq (by omega), us_ne (by decide), rd_eq (by omega), us_ne (by decide), hC.2.2.1, hC.2.2.2.1, y3]
          rw [eE 1 s2 hp, if_neg (by decide), eM]
          exact ihB m1 m3 m4 s2 _ _ (x10 + 1) (by omega) (by omega) (by omega) (by omega) (by omega) (by omega) (hE.tr y5) (hM.us (by decide)) y2
        · have hp : Reader_readPart s = some (0, s) := by rw [ePart, if_neg c41]
          have eM : M_readsTree_L134 (fun (s16 : St) (x17 : Int) => if x17 = (-1) then (K2 s16) else (M_readsTree_L9 K2 m3 s16 x17 1)) (m4 + 1) t (s 39 0) x20 = some (0, t) := by
            conv => lhs; unfold M_readsTree_L134
            rw [if_neg w, if_pos z, e2, bndp_eq, if_neg c41]
          rw [eE 0 s hp, if_pos rfl, eM]
          exact Or.inl ⟨s, t, rfl, rfl, by omega, hE, hM⟩
      · have eM : M_readsTree_L134 (fun (s16 : St) (x17 : Int) => if x17 = (-1) then (K2 s16) else (M_readsTree_L9 K2 m3 s16 x17 1)) (m4 + 1) t (s 39 0) x20 = M_readsTree_L9 K2 m3 t (s 39 0) 1 := by
          conv => lhs; unfold M_readsTree_L134
          rw [if_neg w, if_neg z, if_neg w]
        rw [eM]
        exact A (m1 + 1) m3 s t 1 x10 hm1 hm3 hL hx0 hx hE hM ⟨hB.1, w1.1, fun e => absurd e w, fun _ => by omega⟩
