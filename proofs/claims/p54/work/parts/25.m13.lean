-- MATH 13: the relation between calls; checks; steps on the row that is made
def Tx (σ τ : St) : Prop := σ 35 0 = τ 31 0 ∧ (0 ≤ σ 35 0 ∧ σ 35 0 ≤ 200) ∧ ∀ j, 0 ≤ j → j < σ 35 0 → σ 14 j = band (τ 4 j) 255
def Rw (σ τ : St) : Prop := σ 34 0 = τ 32 0 ∧ (0 ≤ σ 34 0 ∧ σ 34 0 ≤ 16) ∧ ∀ j, 0 ≤ j → j < σ 34 0 → σ 13 j = τ 5 j
def Sn (k : Nat) (σ : St) : Prop := (0 ≤ σ 33 0 ∧ σ 33 0 ≤ 256 * (k : Int)) ∧ ∀ a, 0 ≤ a → a < 6144 → 0 ≤ σ 11 a ∧ σ 11 a ≤ σ 33 0 + 255
def Mb (k : Nat) (σ τ : St) : Prop := σ 32 0 = τ 30 0 ∧ 0 ≤ σ 32 0 ∧ σ 32 0 ≤ 4096 * (k : Int)
def SS (k : Nat) (σ τ : St) : Prop := (∃ ρ, Wd ρ σ τ) ∧ Tx σ τ ∧ Rw σ τ ∧ Sn k σ ∧ Mb k σ τ
def SE : List Nat := [12, 15, 16, 17, 18, 19, 20, 21, 22, 23, 26, 27, 28, 29, 36, 37, 38, 39, 40, 41, 42, 43, 44]
def SM : List Nat := [1, 2, 3, 6, 7, 8, 9, 10, 11, 12, 13, 14, 33, 34, 35, 36, 37, 38, 39, 40, 41, 42, 43, 44, 45]
theorem Tx.fr {σ τ σ' τ' : St} {m n : List Nat} (h : Tx σ τ) (hE : Fr m σ σ') (hM : Fr n τ τ') (a : 14 ∉ m ∧ 35 ∉ m) (b : 4 ∉ n ∧ 31 ∉ n) : Tx σ' τ' := by
  unfold Tx
  rw [hE 14 a.1, hE 35 a.2, hM 4 b.1, hM 31 b.2]; exact h
theorem Rw.fr {σ τ σ' τ' : St} {m n : List Nat} (h : Rw σ τ) (hE : Fr m σ σ') (hM : Fr n τ τ') (a : 13 ∉ m ∧ 34 ∉ m) (b : 5 ∉ n ∧ 32 ∉ n) : Rw σ' τ' := by
  unfold Rw
  rw [hE 13 a.1, hE 34 a.2, hM 5 b.1, hM 32 b.2]; exact h
theorem Sn.fr {k : Nat} {σ σ' : St} {m : List Nat} (h : Sn k σ) (hE : Fr m σ σ') (a : 11 ∉ m ∧ 33 ∉ m) : Sn (k + 1) σ' := by
  unfold Sn at *
  rw [hE 11 a.1, hE 33 a.2]; exact ⟨by omega, h.2⟩
theorem Mb.fr {k : Nat} {σ τ σ' τ' : St} {m n : List Nat} (h : Mb k σ τ) (hE : Fr m σ σ') (hM : Fr n τ τ') (a : 32 ∉ m) (b : 30 ∉ n) : Mb (k + 1) σ' τ' := by
  unfold Mb at *
  rw [hE 32 a, hM 30 b]; omega
theorem SS.ask {k : Nat} {σ τ σ' τ' : St} (h : SS k σ τ) (hE : Fr (13 :: 34 :: SE) σ σ') (hM : Fr (5 :: 32 :: SM) τ τ') (hR : Rws [6, 7, 8, 9] τ τ') (hr : Rw σ' τ') : SS (k + 1) σ' τ' := by
  obtain ⟨⟨ρ, hW⟩, hT, -, hn, hm⟩ := h
  exact ⟨⟨ρ, hW.mv hE (by decide) hR (by decide) (by rw [hM 30 (by decide)])⟩, hT.fr hE hM (by decide) (by decide), hr, hn.fr hE (by decide), hm.fr hE hM (by decide) (by decide)⟩
theorem SS.asq {k : Nat} {σ τ σ' τ' : St} (h : SS k σ τ) (hE : Fr SE σ σ') (hM : Fr SM τ τ') (hR : Rws [6, 7, 8, 9] τ τ') : SS (k + 1) σ' τ' :=
  h.ask (hE.mono (by decide)) (hM.mono (by decide)) hR (h.2.2.1.fr hE hM (by decide) (by decide))
theorem fr_sc (l : List Nat) (τ : St) (f : Nat) (v : Int) (h : f ∈ l) : Fr l τ (us τ f 0 v) := (Fr.rf l τ).us h
theorem SS.thr {k : Nat} {σ τ : St} (h : SS k σ τ) : SS (k + 1) σ (us τ 33 0 0) :=
  h.asq (Fr.rf _ _) (fr_sc _ _ _ _ (by decide)) (Rws.fr (fr_sc [33] _ _ _ (by decide)) (by decide) (by decide) (by decide) _)
theorem E_isPlace_y {p : Int} (h : 0 ≤ p ∧ p < 6) : E_isPlace p = some 1 := by
  unfold E_isPlace
  simp (disch := omega) only [ite_y, ite_n]
theorem E_isPlace_n {p : Int} (h : ¬ (0 ≤ p ∧ p < 6)) : E_isPlace p = some 0 := by
  unfold E_isPlace
  by_cases h1 : p < 0
  · simp (disch := omega) only [ite_y, ite_n]
  · simp (disch := omega) only [ite_y, ite_n]
theorem E_isNumber_y {p : Int} (h : -999 ≤ p ∧ p ≤ 999) : E_isNumber p = some 1 := by
  unfold E_isNumber
  simp (disch := omega) only [ite_y, ite_n]
theorem E_isNumber_n {p : Int} (h : ¬ (-999 ≤ p ∧ p ≤ 999)) : E_isNumber p = some 0 := by
  unfold E_isNumber
  by_cases h1 : p < -999
  · simp (disch := omega) only [ite_y, ite_n]
  · simp (disch := omega) only [ite_y, ite_n]
theorem M_in_y {p a b : Int} (h : a ≤ p ∧ p ≤ b) : M_in p a b = some 1 := by
  unfold M_in lcmpv
  simp only [opure_eq]
  rw [if_neg (show ¬ p < a by omega)]
  by_cases e : p = a
  · rw [if_pos e, if_neg (by decide)]
    by_cases e2 : p = b
    · rw [if_neg (show ¬ p < b by omega), if_pos e2, if_neg (by decide)]
    · rw [if_pos (show p < b by omega), if_neg (by decide)]
  · rw [if_neg e, if_neg (by decide)]
    by_cases e2 : p = b
    · rw [if_neg (show ¬ p < b by omega), if_pos e2, if_neg (by decide)]
    · rw [if_pos (show p < b by omega), if_neg (by decide)]
theorem M_in_n {p a b : Int} (h : ¬ (a ≤ p ∧ p ≤ b)) : M_in p a b = some 0 := by
  unfold M_in lcmpv
  simp only [opure_eq]
  by_cases h1 : p < a
  · rw [if_pos h1, if_pos (by decide)]
  · rw [if_neg h1, if_neg (show ¬ p < b by omega), if_neg (show ¬ p = b by omega)]
    by_cases e : p = a
    · rw [if_pos e, if_neg (by decide), if_pos (by decide)]
    · rw [if_neg e, if_neg (by decide), if_pos (by decide)]
theorem M_isPlace_y {p : Int} (h : 0 ≤ p ∧ p < 6) : M_isPlace p = some 1 := by
  unfold M_isPlace
  rw [M_in_y (by omega), bndp_eq, retZp_1]
theorem M_isPlace_n {p : Int} (h : ¬ (0 ≤ p ∧ p < 6)) : M_isPlace p = some 0 := by
  unfold M_isPlace
  rw [M_in_n (by omega), bndp_eq, retZp_0]
theorem M_isNumber_y {p : Int} (h : -999 ≤ p ∧ p ≤ 999) : M_isNumber p = some 1 := by
  unfold M_isNumber
  rw [M_in_y (by omega), bndp_eq, retZp_1]
theorem M_isNumber_n {p : Int} (h : ¬ (-999 ≤ p ∧ p ≤ 999)) : M_isNumber p = some 0 := by
  unfold M_isNumber
  rw [M_in_n (by omega), bndp_eq, retZp_0]
/-- room for so many new nodes -/
def Cx (ρ : Int → Int → Prop) (σ τ : St) (D : Int) : Prop := Bi ρ σ τ ∧ Alloc σ ∧ D ≤ σ 31 0 ∧ (0 ≤ σ 32 0 ∧ σ 32 0 + D ≤ 2147483000) ∧ 0 ≤ τ 30 0 ∧ τ 30 0 + D ≤ 2147483000
theorem Cx.sx {ρ ρ' : Int → Int → Prop} {σ τ σ' τ' : St} {D d e : Int} (h : Cx ρ σ τ D) (hX : Sx ρ σ τ ρ' σ' τ' d) (he : e + d ≤ D) : Cx ρ' σ' τ' e := by
  obtain ⟨h1, h2, h3, h4, h5⟩ := h
  have c := hX.2.2.2.2.2.2.2
  unfold Cnt at c
  exact ⟨hX.2.2.1, hX.2.2.2.1, by omega, by omega, by omega⟩
theorem Cx.le {ρ : Int → Int → Prop} {σ τ : St} {D e : Int} (h : Cx ρ σ τ D) (he : e ≤ D) : Cx ρ σ τ e := by
  obtain ⟨h1, h2, h3, h4, h5⟩ := h
  exact ⟨h1, h2, by omega, by omega, by omega⟩
theorem Cx.mv {ρ : Int → Int → Prop} {σ τ τ' : St} {D : Int} (h : Cx ρ σ τ D) (h30 : τ' 30 0 = τ 30 0) : Cx ρ σ τ' D := by
  obtain ⟨h1, h2, h3, h4, h5⟩ := h
  exact ⟨h1.mono (by omega), h2, h3, h4, by omega⟩
theorem Sx.pre {ρ ρ' : Int → Int → Prop} {σ τ τ0 σ' τ' : St} {d : Int} (h : Sx ρ σ τ0 ρ' σ' τ' d) (hB : Bi ρ σ τ) (hA : Alloc σ) (hF : Fr FM τ τ0) (h30 : τ0 30 0 = τ 30 0) : Sx ρ σ τ ρ' σ' τ' d :=
  ((Sx.rf hB hA hF h30).tr h).le (by omega)
theorem Sx.post {ρ ρ' : Int → Int → Prop} {σ τ σ' τ' τ2 : St} {d : Int} (h : Sx ρ σ τ ρ' σ' τ' d) (hF : Fr FM τ' τ2) (h30 : τ2 30 0 = τ' 30 0) : Sx ρ σ τ ρ' σ' τ2 d :=
  (h.tr (Sx.rf h.2.2.1 h.2.2.2.1 hF h30)).le (by omega)
theorem Keep7.rws {τ τ' : St} {n : Int} (h : Keep7 τ τ' 0 1 n) (hn : n ≤ 256) (h3 : τ' 3 = τ 3) : Rws [7] τ τ' :=
  ⟨fun q hq => h q (fun k k0 kn => by have := hq 7 (by decide); rw [vw1]; omega), fun p _ => by rw [h3]⟩
theorem Vok01 (n : Int) (h : n ≤ 256) : Vok 0 1 n := fun k a b => by omega
theorem RD_eq : RD = 12 := rfl
theorem p2_12 : p2 12 = 4096 := rfl
theorem p2_8 : p2 8 = 256 := rfl
theorem Sx.cnt {ρ ρ' : Int → Int → Prop} {σ τ σ' τ' : St} {d : Int} (h : Sx ρ σ τ ρ' σ' τ' d) : σ' 32 0 - σ 32 0 = τ' 30 0 - τ 30 0 ∧ 0 ≤ σ' 32 0 - σ 32 0 ∧ σ' 32 0 - σ 32 0 ≤ d := by
  have c := h.2.2.2.2.2.2.2
  unfold Cnt at c
  omega
theorem op_push {ρ : Int → Int → Prop} {σ τ : St} {y n v : Int} (hC : Cx ρ σ τ 12) (hI : RI ρ σ τ y n 7) (hn : n ≤ 254) (hv : -999 ≤ v ∧ v ≤ 999) :
    ∃ y' σ' τ' ρ', Pool_put σ v y n 4 = some (y', σ') ∧ M_goesPush τ v = some (0, τ') ∧ Sx ρ σ τ ρ' σ' τ' 12 ∧ RI ρ' σ' τ' y' (n + 1) 7 ∧ Rws [6, 7] τ τ' := by
  obtain ⟨hB, hA, hf, hs, hm⟩ := hC
  obtain ⟨n0, s7, hT, hCo⟩ := hI
  unfold Pool_put M_goesPush
  simp (disch := omega) only [ite_n, RD_eq]
  obtain ⟨τ1, e1, f1, r1, s1, c1⟩ := takes_ex τ 7 6 (by omega) (by omega) (by omega)
  rw [e1, bnd_eq]
  rw [s7] at s1 c1
  simp (disch := omega) only [rd_eq, s1]
  have hC6 : Co ρ σ τ1 y (vw 6 0 1) n := Co.stp (g := vw 7 0 1) hCo hT n0.1 (fun _ _ q => q) (Ext.rf σ) (fun x x0 xn => by rw [vw1, vw1]; exact c1 x x0 xn)
  have h30 : τ1 30 0 = τ 30 0 := by rw [f1 30 (by decide)]
  obtain ⟨y', σ', τ2, ρ', g1, g2, g3, g4, g5, g6, g7⟩ := push_step 12 σ τ1 ρ v y n 0 1 0 1 (hB.mono (by omega)) hA (by omega) (by omega) (by omega) (by rw [p2_12]; omega) (by omega) hT (by omega) (by omega) (by omega) (Vok01 _ (by omega)) (Vok01 _ (by omega)) hC6 hv
  rw [g1, g2, bnd_eq, bnd_eq]
  have s72 : τ2 3 7 = n := by rw [g7 3 (by decide), r1.2 7 (by decide), s7]
  simp (disch := omega) only [rd_eq, s72, oadd_eq, wr_eq]
  have r2 : Rws [7] τ1 τ2 := g6.rws (by omega) (g7 3 (by decide))
  have r3 : Rws [7] τ2 (us τ2 3 7 (n + 1)) := ⟨fun q _ => ⟨us_ne (by decide), us_ne (by decide)⟩, fun p hp => us_ni (by simp at hp; exact hp)⟩
  have f3 : Fr FM τ2 (us τ2 3 7 (n + 1)) := (Fr.rf _ _).us (by decide)
  refine ⟨y', σ', us τ2 3 7 (n + 1), ρ', rfl, rfl, ((g3.pre hB hA (f1.mono (by decide)) h30).post f3 (us_ne (by decide))).le (by omega), ⟨by omega, us_eq _ _ _ _, g4, ?_⟩, (r1.mono (by decide)).tr ((r2.mono (by decide)).tr (r3.mono (by decide)))⟩
  exact Co.stp (g := vw 7 0 1) g5 g4 (by omega) (fun _ _ q => q) (Ext.rf σ') (fun x x0 xn => ⟨us_ne (by decide), us_ne (by decide)⟩)
theorem oadd_m {α : Type} {a b : Int} {k k' : Int → Option α} {x : α} (hk : ∀ c, k c = some x → k' c = some x) (h : oadd a b k = some x) : oadd a b k' = some x := by
  obtain ⟨c, rfl, h1, h2⟩ := oadd_s h
  rw [oadd_eq h1]; exact hk _ h2
theorem omul_m {α : Type} {a b : Int} {k k' : Int → Option α} {x : α} (hk : ∀ c, k c = some x → k' c = some x) (h : omul a b k = some x) : omul a b k' = some x := by
  obtain ⟨c, rfl, h1, h2⟩ := omul_s h
  rw [omul_eq h1]; exact hk _ h2
theorem bndp_m {α : Type} {o : Option Int} {k k' : Int → Option α} {x : α} (hk : ∀ c, k c = some x → k' c = some x) (h : bndp o k = some x) : bndp o k' = some x := by
  obtain ⟨r, rfl, h1⟩ := bndp_s h
  exact hk r h1
theorem bnd_m {α : Type} {o : Res} {k k' : Int → St → Option α} {x : α} (hk : ∀ c s, k c s = some x → k' c s = some x) (h : bnd o k = some x) : bnd o k' = some x := by
  obtain ⟨r, s, rfl, h1⟩ := bnd_s h
  exact hk r s h1
theorem firstGone_up : ∀ (d : Nat) (σ : St) (t n : Int) (x : Int × St), Pool_firstGone d σ t n = some x → Pool_firstGone (d + 1) σ t n = some x := by
  intro d
  induction d with
  | zero => intro σ t n x h; unfold Pool_firstGone at h; cases h
  | succ d ih =>
    intro σ t n x h
    unfold Pool_firstGone at h ⊢
    by_cases hn : 1 < n
    · rw [if_pos hn] at h ⊢
      refine bndp_m (fun _ h => ?_) h
      refine bndp_m (fun _ h => ?_) h
      obtain ⟨r, s, h3, h4⟩ := bnd_s h
      rw [ih _ _ _ _ h3, bnd_eq]; exact h4
    · rw [if_neg hn] at h ⊢; exact h
theorem firsts_up : ∀ (d : Nat) (τ : St) (a b n c e : Int) (x : Int × St), M_firsts d τ a b n c e = some x → M_firsts (d + 1) τ a b n c e = some x := by
  intro d
  induction d with
  | zero => intro τ a b n c e x h; unfold M_firsts at h; cases h
  | succ d ih =>
    intro τ a b n c e x h
    unfold M_firsts at h ⊢
    by_cases hn : n = 1
    · rw [if_pos hn] at h ⊢; exact h
    · rw [if_neg hn] at h ⊢
      refine oadd_m (fun _ h => ?_) h
      refine bndp_m (fun _ h => ?_) h
      refine bnd_m (fun _ _ h => ?_) h
      refine omul_m (fun _ h => ?_) h
      refine oadd_m (fun _ h => ?_) h
      refine omul_m (fun _ h => ?_) h
      refine bndp_m (fun _ h => ?_) h
      refine oadd_m (fun _ h => ?_) h
      refine omul_m (fun _ h => ?_) h
      refine bnd_m (fun _ _ h => ?_) h
      refine oadd_m (fun _ h => ?_) h
      refine omul_m (fun _ h => ?_) h
      refine bndp_m (fun _ h => ?_) h
      refine omul_m (fun _ h => ?_) h
      refine oadd_m (fun _ h => ?_) h
      refine omul_m (fun _ h => ?_) h
      obtain ⟨r, s, h3, h4⟩ := bnd_s h
      rw [ih _ _ _ _ _ _ _ h3, bnd_eq]; exact h4
theorem op_first {ρ : Int → Int → Prop} {σ τ : St} {y n : Int} (hC : Cx ρ σ τ 8) (hI : RI ρ σ τ y n 7) (hn : 1 ≤ n) :
    ∃ y' σ' τ' ρ', Pool_take σ y n 2 = some (y', σ') ∧ M_goesFirst τ = some (0, τ') ∧ Sx ρ σ τ ρ' σ' τ' 8 ∧ RI ρ' σ' τ' y' (n - 1) 7 ∧ Rws [6, 7] τ τ' := by
  obtain ⟨hB, hA, hf, hs, hm⟩ := hC
  obtain ⟨n0, s7, hT, hCo⟩ := hI
  unfold Pool_take M_goesFirst
  simp (disch := omega) only [ite_y, RD_eq]
  obtain ⟨τ1, e1, f1, r1, s1, c1⟩ := takes_ex τ 7 6 (by omega) (by omega) (by omega)
  rw [e1, bnd_eq]
  rw [s7] at s1 c1
  simp (disch := omega) only [rd_eq, s1]
  have hC6 : Co ρ σ τ1 y (vw 6 0 1) n := Co.stp (g := vw 7 0 1) hCo hT n0.1 (fun _ _ q => q) (Ext.rf σ) (fun x x0 xn => by rw [vw1, vw1]; exact c1 x x0 xn)
  have h30 : τ1 30 0 = τ 30 0 := by rw [f1 30 (by decide)]
  obtain ⟨y', σ', τ2, ρ', g1, g2, g3, g4, g5, g6, g7⟩ := first_step 8 σ τ1 ρ y n 0 1 0 1 (hB.mono (by omega)) hA (by omega) (by omega) (by omega) (by rw [p2_8]; omega) (by omega) hT (by omega) (by omega) (by omega) (by omega) (Vok01 _ (by omega)) (Vok01 _ (by omega)) hC6
  rw [firstGone_up _ _ _ _ _ (firstGone_up _ _ _ _ _ (firstGone_up _ _ _ _ _ (firstGone_up _ _ _ _ _ g1))), firsts_up _ _ _ _ _ _ _ _ (firsts_up _ _ _ _ _ _ _ _ (firsts_up _ _ _ _ _ _ _ _ (firsts_up _ _ _ _ _ _ _ _ g2))), bnd_eq, bnd_eq]
  have s72 : τ2 3 7 = n := by rw [g7 3 (by decide), r1.2 7 (by decide), s7]
  simp (disch := omega) only [rd_eq, s72, osub_eq, wr_eq]
  have r2 : Rws [7] τ1 τ2 := g6.rws (by omega) (g7 3 (by decide))
  have r3 : Rws [7] τ2 (us τ2 3 7 (n - 1)) := ⟨fun q _ => ⟨us_ne (by decide), us_ne (by decide)⟩, fun p hp => us_ni (by simp at hp; exact hp)⟩
  have f3 : Fr FM τ2 (us τ2 3 7 (n - 1)) := (Fr.rf _ _).us (by decide)
  refine ⟨y', σ', us τ2 3 7 (n - 1), ρ', rfl, rfl, ((g3.pre hB hA (f1.mono (by decide)) h30).post f3 (us_ne (by decide))).le (by omega), ⟨by omega, us_eq _ _ _ _, g4, ?_⟩, (r1.mono (by decide)).tr ((r2.mono (by decide)).tr (r3.mono (by decide)))⟩
  exact Co.stp (g := vw 7 0 1) g5 g4 (by omega) (fun _ _ q => q) (Ext.rf σ') (fun x x0 xn => ⟨us_ne (by decide), us_ne (by decide)⟩)
