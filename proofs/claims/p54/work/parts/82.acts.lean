-- P54, 11: the acts of the law
def A0 (s1 m2 : St) (c5 i6 j7 l8 v9 n10 d12 a11 : Int) : Option (St × St) := (if n10 = 63 then (some (s1, m2)) else (bnd (E_front s1 i6 v9 l8) fun v22 s23 => jn (fun (s24 : St) (m25 : St) => wr m25 48 64 0 v9 fun m27 => oadd n10 1 fun v28 => K12 d12 l8 s24 m27 v22 v28) fun k26 => L_mid_L262 k26 a11 FU s23 m2 n10))
def A2 (s1 m2 : St) (c5 i6 j7 l8 v9 n10 d12 a11 : Int) : Option (St × St) := (if n10 = 63 then (some (s1, m2)) else (bnd (E_back s1 i6 v9 l8) fun v17 s18 => wr m2 48 64 n10 v9 fun m19 => oadd n10 1 fun v20 => K12 d12 l8 s18 m19 v17 v20))
def A4 (s1 m2 : St) (c5 i6 j7 l8 v9 n10 d12 a11 : Int) : Option (St × St) := (bnd (E_first s1 i6 l8) fun v42 s43 => if n10 = 0 then (if v42 = (-2) then (some (s43, m2)) else (none)) else (bndp (E_row s43 0) fun v44 => rdA m2 a11 0 fun v45 => opure (lcmpv v44 v45) fun v46 => if v46 = 0 then (oadd n10 (-1) fun v47 => jn (fun (s48 : St) (m49 : St) => K12 d12 l8 s48 m49 v42 v47) fun k50 => L_mid_L378 k50 v47 a11 FU s43 m2 0) else (none)))
def A5 (s1 m2 : St) (c5 i6 j7 l8 v9 n10 d12 a11 : Int) : Option (St × St) := (bnd (E_last s1 i6 l8) fun v60 s61 => if n10 = 0 then (if v60 = (-2) then (some (s61, m2)) else (none)) else (bndp (E_row s61 0) fun v62 => osub n10 1 fun v63 => rdA m2 a11 v63 fun v64 => opure (lcmpv v62 v64) fun v65 => if v65 = 0 then (oadd n10 (-1) fun v66 => K12 d12 l8 s61 m2 v60 v66) else (none)))
def A6 (s1 m2 : St) (c5 i6 j7 l8 v9 n10 d12 a11 : Int) : Option (St × St) := (opure (bushr c5 27) fun v68 => oadd n10 1 fun v69 => orem v68 v69 fun v70 => bnd (E_sets s1 i6 v70 v9 l8) fun v71 s72 => if v70 = n10 then (if v71 = (-1) then (some (s72, m2)) else (none)) else (wr m2 48 64 v70 v9 fun m73 => oif (0 < v71) inferInstance 1 0 fun v74 => rdA m73 a11 v70 fun v75 => oif (v75 = v9) inferInstance 0 1 fun v76 => if v74 = v76 then (K12 d12 l8 s72 m73 v71 n10) else (none)))
def A7 (s1 m2 : St) (c5 i6 j7 l8 v9 n10 d12 a11 : Int) : Option (St × St) := (opure (bushr c5 27) fun v78 => oadd n10 1 fun v79 => orem v78 v79 fun v80 => bnd (E_adds s1 i6 v80 n10 v9 l8) fun v81 s82 => jn (fun (s83 : St) (m84 : St) => K12 d12 l8 s83 m84 v81 n10) fun k85 => L_mid_L565 k85 v9 n10 FU s82 m2 v80)
def A8 (s1 m2 : St) (c5 i6 j7 l8 v9 n10 d12 a11 : Int) : Option (St × St) := (opure (bushr c5 27) fun v96 => oadd n10 1 fun v97 => orem v96 v97 fun v98 => bnd (E_keeps s1 i6 v98 l8) fun v99 s100 => K12 d12 l8 s100 m2 v99 v98)
def A9 (s1 m2 : St) (c5 i6 j7 l8 v9 n10 d12 a11 : Int) : Option (St × St) := (opure (bushr c5 27) fun v102 => oadd n10 1 fun v103 => orem v102 v103 fun v104 => bnd (E_skips s1 i6 v104 l8) fun v105 s106 => osub n10 v104 fun v107 => jn (fun (s108 : St) (m109 : St) => K12 d12 l8 s108 m109 v105 v107) fun k110 => L_mid_L662 k110 v107 v104 a11 FU s106 m2 0)
def A10 (s1 m2 : St) (c5 i6 j7 l8 v9 n10 d12 a11 : Int) : Option (St × St) := (rd m2 47 6 j7 fun v120 => oadd n10 v120 fun v121 => if 63 < v121 then (some (s1, m2)) else (bnd (E_appends s1 i6 j7 l8) fun v122 s123 => jn (fun (s124 : St) (m125 : St) => rd m125 47 6 j7 fun v127 => oadd n10 v127 fun v128 => K12 d12 l8 s124 m125 v122 v128) fun k126 => L_mid_L721 k126 j7 n10 FU s123 m2 0))
def A11 (s1 m2 : St) (c5 i6 j7 l8 v9 n10 d12 a11 : Int) : Option (St × St) := (opure (bushr c5 27) fun v140 => bnd (E_fills s1 v140 v9 l8) fun v141 s142 => jn (fun (s143 : St) (m144 : St) => K12 d12 l8 s143 m144 v141 v140) fun k145 => L_mid_L789 k145 v9 v140 FU s142 m2 0)
def A12 (s1 m2 : St) (c5 i6 j7 l8 v9 n10 d12 a11 : Int) : Option (St × St) := (bnd (E_heaps s1 i6 l8) fun v153 s154 => bnd (E_heap s154 l8) fun v155 s156 => if v155 = 1 then (jn (fun (s157 : St) (m158 : St) (x159 : Int) => jn (bnd (E_sum s157 l8 0 n10) fun v162 s163 => odiv n10 2 fun v164 => bnd (E_sum s163 l8 0 v164) fun v165 s166 => odiv n10 2 fun v167 => bnd (E_sum s166 l8 v167 n10) fun v168 s169 => oadd v165 v168 fun v170 => if v162 = v170 then (jn (fun (x171 : Int) => if x171 = 0 then (K12 d12 l8 s169 m158 v153 n10) else (none)) fun k172 => L_mid_L938 k172 s169 m158 n10 a11 FU 0 0) else (none)) fun k161 => if 0 < n10 then (rd m158 48 64 0 fun v181 => if v181 = x159 then (k161) else (none)) else (k161)) fun k160 => L_mid_L842 k160 l8 n10 a11 FU s156 m2 999 0) else (none))
def A13 (s1 m2 : St) (c5 i6 j7 l8 v9 n10 d12 a11 : Int) : Option (St × St) := (opure (bushr c5 27) fun v193 => bnd (E_turned s1 i6 v193 l8) fun v194 s195 => if n10 = 0 then (if v194 = (-2) then (some (s195, m2)) else (none)) else (jn (fun (s196 : St) (m197 : St) => K12 d12 l8 s196 m197 v194 n10) fun k198 => L_mid_L1010 k198 n10 v193 a11 FU s195 m2 0))
def A14 (s1 m2 : St) (c5 i6 j7 l8 v9 n10 d12 a11 : Int) : Option (St × St) := (opure (band v9 1) fun v209 => bnd (E_sides s1 i6 v209 l8) fun v210 s211 => jn (fun (x212 : Int) => if x212 = 0 then (if v210 = (-2) then (some (s211, m2)) else (none)) else (if v210 = x212 then (jn (fun (s214 : St) (m215 : St) => K12 d12 l8 s214 m215 0 x212) fun k216 => L_mid_L1113 k216 v9 x212 a11 FU s211 m2 0) else (none))) fun k213 => if n10 = 0 then (k213 0) else (opure (band v9 1) fun v228 => if v228 = 0 then (odiv n10 2 fun v231 => k213 v231) else (osub n10 1 fun v229 => odiv v229 2 fun v230 => k213 v230)))
def A15 (s1 m2 : St) (c5 i6 j7 l8 v9 n10 d12 a11 : Int) : Option (St × St) := (bnd (E_pop s1 i6 l8) fun v232 s233 => if n10 = 0 then (if v232 = (-2) then (some (s233, m2)) else (none)) else (bndp (E_row s233 0) fun v234 => rdA m2 a11 0 fun v235 => opure (lcmpv v234 v235) fun v236 => if v236 = 0 then (oadd n10 (-1) fun v237 => rdA m2 a11 0 fun v238 => oneg v238 fun v239 => jn (fun (x240 : Int) => jn (fun (s242 : St) (m243 : St) (x244 : Int) => if x244 = 0 then (K12 d12 l8 s242 m243 v232 v237) else (none)) fun k245 => L_mid_L1230 k245 l8 v237 FU s233 m2 x240 0) fun k241 => L_mid_L1204 k241 s233 m2 n10 a11 FU v239 0) else (none)))
def ACT (v4 : Int) (s1 m2 : St) (c5 i6 j7 l8 v9 n10 d12 a11 : Int) : Option (St × St) := if v4 = 0 then A0 s1 m2 c5 i6 j7 l8 v9 n10 d12 a11 else if v4 = 1 then A0 s1 m2 c5 i6 j7 l8 v9 n10 d12 a11 else if v4 = 2 then A2 s1 m2 c5 i6 j7 l8 v9 n10 d12 a11 else if v4 = 3 then A2 s1 m2 c5 i6 j7 l8 v9 n10 d12 a11 else if v4 = 4 then A4 s1 m2 c5 i6 j7 l8 v9 n10 d12 a11 else if v4 = 5 then A5 s1 m2 c5 i6 j7 l8 v9 n10 d12 a11 else if v4 = 6 then A6 s1 m2 c5 i6 j7 l8 v9 n10 d12 a11 else if v4 = 7 then A7 s1 m2 c5 i6 j7 l8 v9 n10 d12 a11 else if v4 = 8 then A8 s1 m2 c5 i6 j7 l8 v9 n10 d12 a11 else if v4 = 9 then A9 s1 m2 c5 i6 j7 l8 v9 n10 d12 a11 else if v4 = 10 then A10 s1 m2 c5 i6 j7 l8 v9 n10 d12 a11 else if v4 = 11 then A11 s1 m2 c5 i6 j7 l8 v9 n10 d12 a11 else if v4 = 12 then A12 s1 m2 c5 i6 j7 l8 v9 n10 d12 a11 else if v4 = 13 then A13 s1 m2 c5 i6 j7 l8 v9 n10 d12 a11 else if v4 = 14 then A14 s1 m2 c5 i6 j7 l8 v9 n10 d12 a11 else A15 s1 m2 c5 i6 j7 l8 v9 n10 d12 a11
theorem mid_eq (σ μ : St) (c i j l v n d a : Int) : L_mid σ μ c i j l v n d a = L_mid_L129 (fun s m => ACT (band c 15) s m c i j l v n d a) n a FU σ μ 0 := by
  unfold L_mid
  rw [jn_eq]
  refine congrArg (fun K => L_mid_L129 K n a FU σ μ 0) ?_
  funext s m
  rw [opure_eq]
  generalize band c 15 = v4
  unfold ACT
  rw [jn_eq, jn_eq, jn_eq, jn_eq]
  rfl
theorem mnl_ext {f g : Int → Int} : ∀ m : Nat, (∀ x : Int, 0 ≤ x → x < m → f x = g x) → mnl f m = mnl g m := by
  intro m
  induction m with
  | zero => intro _; rfl
  | succ m ih =>
    intro h
    show imin (mnl f m) (f m) = imin (mnl g m) (g m)
    rw [ih (fun x x0 xn => h x x0 (by omega)), h m (by omega) (by omega)]
theorem Rq.sm {τ τ' : St} (q : Rq τ τ') {l : Int} (hl : 0 ≤ l ∧ l < 6) (m : Nat) (hm : m ≤ 256) : sm (fun z => τ' 1 (256 * l + z)) m = sm (fun z => τ 1 (256 * l + z)) m := sm_ext m (fun x x0 xn => (q l hl.1 hl.2).2 x x0 (by omega))
theorem Op.rq {τ τ1 τ2 : St} {l n r : Int} {f : Int → Int} (o : Op τ τ1 l n f r) (q : Rq τ1 τ2) (e : τ2 30 0 = τ1 30 0) (hl : 0 ≤ l ∧ l < 6) (hn : n ≤ 256) : Op τ τ2 l n f r := by
  obtain ⟨⟨a1, a2⟩, b, c, d⟩ := o
  exact ⟨⟨(q l hl.1 hl.2).1.trans a1, fun x x0 xn => ((q l hl.1 hl.2).2 x x0 (by omega)).trans (a2 x x0 xn)⟩, fun p p0 p6 pl => ⟨(q p p0 p6).1.trans (b p p0 p6 pl).1, fun x x0 xn => ((q p p0 p6).2 x x0 xn).trans ((b p p0 p6 pl).2 x x0 xn)⟩, by omega, d⟩
theorem act0 {k : Nat} {σ τ μ m : St} {c i j l v n d : Int} (h : Hy k σ τ μ m i j l v n d) : ∃ σ' μ', A0 σ m c i j l v n d i = some (σ', μ') ∧ J9 (k + 1) σ' μ' := by
  have k20 := h.k20
  have nn := h.nn
  unfold A0
  by_cases z : n = 63
  · exact ⟨σ, m, if_pos z, h.con (by omega) h.S (Rq.rf _)⟩
  · obtain ⟨r, σ1, τ1, e, s1, o⟩ := front_q (by omega) h.S h.i6 h.l6 h.v9 h.n3 (by omega)
    obtain ⟨m', e2, f2, b2⟩ := L262_q (μ := μ) (n := n) h.i6 (by omega) σ1 n.toNat FU m n (by omega) (by omega) (by unfold FU; omega) h.f (fun y a b => by omega)
    obtain ⟨σ', μ', e3, j⟩ := h.fin (m' := us m' 48 0 v) (by omega) s1 o (by omega) (f2.us (by decide)) (fun x x0 xn => by
      show us m' 48 0 v 48 x = if x = 0 then v else τ 1 (256 * i + (x - 1))
      by_cases c1 : x = 0
      · subst c1
        rw [if_pos rfl, us_eq]
      · rw [if_neg c1, us_ni c1, b2 x (by omega) (by omega), h.row (by omega)])
    refine ⟨σ', μ', ?_, j⟩
    rw [if_neg z, e, bnd_eq, jn_eq, e2, wr_eq (by omega), oadd_eq (by omega)]
    exact e3
theorem act2 {k : Nat} {σ τ μ m : St} {c i j l v n d : Int} (h : Hy k σ τ μ m i j l v n d) : ∃ σ' μ', A2 σ m c i j l v n d i = some (σ', μ') ∧ J9 (k + 1) σ' μ' := by
  have k20 := h.k20
  have nn := h.nn
  unfold A2
  by_cases z : n = 63
  · exact ⟨σ, m, if_pos z, h.con (by omega) h.S (Rq.rf _)⟩
  · obtain ⟨r, σ1, τ1, e, s1, o⟩ := back_q (by omega) h.S h.i6 h.l6 h.v9 h.n3 (by omega)
    obtain ⟨σ', μ', e3, j⟩ := h.fin (m' := us m 48 n v) (by omega) s1 o (by omega) (h.f.us (by decide)) (fun x x0 xn => by
      show us m 48 n v 48 x = if x = n then v else τ 1 (256 * i + x)
      by_cases c1 : x = n
      · subst c1
        rw [if_pos rfl, us_eq]
      · rw [if_neg c1, us_ni c1, h.b x x0 (by omega)])
    refine ⟨σ', μ', ?_, j⟩
    rw [if_neg z, e, bnd_eq, wr_eq (by omega), oadd_eq (by omega)]
    exact e3
theorem act4 {k : Nat} {σ τ μ m : St} {c i j l v n d : Int} (h : Hy k σ τ μ m i j l v n d) : ∃ σ' μ', A4 σ m c i j l v n d i = some (σ', μ') ∧ J9 (k + 1) σ' μ' := by
  have k20 := h.k20
  have nn := h.nn
  unfold A4
  by_cases z : n = 0
  · obtain ⟨σ1, τ1, e, s1, q⟩ := first_0 (by omega) h.S h.i6 h.l6 (h.n3.trans z)
    exact ⟨σ1, m, by rw [e, bnd_eq, if_pos z, if_pos rfl], h.con (by omega) s1 q⟩
  · obtain ⟨r, σ1, τ1, e, s1, o, t1, t2⟩ := first_q (by omega) h.S h.i6 h.l6 h.n3 (by omega)
    have r0 := row_q s1 (j := 0) (by omega)
    rw [t2] at r0
    have w0 := h.row (x := 0) (by omega)
    rw [Int.add_zero] at w0
    obtain ⟨m', e2, f2, b2⟩ := L378_q (μ := μ) (n := n - 1) h.i6 (by omega) σ1 (n - 1).toNat FU m 0 (by omega) (by omega) (by unfold FU; omega) h.f (fun y a b => by omega)
    obtain ⟨σ', μ', e3, j⟩ := h.fin (m' := m') (by omega) s1 o (by omega) f2 (fun x x0 xn => by
      show m' 48 x = τ 1 (256 * i + (x + 1))
      rw [b2 x x0 xn, h.row (by omega)])
    refine ⟨σ', μ', ?_, j⟩
    rw [e, bnd_eq, if_neg z, r0, bndp_eq, rdA_eq ⟨h.i6, by omega, by omega⟩, h.f _ (n48 i), w0, opure_eq, lcmp0, if_pos rfl, oadd_eq (by omega), show n + -1 = n - 1 by omega, jn_eq, e2]
    exact e3
theorem act5 {k : Nat} {σ τ μ m : St} {c i j l v n d : Int} (h : Hy k σ τ μ m i j l v n d) : ∃ σ' μ', A5 σ m c i j l v n d i = some (σ', μ') ∧ J9 (k + 1) σ' μ' := by
  have k20 := h.k20
  have nn := h.nn
  unfold A5
  by_cases z : n = 0
  · obtain ⟨σ1, τ1, e, s1, q⟩ := last_0 (by omega) h.S h.i6 h.l6 (h.n3.trans z)
    exact ⟨σ1, m, by rw [e, bnd_eq, if_pos z, if_pos rfl], h.con (by omega) s1 q⟩
  · obtain ⟨r, σ1, τ1, e, s1, o, t1, t2⟩ := last_q (by omega) h.S h.i6 h.l6 h.n3 (by omega)
    have r0 := row_q s1 (j := 0) (by omega)
    rw [t2] at r0
    have w0 := h.row (x := n - 1) (by omega)
    obtain ⟨σ', μ', e3, j⟩ := h.fin (m' := m) (by omega) s1 o (by omega) h.f (fun x x0 xn => h.b x x0 (by omega))
    refine ⟨σ', μ', ?_, j⟩
    rw [e, bnd_eq, if_neg z, r0, bndp_eq, osub_eq (by omega), rdA_eq ⟨h.i6, by omega, by omega⟩, h.f _ (n48 i), w0, opure_eq, lcmp0, if_pos rfl, oadd_eq (by omega), show n + -1 = n - 1 by omega]
    exact e3
theorem act6 {k : Nat} {σ τ μ m : St} {c i j l v n d : Int} (h : Hy k σ τ μ m i j l v n d) : ∃ σ' μ', A6 σ m c i j l v n d i = some (σ', μ') ∧ J9 (k + 1) σ' μ' := by
  have k20 := h.k20
  have nn := h.nn
  unfold A6
  have q := bushr27 c
  have q0 := Int.emod_nonneg (bushr c 27) (b := n + 1) (by omega)
  have q1 := Int.emod_lt_of_pos (bushr c 27) (b := n + 1) (by omega)
  rw [opure_eq, oadd_eq (by omega), orem_eq (by omega)]
  generalize bushr c 27 % (n + 1) = x at q0 q1 ⊢
  by_cases z : x = n
  · obtain ⟨σ1, τ1, e, s1, q⟩ := sets_n (by omega) h.S h.i6 h.l6 (h.n3.trans z.symm) h.v9
    exact ⟨σ1, m, by rw [e, bnd_eq, if_pos z, if_pos rfl], h.con (by omega) s1 q⟩
  · obtain ⟨r, σ1, τ1, e, s1, o, t1⟩ := sets_q (by omega) h.S h.i6 h.l6 h.v9 h.n3 ⟨q0, by omega⟩ (by omega)
    obtain ⟨σ', μ', e3, j⟩ := h.fin (m' := us m 48 x v) (by omega) s1 o (by omega) (h.f.us (by decide)) (fun y y0 yn => by
      show us m 48 x v 48 y = if y = x then v else τ 1 (256 * i + y)
      by_cases c1 : y = x
      · subst c1
        rw [if_pos rfl, us_eq]
      · rw [if_neg c1, us_ni c1, h.b y y0 yn])
    refine ⟨σ', μ', ?_, j⟩
    rw [e, bnd_eq, if_neg z, wr_eq (by omega)]
    by_cases w : τ 1 (256 * i + x) = v
    · rw [oif_f (fun p => t1.mp p w) (by decide), rdA_eq ⟨h.i6, by omega, by omega⟩, us_ne (by omega), h.f _ (n48 i), h.row ⟨q0, by omega⟩, oif_t w (by decide), if_pos rfl]
      exact e3
    · rw [oif_t (t1.mpr w) (by decide), rdA_eq ⟨h.i6, by omega, by omega⟩, us_ne (by omega), h.f _ (n48 i), h.row ⟨q0, by omega⟩, oif_f w (by decide), if_pos rfl]
      exact e3
theorem act7 {k : Nat} {σ τ μ m : St} {c i j l v n d : Int} (h : Hy k σ τ μ m i j l v n d) : ∃ σ' μ', A7 σ m c i j l v n d i = some (σ', μ') ∧ J9 (k + 1) σ' μ' := by
  have k20 := h.k20
  have nn := h.nn
  unfold A7
  have q := bushr27 c
  have q0 := Int.emod_nonneg (bushr c 27) (b := n + 1) (by omega)
  have q1 := Int.emod_lt_of_pos (bushr c 27) (b := n + 1) (by omega)
  rw [opure_eq, oadd_eq (by omega), orem_eq (by omega)]
  generalize bushr c 27 % (n + 1) = x at q0 q1 ⊢
  obtain ⟨r, σ1, τ1, e, s1, o⟩ := adds_q (by omega) h.S h.i6 h.l6 h.v9 h.n3 (x := x) (by omega) (by omega)
  obtain ⟨m', e2, f2, b2⟩ := L565_q (μ := μ) (g := fun y => τ 1 (256 * i + y)) (n := n) h.v9 (by omega) (fun y y0 yn => h.num ⟨y0, yn⟩) σ1 (n - x).toNat FU m x (by omega) (by omega) (by unfold FU; omega) h.f (fun y y0 yn => h.b y (by omega) yn)
  obtain ⟨σ', μ', e3, j⟩ := h.fin (m' := m') (by omega) s1 o (by omega) f2 (fun y y0 yn => by
    show m' 48 y = if y < x then τ 1 (256 * i + y) else hd9 (τ 1 (256 * i + y) + v)
    rw [b2 y y0 yn]
    by_cases c1 : y < x
    · rw [if_pos c1, if_pos c1, h.b y y0 yn]
    · rw [if_neg c1, if_neg c1])
  refine ⟨σ', μ', ?_, j⟩
  rw [e, bnd_eq, jn_eq, e2]
  exact e3
theorem act8 {k : Nat} {σ τ μ m : St} {c i j l v n d : Int} (h : Hy k σ τ μ m i j l v n d) : ∃ σ' μ', A8 σ m c i j l v n d i = some (σ', μ') ∧ J9 (k + 1) σ' μ' := by
  have k20 := h.k20
  have nn := h.nn
  unfold A8
  have q := bushr27 c
  have q0 := Int.emod_nonneg (bushr c 27) (b := n + 1) (by omega)
  have q1 := Int.emod_lt_of_pos (bushr c 27) (b := n + 1) (by omega)
  rw [opure_eq, oadd_eq (by omega), orem_eq (by omega)]
  generalize bushr c 27 % (n + 1) = x at q0 q1 ⊢
  obtain ⟨r, σ1, τ1, e, s1, o⟩ := keeps_q (by omega) h.S h.i6 h.l6 h.n3 (x := x) (by omega) (by omega)
  obtain ⟨σ', μ', e3, j⟩ := h.fin (m' := m) (by omega) s1 o (by omega) h.f (fun y y0 yn => h.b y y0 (by omega))
  refine ⟨σ', μ', ?_, j⟩
  rw [e, bnd_eq]
  exact e3
theorem act9 {k : Nat} {σ τ μ m : St} {c i j l v n d : Int} (h : Hy k σ τ μ m i j l v n d) : ∃ σ' μ', A9 σ m c i j l v n d i = some (σ', μ') ∧ J9 (k + 1) σ' μ' := by
  have k20 := h.k20
  have nn := h.nn
  unfold A9
  have q := bushr27 c
  have q0 := Int.emod_nonneg (bushr c 27) (b := n + 1) (by omega)
  have q1 := Int.emod_lt_of_pos (bushr c 27) (b := n + 1) (by omega)
  rw [opure_eq, oadd_eq (by omega), orem_eq (by omega)]
  generalize bushr c 27 % (n + 1) = x at q0 q1 ⊢
  obtain ⟨r, σ1, τ1, e, s1, o⟩ := skips_q (by omega) h.S h.i6 h.l6 h.n3 (x := x) (by omega) (by omega)
  obtain ⟨m', e2, f2, b2⟩ := L662_q (μ := μ) (n := n - x) (u := x) h.i6 (by omega) σ1 (n - x).toNat FU m 0 (by omega) (by omega) (by unfold FU; omega) h.f (fun y a b => by omega)
  obtain ⟨σ', μ', e3, j⟩ := h.fin (m' := m') (by omega) s1 o (by omega) f2 (fun y y0 yn => by
    show m' 48 y = τ 1 (256 * i + (y + x))
    rw [b2 y y0 yn, h.row (by omega)])
  refine ⟨σ', μ', ?_, j⟩
  rw [e, bnd_eq, osub_eq (by omega), jn_eq, e2]
  exact e3
theorem act10 {k : Nat} {σ τ μ m : St} {c i j l v n d : Int} (h : Hy k σ τ μ m i j l v n d) : ∃ σ' μ', A10 σ m c i j l v n d i = some (σ', μ') ∧ J9 (k + 1) σ' μ' := by
  have k20 := h.k20
  have nn := h.nn
  unfold A10
  have hj := h.j6
  have j47 := (h.M j hj.1 hj.2).1
  have j0 := ((h.S.ok (by omega)).2 j hj.1 hj.2).1
  rw [rd_eq hj, h.f 47 (by decide), j47.1, oadd_eq (by omega)]
  by_cases z : 63 < n + τ 3 j
  · exact ⟨σ, m, if_pos z, h.con (by omega) h.S (Rq.rf _)⟩
  · obtain ⟨r, σ1, τ1, e, s1, o⟩ := appends_q (by omega) h.S h.i6 hj h.l6 h.n3 rfl (by omega)
    obtain ⟨m', e2, f2, b2⟩ := L721_q (μ := μ) hj j47.1 (n := n) (by omega) σ1 (τ 3 j).toNat FU m 0 (by omega) (by omega) (by unfold FU; omega) h.f
    obtain ⟨σ', μ', e3, j'⟩ := h.fin (m' := m') (by omega) s1 o (by omega) f2 (fun x x0 xn => by
      show m' 48 x = if x < n then τ 1 (256 * i + x) else τ 1 (256 * j + (x - n))
      rw [b2 x x0 xn, Int.add_zero]
      by_cases c1 : x < n
      · rw [if_pos c1, if_pos c1, h.b x x0 c1]
      · rw [if_neg c1, if_neg c1, (h.M j hj.1 hj.2).2 (x - n) (by omega) (by omega)])
    refine ⟨σ', μ', ?_, j'⟩
    rw [if_neg z, e, bnd_eq, jn_eq, e2, rd_eq hj, f2 47 (by decide), j47.1, oadd_eq (by omega)]
    exact e3
theorem act11 {k : Nat} {σ τ μ m : St} {c i j l v n d : Int} (h : Hy k σ τ μ m i j l v n d) : ∃ σ' μ', A11 σ m c i j l v n d i = some (σ', μ') ∧ J9 (k + 1) σ' μ' := by
  have k20 := h.k20
  have nn := h.nn
  unfold A11
  have q := bushr27 c
  rw [opure_eq]
  generalize bushr c 27 = x at q ⊢
  obtain ⟨r, σ1, τ1, e, s1, o⟩ := fills_q (by omega) h.S h.l6 h.v9 (x := x) (by omega)
  obtain ⟨m', e2, f2, b2⟩ := L789_q (μ := μ) (v := v) (n := x) (by omega) σ1 x.toNat FU m 0 (by omega) (by omega) (by unfold FU; omega) h.f (fun y a b => by omega)
  obtain ⟨σ', μ', e3, j⟩ := h.fin (m' := m') (by omega) s1 o (by omega) f2 (fun y y0 yn => b2 y y0 yn)
  refine ⟨σ', μ', ?_, j⟩
  rw [e, bnd_eq, jn_eq, e2]
  exact e3
theorem act12 {k : Nat} {σ τ μ m : St} {c i j l v n d : Int} (h : Hy k σ τ μ m i j l v n d) : ∃ σ' μ', A12 σ m c i j l v n d i = some (σ', μ') ∧ J9 (k + 1) σ' μ' := by
  have k20 := h.k20
  have nn := h.nn
  unfold A12
  obtain ⟨r, σ1, τ1, e1, s1, o, hp, hsum, hmin⟩ := heaps_q (by omega) h.S h.i6 h.l6 h.n3 (by omega)
  have hl := h.l6
  have l3 : τ1 3 l = n := o.1.1
  obtain ⟨σ2, τ2, e2, s2, q2, c2⟩ := heap_q (by omega) s1 hl (by omega) (by rw [l3]; exact hp)
  have l32 : τ2 3 l = n := (q2 l hl.1 hl.2).1.trans l3
  obtain ⟨m', e3, f3, b3⟩ := L842_q (μ := μ) s2 hl l32 h.i6 (by omega) n.toNat FU m 999 0 (by omega) (by omega) (by unfold FU; omega) h.f (fun y a b => by omega) rfl
  obtain ⟨σ3, τ3, e4, s3, q3, c3⟩ := sum_q (by omega) s2 (i := l) (a := 0) (b := n) hl (by omega) (by omega)
  have l33 : τ3 3 l = n := (q3 l hl.1 hl.2).1.trans l32
  obtain ⟨σ4, τ4, e5, s4, q4, c4⟩ := sum_q (by omega) s3 (i := l) (a := 0) (b := n / 2) hl (by omega) (by omega)
  have l34 : τ4 3 l = n := (q4 l hl.1 hl.2).1.trans l33
  obtain ⟨σ5, τ5, e6, s5, q5, c5⟩ := sum_q (by omega) s4 (i := l) (a := n / 2) (b := n) hl (by omega) (by omega)
  have q12 := q2
  have q13 := q12.tr q3
  have q14 := q13.tr q4
  have q15 := q14.tr q5
  have t0 : ∀ f : Int → Int, sm f (0 : Int).toNat = 0 := fun f => rfl
  rw [q12.sm hl n.toNat (by omega), t0] at e4
  rw [q13.sm hl (n / 2).toNat (by omega), t0] at e5
  rw [q14.sm hl n.toNat (by omega), q14.sm hl (n / 2).toNat (by omega)] at e6
  have hn1 : ∀ y, 0 ≤ y → y < n → -999 ≤ τ1 1 (256 * l + y) ∧ τ1 1 (256 * l + y) ≤ 999 := fun y y0 yn => ((s1.ok (by omega)).2 l hl.1 hl.2).2 y y0 (by omega)
  have b1 := sm_bd (f := fun z => τ1 1 (256 * l + z)) (b := 999) n.toNat (fun y y0 yn => hn1 y y0 (by omega))
  have b2 := sm_bd (f := fun z => τ1 1 (256 * l + z)) (b := 999) (n / 2).toNat (fun y y0 yn => hn1 y y0 (by omega))
  have e7 := L938_q (s := σ5) (m := m') (g := fun y => τ 1 (256 * i + y)) (h := fun y => τ1 1 (256 * l + y)) (n := n) (a := i) h.i6 (by omega) (fun y y0 yn => ⟨by rw [f3 _ (n48 i)]; exact h.row ⟨y0, yn⟩, h.num ⟨y0, yn⟩⟩) (fun y y0 yn => ⟨(b3 y y0 yn).trans ((q2 l hl.1 hl.2).2 y y0 (by omega)), hn1 y y0 yn⟩) n.toNat FU 0 0 (by omega) (by omega) (by unfold FU; omega) rfl
  obtain ⟨σ', μ', e8, j⟩ := h.fin (m' := m') (by omega) s5 (o.rq q15 (by omega) hl (by omega)) (by omega) f3 (fun y y0 yn => (b3 y y0 yn).trans ((q2 l hl.1 hl.2).2 y y0 (by omega)))
  refine ⟨σ', μ', ?_, j⟩
  rw [e1, bnd_eq, e2, bnd_eq, if_pos rfl, jn_eq, e3, jn_eq]
  have key : ∀ X : Option (St × St), X = some (σ', μ') → (if 0 < n then rd m' 48 64 0 fun v181 => if v181 = mnl (fun y => μ (51 + i.toNat) y) n.toNat then X else none else X) = some (σ', μ') := fun X hX => by
    by_cases z : 0 < n
    · have g0 := b3 0 (by omega) z
      rw [(q2 l hl.1 hl.2).2 0 (by omega) (by omega), Int.add_zero, hmin (by omega), mnl_ext n.toNat (fun x x0 xn => (h.row (x := x) ⟨x0, by omega⟩).symm)] at g0
      rw [if_pos z, rd_eq (by omega), if_pos g0]
      exact hX
    · rw [if_neg z]
      exact hX
  refine key _ ?_
  rw [e4, bnd_eq, odiv_eq (by omega), e5, bnd_eq, odiv_eq (by omega), e6, bnd_eq, oadd_eq (by omega), if_pos (by omega), jn_eq, e7, if_pos (by omega)]
  exact e8
theorem act13 {k : Nat} {σ τ μ m : St} {c i j l v n d : Int} (h : Hy k σ τ μ m i j l v n d) : ∃ σ' μ', A13 σ m c i j l v n d i = some (σ', μ') ∧ J9 (k + 1) σ' μ' := by
  have k20 := h.k20
  have nn := h.nn
  unfold A13
  have q := bushr27 c
  rw [opure_eq]
  generalize bushr c 27 = x at q ⊢
  by_cases z : n = 0
  · obtain ⟨σ1, τ1, e, s1, q⟩ := turned_0 (by omega) h.S h.i6 h.l6 (h.n3.trans z) (x := x) (by omega)
    exact ⟨σ1, m, by rw [e, bnd_eq, if_pos z, if_pos rfl], h.con (by omega) s1 q⟩
  · obtain ⟨r, σ1, τ1, e, s1, o⟩ := turned_q (by omega) h.S h.i6 h.l6 h.n3 (x := x) (by omega) (by omega)
    obtain ⟨m', e2, f2, b2⟩ := L1010_q (μ := μ) (n := n) (u := x) h.i6 (by omega) (by omega) σ1 n.toNat FU m 0 (by omega) (by omega) (by unfold FU; omega) h.f (fun y a b => by omega)
    obtain ⟨σ', μ', e3, j⟩ := h.fin (m' := m') (by omega) s1 o (by omega) f2 (fun y y0 yn => by
      show m' 48 y = τ 1 (256 * i + (y + x) % n)
      have q0 := Int.emod_nonneg (y + x) (b := n) (by omega)
      have q1 := Int.emod_lt_of_pos (y + x) (b := n) (by omega)
      rw [b2 y y0 yn, h.row ⟨q0, q1⟩])
    refine ⟨σ', μ', ?_, j⟩
    rw [e, bnd_eq, if_neg z, jn_eq, e2]
    exact e3
theorem act14 {k : Nat} {σ τ μ m : St} {c i j l v n d : Int} (h : Hy k σ τ μ m i j l v n d) : ∃ σ' μ', A14 σ m c i j l v n d i = some (σ', μ') ∧ J9 (k + 1) σ' μ' := by
  have k20 := h.k20
  have nn := h.nn
  unfold A14
  rw [opure_eq]
  have hb := band1 v
  by_cases z : (band v 1 = 0 ∧ n ≤ 1) ∨ (band v 1 = 1 ∧ n ≤ 2)
  · obtain ⟨σ1, τ1, e, s1, q⟩ := sides_0 (by omega) h.S h.i6 h.l6 h.n3 z
    refine ⟨σ1, m, ?_, h.con (by omega) s1 q⟩
    rw [e, bnd_eq, jn_eq]
    dsimp only
    by_cases z0 : n = 0
    · rw [if_pos z0, if_pos rfl, if_pos rfl]
    · rw [if_neg z0, opure_eq]
      by_cases b0 : band v 1 = 0
      · rw [if_pos b0, odiv_eq (by omega), if_pos (by omega), if_pos rfl]
      · rw [if_neg b0, osub_eq (by omega), odiv_eq (by omega), if_pos (by omega), if_pos rfl]
  · have z0 : ¬ n = 0 := by omega
    obtain ⟨x, hx, x1⟩ : ∃ x, ((band v 1 = 0 ∧ x = n / 2) ∨ (band v 1 = 1 ∧ x = (n - 1) / 2)) ∧ 1 ≤ x := by
      by_cases b0 : band v 1 = 0
      · exact ⟨n / 2, Or.inl ⟨b0, rfl⟩, by omega⟩
      · exact ⟨(n - 1) / 2, Or.inr ⟨by omega, rfl⟩, by omega⟩
    obtain ⟨σ1, τ1, e, s1, o⟩ := sides_q (by omega) h.S h.i6 h.l6 h.n3 hx x1
    obtain ⟨m', e2, f2, b2⟩ := L1113_q (μ := μ) (v := v) (n := x) h.i6 (by omega) σ1 x.toNat FU m 0 (by omega) (by omega) (by unfold FU; omega) h.f (fun y a b => by omega)
    obtain ⟨σ', μ', e3, j⟩ := h.fin (m' := m') (by omega) s1 o (by omega) f2 (fun y y0 yn => by
      show m' 48 y = τ 1 (256 * i + (1 + band v 1 + 2 * y))
      rw [b2 y y0 yn, h.row (by omega)])
    refine ⟨σ', μ', ?_, j⟩
    have key : ∀ K : Int → Option (St × St), K x = some (σ', μ') → (if n = 0 then K 0 else opure (band v 1) fun v228 => if v228 = 0 then odiv n 2 fun v231 => K v231 else osub n 1 fun v229 => odiv v229 2 fun v230 => K v230) = some (σ', μ') := fun K hK => by
      rw [if_neg z0, opure_eq]
      by_cases b0 : band v 1 = 0
      · rw [if_pos b0, odiv_eq (by omega), show n / 2 = x by omega]
        exact hK
      · rw [if_neg b0, osub_eq (by omega), odiv_eq (by omega), show (n - 1) / 2 = x by omega]
        exact hK
    rw [e, bnd_eq, jn_eq]
    refine key _ ?_
    rw [if_neg (by omega), if_pos rfl, jn_eq, e2]
    exact e3
theorem act15 {k : Nat} {σ τ μ m : St} {c i j l v n d : Int} (h : Hy k σ τ μ m i j l v n d) : ∃ σ' μ', A15 σ m c i j l v n d i = some (σ', μ') ∧ J9 (k + 1) σ' μ' := by
  have k20 := h.k20
  have nn := h.nn
  unfold A15
  by_cases z : n = 0
  · obtain ⟨σ1, τ1, e, s1, q⟩ := pop_0 (by omega) h.S h.i6 h.l6 (h.n3.trans z)
    exact ⟨σ1, m, by rw [e, bnd_eq, if_pos z, if_pos rfl], h.con (by omega) s1 q⟩
  · obtain ⟨r, σ1, τ1, e, s1, o, hsum, t1, t2⟩ := pop_q (by omega) h.S h.i6 h.l6 h.n3 (by omega)
    have hl := h.l6
    have l3 : τ1 3 l = n - 1 := o.1.1
    have r0 := row_q s1 (j := 0) (by omega)
    rw [t2] at r0
    have w0 := h.row (x := 0) (by omega)
    rw [Int.add_zero] at w0
    have n0 := h.num (x := 0) (by omega)
    rw [Int.add_zero] at n0
    have hn1 : ∀ y, 0 ≤ y → y < n - 1 → -999 ≤ τ1 1 (256 * l + y) ∧ τ1 1 (256 * l + y) ≤ 999 := fun y y0 yn => ((s1.ok (by omega)).2 l hl.1 hl.2).2 y y0 (by omega)
    have b1 := sm_bd (f := fun y => τ 1 (256 * i + y)) (b := 999) n.toNat (fun y y0 yn => h.num ⟨y0, by omega⟩)
    have e2 := L1204_q (s := σ1) (m := m) (g := fun y => τ 1 (256 * i + y)) (w := -τ 1 (256 * i)) (n := n) (a := i) h.i6 (by omega) (by omega) (fun y y0 yn => ⟨by rw [h.f _ (n48 i)]; exact h.row ⟨y0, yn⟩, h.num ⟨y0, yn⟩⟩) n.toNat FU (-τ 1 (256 * i)) 0 (by omega) (by omega) (by unfold FU; omega) (by show _ = -τ 1 (256 * i) + 0; omega)
    obtain ⟨m', e3, f3, b3⟩ := L1230_q (μ := μ) (w := -τ 1 (256 * i) + sm (fun y => τ 1 (256 * i + y)) n.toNat) s1 hl l3 (by omega) (by omega) hn1 (n - 1).toNat FU m (-τ 1 (256 * i) + sm (fun y => τ 1 (256 * i + y)) n.toNat) 0 (by omega) (by omega) (by unfold FU; omega) h.f (fun y a b => by omega) (by show _ = _ - 0; omega)
    obtain ⟨σ', μ', e4, j⟩ := h.fin (m' := m') (by omega) s1 o (by omega) f3 b3
    refine ⟨σ', μ', ?_, j⟩
    rw [e, bnd_eq, if_neg z, r0, bndp_eq, rdA_eq ⟨h.i6, by omega, by omega⟩, h.f _ (n48 i), w0, opure_eq, lcmp0, if_pos rfl, oadd_eq (by omega), show n + -1 = n - 1 by omega, rdA_eq ⟨h.i6, by omega, by omega⟩, h.f _ (n48 i), w0, oneg_eq (by omega), jn_eq, e2, jn_eq, e3, if_pos (by omega)]
    exact e4
