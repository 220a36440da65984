-- THE LAW's WORLD: the object's cells, the law's own rows, and the row that an act makes; calls from there
def rC (g : Ad) (μ : St) (r : Nat) : Nat × va_E := (g.2 (51 + r), .inl (g.1 0, 64, .inl (fun j : Nat => I (μ (51 + r) (j : Int)))))
def oC (g : Ad) : Nat × va_E := (g.2 46, .inl (g.1 2, 6, .inr (.inr (.inr (.inr (fun i => if i < 6 then some (g.2 (51 + i)) else none))))))
def nC (g : Ad) (μ : St) : Nat × va_E := (g.2 47, .inl (g.1 0, 6, .inl (fun j : Nat => I (μ 47 (j : Int)))))
def bC (g : Ad) (μ : St) : Nat × va_E := (g.2 48, .inl (g.1 0, 64, .inl (fun j : Nat => I (μ 48 (j : Int)))))
def wLaw (g : Ad) (μ : St) : va_W := [oC g, nC g μ, rC g μ 0, rC g μ 1, rC g μ 2, rC g μ 3, rC g μ 4, rC g μ 5]
def wLawB (g : Ad) (μ : St) : va_W := [oC g, nC g μ, rC g μ 0, rC g μ 1, rC g μ 2, rC g μ 3, rC g μ 4, rC g μ 5, bC g μ]
def wP (g : Ad) (σ μ : St) : va_W := wE g σ ++ wLaw g μ
def wB (g : Ad) (σ μ : St) : va_W := wE g σ ++ wLawB g μ
def aL (s : State) : Nat → Prop := fun q => s.heap.size ≤ q
def LC (p : Program) (s : State) (m : MethodId) (meth : Method) (c : Code) (b L : Nat) (xs : Nat → Int32) (D : va_G) (g : Ad) : Prop :=
  CX p c cL_law m s #[Value.ref b] D g RL ∧ c.maxLocals = 20 ∧ va_X b L xs s s.heap ∧ b < s.heap.size ∧ meth.locks = false ∧ meth.sig.returnType = ret ∧ va_K D vwCl [(g.1 2, .array .int)] s ∧ (Cond.arrayOver (.array .int)).before #[Value.ref b] s = true
theorem CX.cg {p : Program} {c : Code} {cc : ByteArray} {m : MethodId} {s : State} {args : Array Value} {D : va_G} {g g1 : Ad} {own : String} (h : CX p c cc m s args D g own) (e : g1.1 = g.1) : CX p c cc m s args D g1 own := by
  unfold CX KX tyA at *
  rw [e]
  exact h
theorem LC.cg {p : Program} {s : State} {m : MethodId} {meth : Method} {c : Code} {b L : Nat} {xs : Nat → Int32} {D : va_G} {g g1 : Ad} (h : LC p s m meth c b L xs D g) (e : g1.1 = g.1) : LC p s m meth c b L xs D g1 := by
  obtain ⟨h1, h2⟩ := h
  refine ⟨h1.cg e, ?_⟩
  rw [e]
  exact h2
def lvH (g : Ad) (b : Nat) (k : Int) : List (Nat × Value) := [(0, .ref b), (1, .ref (g.2 0)), (2, .ref (g.2 46)), (3, .ref (g.2 47)), (4, .int (I k))]
-- the law's own rows in programs
def rdA {α : Type} (μ : St) (r i : Int) (k : Int → Option α) : Option α := if (0 ≤ r ∧ r < 6) ∧ (0 ≤ i ∧ i < 64) then k (μ (51 + r.toNat) i) else none
theorem rdA_s {α : Type} {μ : St} (hR : R32 μ) {r i : Int} {k : Int → Option α} {x : α} (h : rdA μ r i k = some x) : ∃ c, (c = μ (51 + r.toNat) i ∧ 0 ≤ i ∧ i < 64) ∧ in32 c ∧ k c = some x := by
  obtain ⟨h1, h2⟩ := ck_s h
  exact ⟨_, ⟨rfl, h1.2⟩, hR _ i, h2⟩
def chk6 {α : Type} (i : Int) (k : Int → Option α) : Option α := if 0 ≤ i ∧ i < 6 then k i else none
theorem chk6_s {α : Type} {i : Int} {k : Int → Option α} {x : α} (h : chk6 i k = some x) : ∃ c, (c = i ∧ 0 ≤ c ∧ c < 6) ∧ k c = some x := by
  obtain ⟨h1, h2⟩ := ck_s h
  exact ⟨_, ⟨rfl, h1⟩, h2⟩
def mvB (μ : St) (l : Int) : St := fun f => if f = 51 + l.toNat then μ 48 else μ f
def nwB (μ : St) : St := fun f j => if f = 48 then 0 else μ f j
theorem mvB_R {μ : St} (h : R32 μ) (l : Int) : R32 (mvB μ l) := by
  intro f j
  unfold mvB
  split
  · exact h 48 j
  · exact h f j
theorem nwB_R {μ : St} (h : R32 μ) : R32 (nwB μ) := by
  intro f j
  unfold nwB
  split
  · decide
  · exact h f j
theorem six {r : Int} (h : 0 ≤ r ∧ r < 6) : r = 0 ∨ r = 1 ∨ r = 2 ∨ r = 3 ∨ r = 4 ∨ r = 5 := by omega
theorem wP_row {r : Int} (h : 0 ≤ r ∧ r < 6) (g : Ad) (σ μ : St) : (wP g σ μ)[32 + r.toNat]? = some (g.2 (51 + r.toNat), .inl (g.1 0, 64, .inl (fun j : Nat => I (μ (51 + r.toNat) (j : Int))))) := by
  rcases six h with rfl | rfl | rfl | rfl | rfl | rfl <;> rfl
theorem wB_row {r : Int} (h : 0 ≤ r ∧ r < 6) (g : Ad) (σ μ : St) : (wB g σ μ)[32 + r.toNat]? = some (g.2 (51 + r.toNat), .inl (g.1 0, 64, .inl (fun j : Nat => I (μ (51 + r.toNat) (j : Int))))) := by
  rcases six h with rfl | rfl | rfl | rfl | rfl | rfl <;> rfl
def upG (g : Ad) (l : Nat) : Ad := (g.1, fun k => if k = 51 + l then g.2 48 else g.2 k)
def oS (g : Ad) (l : Nat) : Nat × va_E := (g.2 46, .inl (g.1 2, 6, .inr (.inr (.inr (.inr (fun i => if i < 6 then some ((upG g l).2 (51 + i)) else none))))))
def wS (g : Ad) (σ μ : St) (l : Nat) : va_W := wE g σ ++ [oS g l, nC g μ, rC g μ 0, rC g μ 1, rC g μ 2, rC g μ 3, rC g μ 4, rC g μ 5, bC g μ]
theorem oC_g {g g1 : Ad} (h1 : g1.1 = g.1) (h2 : g1.2 46 = g.2 46) (h : ∀ i, i < 6 → g1.2 (51 + i) = g.2 (51 + i)) : oC g1 = oC g := by
  have hf : (fun i => if i < 6 then some (g1.2 (51 + i)) else none : Nat → Option Nat) = fun i => if i < 6 then some (g.2 (51 + i)) else none := by
    funext i
    by_cases c : i < 6
    · rw [if_pos c, if_pos c, h i c]
    · rw [if_neg c, if_neg c]
  unfold oC
  rw [h1, h2, hf]
theorem wS_p0 (g : Ad) (σ μ : St) : (List.range 32 ++ [38, 33, 34, 35, 36, 37]).filterMap (fun i => (wS g σ μ 0)[i]?) = wP (upG g 0) σ (mvB μ 0) := rfl
theorem wS_q0 (g : Ad) (σ μ : St) : (List.range 32 ++ [38, 33, 34, 35, 36, 37]).map (fun i => (wS g σ μ 0)[i]?) = (wP (upG g 0) σ (mvB μ 0)).map some := rfl
theorem wS_p1 (g : Ad) (σ μ : St) : (List.range 32 ++ [32, 38, 34, 35, 36, 37]).filterMap (fun i => (wS g σ μ 1)[i]?) = wP (upG g 1) σ (mvB μ 1) := rfl
theorem wS_q1 (g : Ad) (σ μ : St) : (List.range 32 ++ [32, 38, 34, 35, 36, 37]).map (fun i => (wS g σ μ 1)[i]?) = (wP (upG g 1) σ (mvB μ 1)).map some := rfl
theorem wS_p2 (g : Ad) (σ μ : St) : (List.range 32 ++ [32, 33, 38, 35, 36, 37]).filterMap (fun i => (wS g σ μ 2)[i]?) = wP (upG g 2) σ (mvB μ 2) := rfl
theorem wS_q2 (g : Ad) (σ μ : St) : (List.range 32 ++ [32, 33, 38, 35, 36, 37]).map (fun i => (wS g σ μ 2)[i]?) = (wP (upG g 2) σ (mvB μ 2)).map some := rfl
theorem wS_p3 (g : Ad) (σ μ : St) : (List.range 32 ++ [32, 33, 34, 38, 36, 37]).filterMap (fun i => (wS g σ μ 3)[i]?) = wP (upG g 3) σ (mvB μ 3) := rfl
theorem wS_q3 (g : Ad) (σ μ : St) : (List.range 32 ++ [32, 33, 34, 38, 36, 37]).map (fun i => (wS g σ μ 3)[i]?) = (wP (upG g 3) σ (mvB μ 3)).map some := rfl
theorem wS_p4 (g : Ad) (σ μ : St) : (List.range 32 ++ [32, 33, 34, 35, 38, 37]).filterMap (fun i => (wS g σ μ 4)[i]?) = wP (upG g 4) σ (mvB μ 4) := rfl
theorem wS_q4 (g : Ad) (σ μ : St) : (List.range 32 ++ [32, 33, 34, 35, 38, 37]).map (fun i => (wS g σ μ 4)[i]?) = (wP (upG g 4) σ (mvB μ 4)).map some := rfl
theorem wS_p5 (g : Ad) (σ μ : St) : (List.range 32 ++ [32, 33, 34, 35, 36, 38]).filterMap (fun i => (wS g σ μ 5)[i]?) = wP (upG g 5) σ (mvB μ 5) := rfl
theorem wS_q5 (g : Ad) (σ μ : St) : (List.range 32 ++ [32, 33, 34, 35, 36, 38]).map (fun i => (wS g σ μ 5)[i]?) = (wP (upG g 5) σ (mvB μ 5)).map some := rfl
theorem wP_eC (g : Ad) (σ μ : St) : (List.range 30).map (fun i => (wP g σ μ)[i]?) = (wE g σ).map some := rfl
theorem wP_eC2 (g : Ad) (σ μ : St) : (List.range 30).filterMap (fun i => (wP g σ μ)[i]?) = wE g σ := rfl
theorem wP_eR (g : Ad) (σ μ : St) : ((List.range 8).map (· + 30)).map (fun i => (wP g σ μ)[i]?) = (wLaw g μ).map some := rfl
theorem wP_back (g : Ad) (σ μ : St) : ((List.range 30).map (· + 8) ++ List.range 8).filterMap (fun i => (wLaw g μ ++ wE g σ)[i]?) = wP g σ μ := rfl
theorem wP_back2 (g : Ad) (σ μ : St) : ((List.range 30).map (· + 8) ++ List.range 8).map (fun i => (wLaw g μ ++ wE g σ)[i]?) = (wP g σ μ).map some := rfl
theorem wB_eC (g : Ad) (σ μ : St) : (List.range 30).map (fun i => (wB g σ μ)[i]?) = (wE g σ).map some := rfl
theorem wB_eC2 (g : Ad) (σ μ : St) : (List.range 30).filterMap (fun i => (wB g σ μ)[i]?) = wE g σ := rfl
theorem wB_eR (g : Ad) (σ μ : St) : ((List.range 9).map (· + 30)).map (fun i => (wB g σ μ)[i]?) = (wLawB g μ).map some := rfl
theorem wB_back (g : Ad) (σ μ : St) : ((List.range 30).map (· + 9) ++ List.range 9).filterMap (fun i => (wLawB g μ ++ wE g σ)[i]?) = wB g σ μ := rfl
theorem wB_back2 (g : Ad) (σ μ : St) : ((List.range 30).map (· + 9) ++ List.range 9).map (fun i => (wLawB g μ ++ wE g σ)[i]?) = (wB g σ μ).map some := rfl
section LW
variable {p : Program} {l : Launch} {e : Env} {R : Room} {s : State} {m : MethodId} {args : Array Value} {below : List Frame} {meth : Method} {c : Code} {H : Heap} {locs : List Loc} {cells slots : Nat} {Q : State → Prop}
variable {cc : ByteArray} {pc : Nat} {ls : Array Slot} {rest : List Value} {D : va_G} {g : Ad} {own : String} {A : Nat → Prop} {H0 : Heap} {σ σ' μ : St}
theorem preL_v {w wc : va_W} {C : String} {b : Nat} {As : List Value} (C0 : CX p c cc m s args D g own) (hE : EW D A H0 w H locs) (isC : List Nat) (h1 : isC.map (fun i => w[i]?) = wc.map some) (h2 : isC.filterMap (fun i => w[i]?) = wc) (hn : va_nd isC = true) (hrec : RC s H C b) : PreV s H C b (PC D g wc (.ref b :: As) H.size) As :=
  ⟨pc_blind, hrec, fun U hU hW => ⟨rfl, by rw [hU], by rw [hU]; exact hE.1.sub isC h2, C0.2.2.2.2.warm hW, (hE.2.1.sub isC hn h1).weaken (fun _ _ _ _ => trivial)⟩⟩
theorem lawP_i {ix : Nat} {y : MethodName} {b : ByteArray} {nl : Nat} {rt : Option FieldType} {n k nL : Nat} {As st0 : List Value} {r : Int} {R' : Prop} (C0 : CX p c cc m s args D g own) (hml : c.maxLocals = nL) (hE : EW D A H0 (wP g σ μ) H locs) (M : CtI l D g y b nl rt k (wE g σ) (wE g σ') (.ref (g.2 0) :: As) r R') (K : KWV own ix RX7 y b nl rt n)
    (hk : k + 1 ≤ R.frames ∧ 8 + (nl + 11) + 40 * k ≤ R.locals) (hn : As.length = n) (hls : ls.size = nL) (hst : st0 = As.reverse ++ .ref (g.2 0) :: rest) (hw : (rest.map fun v => v.category).sum ≤ 8) (hd : decode cc pc = .ok (.invokevirtual ix, 3)) (hc : cells ≤ R.cells ∧ slots ≤ R.slots)
    (kk : ∀ (H1 : Heap) (locs1 : List Loc), EW D A H0 (wP g σ' μ) H1 locs1 → R' → W p l e R s m args below meth c H1 locs1 cells slots Q (F0 m (pc + 3) ls (.int (I r) :: rest))) : W p l e R s m args below meth c H locs cells slots Q (F0 m pc ls st0) := by
  have hF := va_free hE.2.1 hE.2.2.1 hE.2.2.2 (List.range 30) (wP_eC g σ μ)
  exact va_calli (va_runV ⟨C0.1, C0.2.1, hml, C0.2.2.1, C0.2.2.2.1⟩ (M H.size) (kwv K C0 hk) (preL_v C0 hE (List.range 30) (wP_eC g σ μ) (wP_eC2 g σ μ) (by decide +kernel) (va_recv C0.2.2.2.2.1 hE.1 (ci := 6) (q0 := 0) rfl rfl)) rfl hn hls hst (lv_room hw) hd hc) hE.2.2.1 (fun q _ h => hF q h) hF
    (fun x u t H1 locs1 ht hvm hp hB hz hq hS => by
      obtain ⟨rfl, hR⟩ := hp
      have h1 := ew_join hE (List.range 30) ((List.range 8).map (· + 30)) (wP_eC g σ μ) (wP_eR g σ μ) (by decide +kernel) (by decide +kernel) ht hB hq hS
      exact kk H1 locs1 (ew_sub _ (wP_back g σ' μ) (wP_back2 g σ' μ) (by decide +kernel) h1) hR)
theorem lawP_l {ix : Nat} {y : MethodName} {b : ByteArray} {nl : Nat} {rt : Option FieldType} {n k nL : Nat} {As st0 : List Value} {r : Int} {R' : Prop} (C0 : CX p c cc m s args D g own) (hml : c.maxLocals = nL) (hE : EW D A H0 (wP g σ μ) H locs) (M : CtL l D g y b nl rt k (wE g σ) (wE g σ') (.ref (g.2 0) :: As) r R') (K : KWV own ix RX7 y b nl rt n)
    (hk : k + 1 ≤ R.frames ∧ 8 + (nl + 11) + 40 * k ≤ R.locals) (hn : As.length = n) (hls : ls.size = nL) (hst : st0 = As.reverse ++ .ref (g.2 0) :: rest) (hw : (rest.map fun v => v.category).sum ≤ 8) (hd : decode cc pc = .ok (.invokevirtual ix, 3)) (hc : cells ≤ R.cells ∧ slots ≤ R.slots)
    (kk : ∀ (H1 : Heap) (locs1 : List Loc), EW D A H0 (wP g σ' μ) H1 locs1 → R' → W p l e R s m args below meth c H1 locs1 cells slots Q (F0 m (pc + 3) ls (.long (J r) :: rest))) : W p l e R s m args below meth c H locs cells slots Q (F0 m pc ls st0) := by
  have hF := va_free hE.2.1 hE.2.2.1 hE.2.2.2 (List.range 30) (wP_eC g σ μ)
  exact va_calll (va_runV ⟨C0.1, C0.2.1, hml, C0.2.2.1, C0.2.2.2.1⟩ (M H.size) (kwv K C0 hk) (preL_v C0 hE (List.range 30) (wP_eC g σ μ) (wP_eC2 g σ μ) (by decide +kernel) (va_recv C0.2.2.2.2.1 hE.1 (ci := 6) (q0 := 0) rfl rfl)) rfl hn hls hst (lv_room hw) hd hc) hE.2.2.1 (fun q _ h => hF q h) hF
    (fun x u t H1 locs1 ht hvm hp hB hz hq hS => by
      obtain ⟨rfl, hR⟩ := hp
      have h1 := ew_join hE (List.range 30) ((List.range 8).map (· + 30)) (wP_eC g σ μ) (wP_eR g σ μ) (by decide +kernel) (by decide +kernel) ht hB hq hS
      exact kk H1 locs1 (ew_sub _ (wP_back g σ' μ) (wP_back2 g σ' μ) (by decide +kernel) h1) hR)
theorem lawSP_i {ix : Nat} {y : MethodName} {b : ByteArray} {nl : Nat} {rt : Option FieldType} {n k nL : Nat} {As st0 : List Value} {r : Int} {R' : Prop} (C0 : CX p c cc m s args D g own) (hml : c.maxLocals = nL) (hE : EW D A H0 (wP g σ μ) H locs) (M : CtI l D g y b nl rt k (wE g σ) (wE g σ') As r R') (K : KWS own ix y b nl rt n)
    (hk : k + 1 ≤ R.frames ∧ 8 + (nl + 11) + 40 * k ≤ R.locals) (hn : As.length = n) (hls : ls.size = nL) (hst : st0 = As.reverse ++ rest) (hw : (rest.map fun v => v.category).sum ≤ 8) (hd : decode cc pc = .ok (.invokestatic ix, 3)) (hc : cells ≤ R.cells ∧ slots ≤ R.slots)
    (kk : ∀ (H1 : Heap) (locs1 : List Loc), EW D A H0 (wP g σ' μ) H1 locs1 → R' → W p l e R s m args below meth c H1 locs1 cells slots Q (F0 m (pc + 3) ls (.int (I r) :: rest))) : W p l e R s m args below meth c H locs cells slots Q (F0 m pc ls st0) := by
  have hF := va_free hE.2.1 hE.2.2.1 hE.2.2.2 (List.range 30) (wP_eC g σ μ)
  exact va_calli (va_runS ⟨C0.1, C0.2.1, hml, C0.2.2.1, C0.2.2.2.1⟩ (M H.size) (kws K C0 hk) (pre_sub C0 hE (List.range 30) (wP_eC2 g σ μ) (wP_eC g σ μ) (by decide +kernel)) rfl hn hls hst (lv_room hw) hd hc) hE.2.2.1 (fun q _ h => hF q h) hF
    (fun x u t H1 locs1 ht hvm hp hB hz hq hS => by
      obtain ⟨rfl, hR⟩ := hp
      have h1 := ew_join hE (List.range 30) ((List.range 8).map (· + 30)) (wP_eC g σ μ) (wP_eR g σ μ) (by decide +kernel) (by decide +kernel) ht hB hq hS
      exact kk H1 locs1 (ew_sub _ (wP_back g σ' μ) (wP_back2 g σ' μ) (by decide +kernel) h1) hR)
theorem lawB_i {ix : Nat} {y : MethodName} {b : ByteArray} {nl : Nat} {rt : Option FieldType} {n k nL : Nat} {As st0 : List Value} {r : Int} {R' : Prop} (C0 : CX p c cc m s args D g own) (hml : c.maxLocals = nL) (hE : EW D A H0 (wB g σ μ) H locs) (M : CtI l D g y b nl rt k (wE g σ) (wE g σ') (.ref (g.2 0) :: As) r R') (K : KWV own ix RX7 y b nl rt n)
    (hk : k + 1 ≤ R.frames ∧ 8 + (nl + 11) + 40 * k ≤ R.locals) (hn : As.length = n) (hls : ls.size = nL) (hst : st0 = As.reverse ++ .ref (g.2 0) :: rest) (hw : (rest.map fun v => v.category).sum ≤ 8) (hd : decode cc pc = .ok (.invokevirtual ix, 3)) (hc : cells ≤ R.cells ∧ slots ≤ R.slots)
    (kk : ∀ (H1 : Heap) (locs1 : List Loc), EW D A H0 (wB g σ' μ) H1 locs1 → R' → W p l e R s m args below meth c H1 locs1 cells slots Q (F0 m (pc + 3) ls (.int (I r) :: rest))) : W p l e R s m args below meth c H locs cells slots Q (F0 m pc ls st0) := by
  have hF := va_free hE.2.1 hE.2.2.1 hE.2.2.2 (List.range 30) (wB_eC g σ μ)
  exact va_calli (va_runV ⟨C0.1, C0.2.1, hml, C0.2.2.1, C0.2.2.2.1⟩ (M H.size) (kwv K C0 hk) (preL_v C0 hE (List.range 30) (wB_eC g σ μ) (wB_eC2 g σ μ) (by decide +kernel) (va_recv C0.2.2.2.2.1 hE.1 (ci := 6) (q0 := 0) rfl rfl)) rfl hn hls hst (lv_room hw) hd hc) hE.2.2.1 (fun q _ h => hF q h) hF
    (fun x u t H1 locs1 ht hvm hp hB hz hq hS => by
      obtain ⟨rfl, hR⟩ := hp
      have h1 := ew_join hE (List.range 30) ((List.range 9).map (· + 30)) (wB_eC g σ μ) (wB_eR g σ μ) (by decide +kernel) (by decide +kernel) ht hB hq hS
      exact kk H1 locs1 (ew_sub _ (wB_back g σ' μ) (wB_back2 g σ' μ) (by decide +kernel) h1) hR)
theorem lawB_l {ix : Nat} {y : MethodName} {b : ByteArray} {nl : Nat} {rt : Option FieldType} {n k nL : Nat} {As st0 : List Value} {r : Int} {R' : Prop} (C0 : CX p c cc m s args D g own) (hml : c.maxLocals = nL) (hE : EW D A H0 (wB g σ μ) H locs) (M : CtL l D g y b nl rt k (wE g σ) (wE g σ') (.ref (g.2 0) :: As) r R') (K : KWV own ix RX7 y b nl rt n)
    (hk : k + 1 ≤ R.frames ∧ 8 + (nl + 11) + 40 * k ≤ R.locals) (hn : As.length = n) (hls : ls.size = nL) (hst : st0 = As.reverse ++ .ref (g.2 0) :: rest) (hw : (rest.map fun v => v.category).sum ≤ 8) (hd : decode cc pc = .ok (.invokevirtual ix, 3)) (hc : cells ≤ R.cells ∧ slots ≤ R.slots)
    (kk : ∀ (H1 : Heap) (locs1 : List Loc), EW D A H0 (wB g σ' μ) H1 locs1 → R' → W p l e R s m args below meth c H1 locs1 cells slots Q (F0 m (pc + 3) ls (.long (J r) :: rest))) : W p l e R s m args below meth c H locs cells slots Q (F0 m pc ls st0) := by
  have hF := va_free hE.2.1 hE.2.2.1 hE.2.2.2 (List.range 30) (wB_eC g σ μ)
  exact va_calll (va_runV ⟨C0.1, C0.2.1, hml, C0.2.2.1, C0.2.2.2.1⟩ (M H.size) (kwv K C0 hk) (preL_v C0 hE (List.range 30) (wB_eC g σ μ) (wB_eC2 g σ μ) (by decide +kernel) (va_recv C0.2.2.2.2.1 hE.1 (ci := 6) (q0 := 0) rfl rfl)) rfl hn hls hst (lv_room hw) hd hc) hE.2.2.1 (fun q _ h => hF q h) hF
    (fun x u t H1 locs1 ht hvm hp hB hz hq hS => by
      obtain ⟨rfl, hR⟩ := hp
      have h1 := ew_join hE (List.range 30) ((List.range 9).map (· + 30)) (wB_eC g σ μ) (wB_eR g σ μ) (by decide +kernel) (by decide +kernel) ht hB hq hS
      exact kk H1 locs1 (ew_sub _ (wB_back g σ' μ) (wB_back2 g σ' μ) (by decide +kernel) h1) hR)
theorem lawSB_i {ix : Nat} {y : MethodName} {b : ByteArray} {nl : Nat} {rt : Option FieldType} {n k nL : Nat} {As st0 : List Value} {r : Int} {R' : Prop} (C0 : CX p c cc m s args D g own) (hml : c.maxLocals = nL) (hE : EW D A H0 (wB g σ μ) H locs) (M : CtI l D g y b nl rt k (wE g σ) (wE g σ') As r R') (K : KWS own ix y b nl rt n)
    (hk : k + 1 ≤ R.frames ∧ 8 + (nl + 11) + 40 * k ≤ R.locals) (hn : As.length = n) (hls : ls.size = nL) (hst : st0 = As.reverse ++ rest) (hw : (rest.map fun v => v.category).sum ≤ 8) (hd : decode cc pc = .ok (.invokestatic ix, 3)) (hc : cells ≤ R.cells ∧ slots ≤ R.slots)
    (kk : ∀ (H1 : Heap) (locs1 : List Loc), EW D A H0 (wB g σ' μ) H1 locs1 → R' → W p l e R s m args below meth c H1 locs1 cells slots Q (F0 m (pc + 3) ls (.int (I r) :: rest))) : W p l e R s m args below meth c H locs cells slots Q (F0 m pc ls st0) := by
  have hF := va_free hE.2.1 hE.2.2.1 hE.2.2.2 (List.range 30) (wB_eC g σ μ)
  exact va_calli (va_runS ⟨C0.1, C0.2.1, hml, C0.2.2.1, C0.2.2.2.1⟩ (M H.size) (kws K C0 hk) (pre_sub C0 hE (List.range 30) (wB_eC2 g σ μ) (wB_eC g σ μ) (by decide +kernel)) rfl hn hls hst (lv_room hw) hd hc) hE.2.2.1 (fun q _ h => hF q h) hF
    (fun x u t H1 locs1 ht hvm hp hB hz hq hS => by
      obtain ⟨rfl, hR⟩ := hp
      have h1 := ew_join hE (List.range 30) ((List.range 9).map (· + 30)) (wB_eC g σ μ) (wB_eR g σ μ) (by decide +kernel) (by decide +kernel) ht hB hq hS
      exact kk H1 locs1 (ew_sub _ (wB_back g σ' μ) (wB_back2 g σ' μ) (by decide +kernel) h1) hR)
theorem rowP_l {r i v : Int} (C0 : CX p c cc m s args D g own) (hE : EW D A H0 (wP g σ μ) H locs) (hr : 0 ≤ r ∧ r < 6) (hi : in32 i) (e9 : v = μ (51 + r.toNat) i ∧ 0 ≤ i ∧ i < 64) (hd : decode cc pc = .ok (.iaload, 1)) (kk : W p l e R s m args below meth c H locs cells slots Q (F0 m (pc + 1) ls (.int (I v) :: rest))) : W p l e R s m args below meth c H locs cells slots Q (F0 m pc ls (.int (I i) :: .ref (g.2 (51 + r.toNat)) :: rest)) :=
  x_iald (q0 := 32 + r.toNat) (N := 64) (n := 64) (σ := μ) (F := 51 + r.toNat) C0 hE (wP_row hr g σ μ) rfl hi e9 hd kk
theorem rowB_l {r i v : Int} (C0 : CX p c cc m s args D g own) (hE : EW D A H0 (wB g σ μ) H locs) (hr : 0 ≤ r ∧ r < 6) (hi : in32 i) (e9 : v = μ (51 + r.toNat) i ∧ 0 ≤ i ∧ i < 64) (hd : decode cc pc = .ok (.iaload, 1)) (kk : W p l e R s m args below meth c H locs cells slots Q (F0 m (pc + 1) ls (.int (I v) :: rest))) : W p l e R s m args below meth c H locs cells slots Q (F0 m pc ls (.int (I i) :: .ref (g.2 (51 + r.toNat)) :: rest)) :=
  x_iald (q0 := 32 + r.toNat) (N := 64) (n := 64) (σ := μ) (F := 51 + r.toNat) C0 hE (wB_row hr g σ μ) rfl hi e9 hd kk
theorem manyP_l {i v : Int} (C0 : CX p c cc m s args D g own) (hE : EW D A H0 (wP g σ μ) H locs) (hi : in32 i) (e9 : v = μ 47 i ∧ 0 ≤ i ∧ i < 6) (hd : decode cc pc = .ok (.iaload, 1)) (kk : W p l e R s m args below meth c H locs cells slots Q (F0 m (pc + 1) ls (.int (I v) :: rest))) : W p l e R s m args below meth c H locs cells slots Q (F0 m pc ls (.int (I i) :: .ref (g.2 47) :: rest)) :=
  x_iald (q0 := 31) (N := 6) (n := 6) C0 hE rfl rfl hi e9 hd kk
theorem manyB_l {i v : Int} (C0 : CX p c cc m s args D g own) (hE : EW D A H0 (wB g σ μ) H locs) (hi : in32 i) (e9 : v = μ 47 i ∧ 0 ≤ i ∧ i < 6) (hd : decode cc pc = .ok (.iaload, 1)) (kk : W p l e R s m args below meth c H locs cells slots Q (F0 m (pc + 1) ls (.int (I v) :: rest))) : W p l e R s m args below meth c H locs cells slots Q (F0 m pc ls (.int (I i) :: .ref (g.2 47) :: rest)) :=
  x_iald (q0 := 31) (N := 6) (n := 6) C0 hE rfl rfl hi e9 hd kk
theorem bB_l {i v : Int} (C0 : CX p c cc m s args D g own) (hE : EW D A H0 (wB g σ μ) H locs) (hi : in32 i) (e9 : v = μ 48 i ∧ 0 ≤ i ∧ i < 64) (hd : decode cc pc = .ok (.iaload, 1)) (kk : W p l e R s m args below meth c H locs cells slots Q (F0 m (pc + 1) ls (.int (I v) :: rest))) : W p l e R s m args below meth c H locs cells slots Q (F0 m pc ls (.int (I i) :: .ref (g.2 48) :: rest)) :=
  x_iald (q0 := 38) (N := 64) (n := 64) C0 hE rfl rfl hi e9 hd kk
theorem wB_b (g : Ad) (σ μ : St) (i v : Int) : (wB g σ μ).set 38 (g.2 48, .inl (g.1 0, 64, .inl (fun j : Nat => I (us μ 48 i v 48 (j : Int))))) = wB g σ (us μ 48 i v) := rfl
theorem wP_n (g : Ad) (σ μ : St) (i v : Int) : (wP g σ μ).set 31 (g.2 47, .inl (g.1 0, 6, .inl (fun j : Nat => I (us μ 47 i v 47 (j : Int))))) = wP g σ (us μ 47 i v) := rfl
theorem bB_st {i v : Int} {ν : St} (C0 : CX p c cc m s args D g own) (hE : EW D A H0 (wB g σ μ) H locs) (hi : in32 i) (e9 : ν = us μ 48 i v ∧ 0 ≤ i ∧ i < 64) (hd : decode cc pc = .ok (.iastore, 1)) (kk : ∀ (H1 : Heap) (locs1 : List Loc), EW D A H0 (wB g σ ν) H1 locs1 → W p l e R s m args below meth c H1 locs1 cells slots Q (F0 m (pc + 1) ls rest)) : W p l e R s m args below meth c H locs cells slots Q (F0 m pc ls (.int (I v) :: .int (I i) :: .ref (g.2 48) :: rest)) := by
  obtain ⟨e1, e2⟩ := e9
  subst e1
  exact x_iast (q0 := 38) (N := 64) (n := 64) (F := 48) C0 hE rfl rfl hi e2 (wB_b g σ μ i v) hd kk
theorem nP_st {i v : Int} {ν : St} (C0 : CX p c cc m s args D g own) (hE : EW D A H0 (wP g σ μ) H locs) (hi : in32 i) (e9 : ν = us μ 47 i v ∧ 0 ≤ i ∧ i < 6) (hd : decode cc pc = .ok (.iastore, 1)) (kk : ∀ (H1 : Heap) (locs1 : List Loc), EW D A H0 (wP g σ ν) H1 locs1 → W p l e R s m args below meth c H1 locs1 cells slots Q (F0 m (pc + 1) ls rest)) : W p l e R s m args below meth c H locs cells slots Q (F0 m pc ls (.int (I v) :: .int (I i) :: .ref (g.2 47) :: rest)) := by
  obtain ⟨e1, e2⟩ := e9
  subst e1
  exact x_iast (q0 := 31) (N := 6) (n := 6) (F := 47) C0 hE rfl rfl hi e2 (wP_n g σ μ i v) hd kk
theorem aald_at {w : va_W} {i k : Int} (C0 : CX p c cc m s args D g own) (hK : va_K D vwCl [(g.1 2, .array .int)] s) (hE : EW D A H0 w H locs) (hw : w[30]? = some (oC g)) (ii : in32 i) (e9 : k = i ∧ 0 ≤ k ∧ k < 6) (hd : decode cc pc = .ok (.aaload, 1)) (kk : W p l e R s m args below meth c H locs cells slots Q (F0 m (pc + 1) ls (.ref (g.2 (51 + k.toNat)) :: rest))) : W p l e R s m args below meth c H locs cells slots Q (F0 m pc ls (.int (I i) :: .ref (g.2 46) :: rest)) := by
  obtain ⟨rfl, h0, h1⟩ := e9
  have hin : vp_in (I k) 6 := I_in h0 h1 ii rfl
  have hc : (I k).toNatClampNeg = k.toNat := I_clamp h0 ii
  have hlt : (I k).toNatClampNeg < 6 := Nat.not_le.mp fun q => hin (Or.inr q)
  refine W.aald (v := .ref (g.2 (51 + k.toNat))) (ty := .array .int) C0.1 C0.2.1 (hE.1 30 _ hw) ((hK.2 0 _ rfl).1 6 (fun j => va_rf (if j < 6 then some (g.2 (51 + j)) else none))) rfl (fun q => by cases q) ?_ ?_ rfl rfl hd kk
  · show ¬ (I k < 0 ∨ (arrV _ _ _).slots.size ≤ _)
    rw [arrV_size]
    exact hin
  · show (arrV _ _ _).slots[_]? = _
    rw [arrV_read _ _ hlt, hc]
    rw [hc] at hlt
    simp only [hlt, if_true]
    rfl
theorem aastB_end {l : Nat} (hl : l < 6) (hE : EW D A H0 (wS g σ μ l) H locs) : EW D A H0 (wP (upG g l) σ (mvB μ (l : Int))) H locs := by
  rcases (show l = 0 ∨ l = 1 ∨ l = 2 ∨ l = 3 ∨ l = 4 ∨ l = 5 by omega) with rfl | rfl | rfl | rfl | rfl | rfl
  · exact ew_sub _ (wS_p0 g σ μ) (wS_q0 g σ μ) (by decide +kernel) hE
  · exact ew_sub _ (wS_p1 g σ μ) (wS_q1 g σ μ) (by decide +kernel) hE
  · exact ew_sub _ (wS_p2 g σ μ) (wS_q2 g σ μ) (by decide +kernel) hE
  · exact ew_sub _ (wS_p3 g σ μ) (wS_q3 g σ μ) (by decide +kernel) hE
  · exact ew_sub _ (wS_p4 g σ μ) (wS_q4 g σ μ) (by decide +kernel) hE
  · exact ew_sub _ (wS_p5 g σ μ) (wS_q5 g σ μ) (by decide +kernel) hE
theorem wS_set (g : Ad) (σ μ : St) (l : Nat) : (wB g σ μ).set 30 (oS g l) = wS g σ μ l := rfl
theorem wB_o (g : Ad) (σ μ : St) : (wB g σ μ)[30]? = some (oC g) := rfl
theorem wB_b9 (g : Ad) (σ μ : St) : (wB g σ μ)[38]? = some (bC g μ) := rfl
theorem aastB {i : Int} {b : Nat} (C0 : CX p c cc m s args D g own) (hK : va_K D vwCl [(g.1 2, .array .int)] s) (hAO : (Cond.arrayOver (.array .int)).before #[Value.ref b] s = true) (hE : EW D A H0 (wB g σ μ) H locs) (ii : in32 i) (hi : 0 ≤ i ∧ i < 6) (hd : decode cc pc = .ok (.aastore, 1))
    (kk : ∀ (g1 : Ad) (H1 : Heap) (locs1 : List Loc), g1.1 = g.1 → (∀ k, k < 51 → g1.2 k = g.2 k) → EW D A H0 (wP g1 σ (mvB μ i)) H1 locs1 → W p l e R s m args below meth c H1 locs1 cells slots Q (F0 m (pc + 1) ls rest)) : W p l e R s m args below meth c H locs cells slots Q (F0 m pc ls (.ref (g.2 48) :: .int (I i) :: .ref (g.2 46) :: rest)) := by
  obtain ⟨n, rfl⟩ : ∃ n : Nat, i = (n : Int) := ⟨i.toNat, by omega⟩
  have hn : n < 6 := by omega
  have hin : vp_in (I (n : Int)) 6 := I_in hi.1 hi.2 ii rfl
  have hc : (I (n : Int)).toNatClampNeg = n := I_clamp hi.1 ii
  have h0 : ¬ I (n : Int) < 0 := fun q => hin (Or.inl q)
  obtain ⟨comp, c9, k9, q1, q2, q3, q4, q5⟩ := Jvm.Stand.arrayOver_specB hAO
  have r1 : s.vm.findClass ("[" ++ (FieldType.array FieldType.int).toString) = some (g.1 2) := (hK.2 0 _ rfl).2
  have r2 : s.vm.findClass ("[" ++ FieldType.int.toString) = some (g.1 0) := (C0.2.2.2.2.1.2 0 _ rfl).2
  have e1 : c9 = g.1 2 := Option.some.inj (q5.symm.trans r1)
  have e2 : comp = g.1 0 := Option.some.inj (q1.symm.trans r2)
  subst e1
  subst e2
  obtain ⟨kC, hkC, -⟩ := Vm.findClass_spec r2
  have hP := hE.1
  have hcA : H[g.2 46]? = some (arrV (g.1 2) 6 (fun j => va_rf (if j < 6 then some (g.2 (51 + j)) else none))) := hP 30 _ (wB_o g σ μ)
  have hcV : H[g.2 48]? = some (vp_cell (g.1 0) (64, .inl (fun j : Nat => I (μ 48 (j : Int))))) := hP 38 _ (wB_b9 g σ μ)
  refine W.aast (cell := arrV (g.1 2) 6 (fun j => va_rf (if j < 6 then some (g.2 (51 + j)) else none))) (cv := vp_cell (g.1 0) (64, .inl (fun j : Nat => I (μ 48 (j : Int))))) C0.1 C0.2.1 hcA (fun q h => by cases h) (fun h => by cases h) q3 q4 rfl hkC ⟨h0, by rw [arrV_size, hc]; exact hn⟩ hcV (fun q h => by cases h) hkC (va_asg _ _) rfl rfl hd fun H1 e z oq => ?_
  have hP1 := hP.set hE.2.1 (e := (oS g n).2) (wB_o g σ μ) (by
    show H1[_]? = some (vp_cell (g.1 2) (6, .inr (.inr (.inr (.inr (fun i => if i < 6 then some ((upG g n).2 (51 + i)) else none))))))
    rw [e, vp_cell_q, arrV_store, hc]
    congr 2
    funext q
    show updV _ n _ q = va_rf (if q < 6 then some (if 51 + q = 51 + n then g.2 48 else g.2 (51 + q)) else none)
    by_cases hq : q = n
    · subst hq
      rw [if_pos hn, if_pos rfl]
      simp [updV, va_rf]
    · rw [if_neg (show ¬ 51 + q = 51 + n by omega)]
      simp [updV, hq]) oq
  have hD1 := hE.2.1.set (e := (oS g n).2) (wB_o g σ μ)
  have hS1 : va_S A H0 H1 (locs ++ [⟨g.2 46, (I (n : Int)).toNatClampNeg⟩]) := hE.2.2.1.put z oq (hE.2.1.2 30 _ (wB_o g σ μ))
  have hE1 : EW D A H0 (wS g σ μ n) H1 (locs ++ [⟨g.2 46, (I (n : Int)).toNatClampNeg⟩]) := ⟨hP1, hD1, hS1, hE.2.2.2⟩
  exact kk (upG g n) H1 _ rfl (fun k hk => if_neg (by omega)) (aastB_end hn hE1)
theorem dropB (hE : EW D A H0 (wB g σ μ) H locs) : EW D A H0 (wP g σ μ) H locs := ew_sub (List.range 38) rfl rfl (by decide +kernel) hE
theorem newB {q : Nat} (hE : EW D A H0 (wP g σ μ ++ [(q, .inl (g.1 0, (64, .inl (fun _ => 0))))]) H locs) : EW D A H0 (wB (g.1, fun k => if k = 48 then q else g.2 k) σ (nwB μ)) H locs := by
  have e1 : oC (g.1, fun k => if k = 48 then q else g.2 k) = oC g := oC_g rfl rfl (fun i hi => if_neg (by omega))
  have e : wB (g.1, fun k => if k = 48 then q else g.2 k) σ (nwB μ) = wP g σ μ ++ [(q, .inl (g.1 0, (64, .inl (fun _ => 0))))] := by
    unfold wB wLawB wP wLaw
    rw [e1]
    rfl
  rw [e]
  exact hE
end LW
