-- THE LAW's WORLD: the object's cells, the law's own rows, and the row that an act makes; calls from there
def rC (g : Ad) (μ : St) (r : Nat) : Nat × va_E := (g.2 (51 + r), .inl (g.1 0, 64, .inl (fun j : Nat => I (μ (51 + r) (j : Int)))))
def oC (g : Ad) : Nat × va_E := (g.2 46, .inl (g.1 2, 6, .inr (.inr (.inr (.inr (fun i => if i < 6 then some (g.2 (51 + i)) else none))))))
def nC (g : Ad) (μ : St) : Nat × va_E := (g.2 47, .inl (g.1 0, 6, .inl (fun j : Nat => I (μ 47 (j : Int)))))
def bC (g : Ad) (μ : St) : Nat × va_E := (g.2 48, .inl (g.1 0, 64, .inl (fun j : Nat => I (μ 48 (j : Int)))))
def wLaw (g : Ad) (μ : St) : va_W := [oC g, nC g μ, rC g μ 0, rC g μ 1, rC g μ 2, rC g μ 3, rC g μ 4, rC g μ 5]
def wLawB (g : Ad) (μ : St) : va_W := [oC g, nC g μ, rC g μ 0, rC g μ 1, rC g μ 2, rC g μ 3, rC g μ 4, rC g μ 5, bC g μ]
def wP (g : Ad) (σ μ : St) : va_W := wE g σ ++ wLaw g μ
def wB (g : Ad) (σ μ : St) : va_W := wE g σ ++ wLawB g μ
def aL (s : State) : Nat → Prop := fun q => s.heap.size ≤ q
def LC (p : Program) (s : State) (m : MethodId) (meth : Method) (c : Code) (b L : Nat) (xs : Nat → Int32) (D : va_G) (g : Ad) : Prop :=
  CX p c cL_law m s #[Value.ref b] D g RL ∧ c.maxLocals = 20 ∧ va_X b L xs s s.heap ∧ b < s.heap.size ∧ meth.locks = false ∧ meth.sig.returnType = ret ∧ va_K D vwCl [(g.1 2, .array .int)] s ∧ (Cond.arrayOver (.array .int)).before #[Value.ref b] s = true
theorem CX.cg {p : Program} {c : Code} {cc : ByteArray} {m : MethodId} {s : State} {args : Array Value} {D : va_G} {g g1 : Ad} {own : String} (h : CX p c cc m s args D g own) (e : g1.1 = g.1) : CX p c cc m s args D g1 own := by
  unfold CX KX tyA at *
  rw [e]
  exact h
theorem LC.cg {p : Program} {s : State} {m : MethodId} {meth : Method} {c : Code} {b L : Nat} {xs : Nat → Int32} {D : va_G} {g g1 : Ad} (h : LC p s m meth c b L xs D g) (e : g1.1 = g.1) : LC p s m meth c b L xs D g1 := by
  obtain ⟨h1, h2⟩ := h
  refine ⟨h1.cg e, ?_⟩
  rw [e]
  exact h2
def lvH (g : Ad) (b : Nat) (k : Int) : List (Nat × Value) := [(0, .ref b), (1, .ref (g.2 0)), (2, .ref (g.2 46)), (3, .ref (g.2 47)), (4, .int (I k))]
-- the law's own rows in programs
def rdA {α : Type} (μ : St) (r i : Int) (k : Int → Option α) : Option α := if (0 ≤ r ∧ r < 6) ∧ (0 ≤ i ∧ i < 64) then k (μ (51 + r.toNat) i) else none
theorem rdA_s {α : Type} {μ : St} (hR : R32 μ) {r i : Int} {k : Int → Option α} {x : α} (h : rdA μ r i k = some x) : ∃ c, (c = μ (51 + r.toNat) i ∧ 0 ≤ i ∧ i < 64) ∧ in32 c ∧ k c = some x := by
  obtain ⟨h1, h2⟩ := ck_s h
  exact ⟨_, ⟨rfl, h1.2⟩, hR _ i, h2⟩
def chk6 {α : Type} (i : Int) (k : Int → Option α) : Option α := if 0 ≤ i ∧ i < 6 then k i else none
theorem chk6_s {α : Type} {i : Int} {k : Int → Option α} {x : α} (h : chk6 i k = some x) : ∃ c, (c = i ∧ 0 ≤ c ∧ c < 6) ∧ k c = some x := by
  obtain ⟨h1, h2⟩ := ck_s h
  exact ⟨_, ⟨rfl, h1⟩, h2⟩
def mvB (μ : St) (l : Int) : St := fun f => if f = 51 + l.toNat then μ 48 else μ f
def nwB (μ : St) : St := fun f j => if f = 48 then 0 else μ f j
theorem mvB_R {μ : St} (h : R32 μ) (l : Int) : R32 (mvB μ l) := by
  intro f j
  unfold mvB
  split
  · exact h 48 j
  · exact h f j
theorem nwB_R {μ : St} (h : R32 μ) : R32 (nwB μ) := by
  intro f j
  unfold nwB
  split
  · decide
  · exact h f j
theorem six {r : Int} (h : 0 ≤ r ∧ r < 6) : r = 0 ∨ r = 1 ∨ r = 2 ∨ r = 3 ∨ r = 4 ∨ r = 5 := by omega
theorem wP_row {r : Int} (h : 0 ≤ r ∧ r < 6) (g : Ad) (σ μ : St) : (wP g σ μ)[32 + r.toNat]? = some (g.2 (51 + r.toNat), .inl (g.1 0, 64, .inl (fun j : Nat => I (μ (51 + r.toNat) (j : Int))))) := by
  rcases six h with rfl | rfl | rfl | rfl | rfl | rfl <;> rfl
theorem wB_row {r : Int} (h : 0 ≤ r ∧ r < 6) (g : Ad) (σ μ : St) : (wB g σ μ)[32 + r.toNat]? = some (g.2 (51 + r.toNat), .inl (g.1 0, 64, .inl (fun j : Nat => I (μ (51 + r.toNat) (j : Int))))) := by
  rcases six h with rfl | rfl | rfl | rfl | rfl | rfl <;> rfl
theorem wP_eC (g : Ad) (σ μ : St) : (List.range 30).map (fun i => (wP g σ μ)[i]?) = (wE g σ).map some := rfl
theorem wP_eC2 (g : Ad) (σ μ : St) : (List.range 30).filterMap (fun i => (wP g σ μ)[i]?) = wE g σ := rfl
theorem wP_eR (g : Ad) (σ μ : St) : ((List.range 8).map (· + 30)).map (fun i => (wP g σ μ)[i]?) = (wLaw g μ).map some := rfl
theorem wP_back (g : Ad) (σ μ : St) : ((List.range 30).map (· + 8) ++ List.range 8).filterMap (fun i => (wLaw g μ ++ wE g σ)[i]?) = wP g σ μ := rfl
theorem wP_back2 (g : Ad) (σ μ : St) : ((List.range 30).map (· + 8) ++ List.range 8).map (fun i => (wLaw g μ ++ wE g σ)[i]?) = (wP g σ μ).map some := rfl
theorem wB_eC (g : Ad) (σ μ : St) : (List.range 30).map (fun i => (wB g σ μ)[i]?) = (wE g σ).map some := rfl
theorem wB_eC2 (g : Ad) (σ μ : St) : (List.range 30).filterMap (fun i => (wB g σ μ)[i]?) = wE g σ := rfl
theorem wB_eR (g : Ad) (σ μ : St) : ((List.range 9).map (· + 30)).map (fun i => (wB g σ μ)[i]?) = (wLawB g μ).map some := rfl
theorem wB_back (g : Ad) (σ μ : St) : ((List.range 30).map (· + 9) ++ List.range 9).filterMap (fun i => (wLawB g μ ++ wE g σ)[i]?) = wB g σ μ := rfl
theorem wB_back2 (g : Ad) (σ μ : St) : ((List.range 30).map (· + 9) ++ List.range 9).map (fun i => (wLawB g μ ++ wE g σ)[i]?) = (wB g σ μ).map some := rfl
section LW
variable {p : Program} {l : Launch} {e : Env} {R : Room} {s : State} {m : MethodId} {args : Array Value} {below : List Frame} {meth : Method} {c : Code} {H : Heap} {locs : List Loc} {cells slots : Nat} {Q : State → Prop}
variable {cc : ByteArray} {pc : Nat} {ls : Array Slot} {rest : List Value} {D : va_G} {g : Ad} {own : String} {A : Nat → Prop} {H0 : Heap} {σ σ' μ : St}
theorem preL_v {w wc : va_W} {C : String} {b : Nat} {As : List Value} (C0 : CX p c cc m s args D g own) (hE : EW D A H0 w H locs) (isC : List Nat) (h1 : isC.map (fun i => w[i]?) = wc.map some) (h2 : isC.filterMap (fun i => w[i]?) = wc) (hn : va_nd isC = true) (hrec : RC s H C b) : PreV s H C b (PC D g wc (.ref b :: As) H.size) As :=
  ⟨pc_blind, hrec, fun U hU hW => ⟨rfl, by rw [hU], by rw [hU]; exact hE.1.sub isC h2, C0.2.2.2.2.warm hW, (hE.2.1.sub isC hn h1).weaken (fun _ _ _ _ => trivial)⟩⟩
theorem lawP_i {ix : Nat} {y : MethodName} {b : ByteArray} {nl : Nat} {rt : Option FieldType} {n k nL : Nat} {As st0 : List Value} {r : Int} {R' : Prop} (C0 : CX p c cc m s args D g own) (hml : c.maxLocals = nL) (hE : EW D A H0 (wP g σ μ) H locs) (M : CtI l D g y b nl rt k (wE g σ) (wE g σ') (.ref (g.2 0) :: As) r R') (K : KWV own ix RX7 y b nl rt n)
    (hk : k + 1 ≤ R.frames ∧ 8 + (nl + 11) + 40 * k ≤ R.locals) (hn : As.length = n) (hls : ls.size = nL) (hst : st0 = As.reverse ++ .ref (g.2 0) :: rest) (hw : (rest.map fun v => v.category).sum ≤ 8) (hd : decode cc pc = .ok (.invokevirtual ix, 3)) (hc : cells ≤ R.cells ∧ slots ≤ R.slots)
    (kk : ∀ (H1 : Heap) (locs1 : List Loc), EW D A H0 (wP g σ' μ) H1 locs1 → R' → W p l e R s m args below meth c H1 locs1 cells slots Q (F0 m (pc + 3) ls (.int (I r) :: rest))) : W p l e R s m args below meth c H locs cells slots Q (F0 m pc ls st0) := by
  have hF := va_free hE.2.1 hE.2.2.1 hE.2.2.2 (List.range 30) (wP_eC g σ μ)
  exact va_calli (va_runV ⟨C0.1, C0.2.1, hml, C0.2.2.1, C0.2.2.2.1⟩ (M H.size) (kwv K C0 hk) (preL_v C0 hE (List.range 30) (wP_eC g σ μ) (wP_eC2 g σ μ) (by decide +kernel) (va_recv C0.2.2.2.2.1 hE.1 (ci := 6) (q0 := 0) rfl rfl)) rfl hn hls hst (lv_room hw) hd hc) hE.2.2.1 (fun q _ h => hF q h) hF
    (fun x u t H1 locs1 ht hvm hp hB hz hq hS => by
      obtain ⟨rfl, hR⟩ := hp
      have h1 := ew_join hE (List.range 30) ((List.range 8).map (· + 30)) (wP_eC g σ μ) (wP_eR g σ μ) (by decide +kernel) (by decide +kernel) ht hB hq hS
      exact kk H1 locs1 (ew_sub _ (wP_back g σ' μ) (wP_back2 g σ' μ) (by decide +kernel) h1) hR)
theorem lawP_l {ix : Nat} {y : MethodName} {b : ByteArray} {nl : Nat} {rt : Option FieldType} {n k nL : Nat} {As st0 : List Value} {r : Int} {R' : Prop} (C0 : CX p c cc m s args D g own) (hml : c.maxLocals = nL) (hE : EW D A H0 (wP g σ μ) H locs) (M : CtL l D g y b nl rt k (wE g σ) (wE g σ') (.ref (g.2 0) :: As) r R') (K : KWV own ix RX7 y b nl rt n)
    (hk : k + 1 ≤ R.frames ∧ 8 + (nl + 11) + 40 * k ≤ R.locals) (hn : As.length = n) (hls : ls.size = nL) (hst : st0 = As.reverse ++ .ref (g.2 0) :: rest) (hw : (rest.map fun v => v.category).sum ≤ 8) (hd : decode cc pc = .ok (.invokevirtual ix, 3)) (hc : cells ≤ R.cells ∧ slots ≤ R.slots)
    (kk : ∀ (H1 : Heap) (locs1 : List Loc), EW D A H0 (wP g σ' μ) H1 locs1 → R' → W p l e R s m args below meth c H1 locs1 cells slots Q (F0 m (pc + 3) ls (.long (J r) :: rest))) : W p l e R s m args below meth c H locs cells slots Q (F0 m pc ls st0) := by
  have hF := va_free hE.2.1 hE.2.2.1 hE.2.2.2 (List.range 30) (wP_eC g σ μ)
  exact va_calll (va_runV ⟨C0.1, C0.2.1, hml, C0.2.2.1, C0.2.2.2.1⟩ (M H.size) (kwv K C0 hk) (preL_v C0 hE (List.range 30) (wP_eC g σ μ) (wP_eC2 g σ μ) (by decide +kernel) (va_recv C0.2.2.2.2.1 hE.1 (ci := 6) (q0 := 0) rfl rfl)) rfl hn hls hst (lv_room hw) hd hc) hE.2.2.1 (fun q _ h => hF q h) hF
    (fun x u t H1 locs1 ht hvm hp hB hz hq hS => by
      obtain ⟨rfl, hR⟩ := hp
      have h1 := ew_join hE (List.range 30) ((List.range 8).map (· + 30)) (wP_eC g σ μ) (wP_eR g σ μ) (by decide +kernel) (by decide +kernel) ht hB hq hS
      exact kk H1 locs1 (ew_sub _ (wP_back g σ' μ) (wP_back2 g σ' μ) (by decide +kernel) h1) hR)
theorem lawSP_i {ix : Nat} {y : MethodName} {b : ByteArray} {nl : Nat} {rt : Option FieldType} {n k nL : Nat} {As st0 : List Value} {r : Int} {R' : Prop} (C0 : CX p c cc m s args D g own) (hml : c.maxLocals = nL) (hE : EW D A H0 (wP g σ μ) H locs) (M : CtI l D g y b nl rt k (wE g σ) (wE g σ') As r R') (K : KWS own ix y b nl rt n)
    (hk : k + 1 ≤ R.frames ∧ 8 + (nl + 11) + 40 * k ≤ R.locals) (hn : As.length = n) (hls : ls.size = nL) (hst : st0 = As.reverse ++ rest) (hw : (rest.map fun v => v.category).sum ≤ 8) (hd : decode cc pc = .ok (.invokestatic ix, 3)) (hc : cells ≤ R.cells ∧ slots ≤ R.slots)
    (kk : ∀ (H1 : Heap) (locs1 : List Loc), EW D A H0 (wP g σ' μ) H1 locs1 → R' → W p l e R s m args below meth c H1 locs1 cells slots Q (F0 m (pc + 3) ls (.int (I r) :: rest))) : W p l e R s m args below meth c H locs cells slots Q (F0 m pc ls st0) := by
  have hF := va_free hE.2.1 hE.2.2.1 hE.2.2.2 (List.range 30) (wP_eC g σ μ)
  exact va_calli (va_runS ⟨C0.1, C0.2.1, hml, C0.2.2.1, C0.2.2.2.1⟩ (M H.size) (kws K C0 hk) (pre_sub C0 hE (List.range 30) (wP_eC2 g σ μ) (wP_eC g σ μ) (by decide +kernel)) rfl hn hls hst (lv_room hw) hd hc) hE.2.2.1 (fun q _ h => hF q h) hF
    (fun x u t H1 locs1 ht hvm hp hB hz hq hS => by
      obtain ⟨rfl, hR⟩ := hp
      have h1 := ew_join hE (List.range 30) ((List.range 8).map (· + 30)) (wP_eC g σ μ) (wP_eR g σ μ) (by decide +kernel) (by decide +kernel) ht hB hq hS
      exact kk H1 locs1 (ew_sub _ (wP_back g σ' μ) (wP_back2 g σ' μ) (by decide +kernel) h1) hR)
theorem lawB_i {ix : Nat} {y : MethodName} {b : ByteArray} {nl : Nat} {rt : Option FieldType} {n k nL : Nat} {As st0 : List Value} {r : Int} {R' : Prop} (C0 : CX p c cc m s args D g own) (hml : c.maxLocals = nL) (hE : EW D A H0 (wB g σ μ) H locs) (M : CtI l D g y b nl rt k (wE g σ) (wE g σ') (.ref (g.2 0) :: As) r R') (K : KWV own ix RX7 y b nl rt n)
    (hk : k + 1 ≤ R.frames ∧ 8 + (nl + 11) + 40 * k ≤ R.locals) (hn : As.length = n) (hls : ls.size = nL) (hst : st0 = As.reverse ++ .ref (g.2 0) :: rest) (hw : (rest.map fun v => v.category).sum ≤ 8) (hd : decode cc pc = .ok (.invokevirtual ix, 3)) (hc : cells ≤ R.cells ∧ slots ≤ R.slots)
    (kk : ∀ (H1 : Heap) (locs1 : List Loc), EW D A H0 (wB g σ' μ) H1 locs1 → R' → W p l e R s m args below meth c H1 locs1 cells slots Q (F0 m (pc + 3) ls (.int (I r) :: rest))) : W p l e R s m args below meth c H locs cells slots Q (F0 m pc ls st0) := by
  have hF := va_free hE.2.1 hE.2.2.1 hE.2.2.2 (List.range 30) (wB_eC g σ μ)
  exact va_calli (va_runV ⟨C0.1, C0.2.1, hml, C0.2.2.1, C0.2.2.2.1⟩ (M H.size) (kwv K C0 hk) (preL_v C0 hE (List.range 30) (wB_eC g σ μ) (wB_eC2 g σ μ) (by decide +kernel) (va_recv C0.2.2.2.2.1 hE.1 (ci := 6) (q0 := 0) rfl rfl)) rfl hn hls hst (lv_room hw) hd hc) hE.2.2.1 (fun q _ h => hF q h) hF
    (fun x u t H1 locs1 ht hvm hp hB hz hq hS => by
      obtain ⟨rfl, hR⟩ := hp
      have h1 := ew_join hE (List.range 30) ((List.range 9).map (· + 30)) (wB_eC g σ μ) (wB_eR g σ μ) (by decide +kernel) (by decide +kernel) ht hB hq hS
      exact kk H1 locs1 (ew_sub _ (wB_back g σ' μ) (wB_back2 g σ' μ) (by decide +kernel) h1) hR)
theorem lawB_l {ix : Nat} {y : MethodName} {b : ByteArray} {nl : Nat} {rt : Option FieldType} {n k nL : Nat} {As st0 : List Value} {r : Int} {R' : Prop} (C0 : CX p c cc m s args D g own) (hml : c.maxLocals = nL) (hE : EW D A H0 (wB g σ μ) H locs) (M : CtL l D g y b nl rt k (wE g σ) (wE g σ') (.ref (g.2 0) :: As) r R') (K : KWV own ix RX7 y b nl rt n)
    (hk : k + 1 ≤ R.frames ∧ 8 + (nl + 11) + 40 * k ≤ R.locals) (hn : As.length = n) (hls : ls.size = nL) (hst : st0 = As.reverse ++ .ref (g.2 0) :: rest) (hw : (rest.map fun v => v.category).sum ≤ 8) (hd : decode cc pc = .ok (.invokevirtual ix, 3)) (hc : cells ≤ R.cells ∧ slots ≤ R.slots)
    (kk : ∀ (H1 : Heap) (locs1 : List Loc), EW D A H0 (wB g σ' μ) H1 locs1 → R' → W p l e R s m args below meth c H1 locs1 cells slots Q (F0 m (pc + 3) ls (.long (J r) :: rest))) : W p l e R s m args below meth c H locs cells slots Q (F0 m pc ls st0) := by
  have hF := va_free hE.2.1 hE.2.2.1 hE.2.2.2 (List.range 30) (wB_eC g σ μ)
  exact va_calll (va_runV ⟨C0.1, C0.2.1, hml, C0.2.2.1, C0.2.2.2.1⟩ (M H.size) (kwv K C0 hk) (preL_v C0 hE (List.range 30) (wB_eC g σ μ) (wB_eC2 g σ μ) (by decide +kernel) (va_recv C0.2.2.2.2.1 hE.1 (ci := 6) (q0 := 0) rfl rfl)) rfl hn hls hst (lv_room hw) hd hc) hE.2.2.1 (fun q _ h => hF q h) hF
    (fun x u t H1 locs1 ht hvm hp hB hz hq hS => by
      obtain ⟨rfl, hR⟩ := hp
      have h1 := ew_join hE (List.range 30) ((List.range 9).map (· + 30)) (wB_eC g σ μ) (wB_eR g σ μ) (by decide +kernel) (by decide +kernel) ht hB hq hS
      exact kk H1 locs1 (ew_sub _ (wB_back g σ' μ) (wB_back2 g σ' μ) (by decide +kernel) h1) hR)
theorem lawSB_i {ix : Nat} {y : MethodName} {b : ByteArray} {nl : Nat} {rt : Option FieldType} {n k nL : Nat} {As st0 : List Value} {r : Int} {R' : Prop} (C0 : CX p c cc m s args D g own) (hml : c.maxLocals = nL) (hE : EW D A H0 (wB g σ μ) H locs) (M : CtI l D g y b nl rt k (wE g σ) (wE g σ') As r R') (K : KWS own ix y b nl rt n)
    (hk : k + 1 ≤ R.frames ∧ 8 + (nl + 11) + 40 * k ≤ R.locals) (hn : As.length = n) (hls : ls.size = nL) (hst : st0 = As.reverse ++ rest) (hw : (rest.map fun v => v.category).sum ≤ 8) (hd : decode cc pc = .ok (.invokestatic ix, 3)) (hc : cells ≤ R.cells ∧ slots ≤ R.slots)
    (kk : ∀ (H1 : Heap) (locs1 : List Loc), EW D A H0 (wB g σ' μ) H1 locs1 → R' → W p l e R s m args below meth c H1 locs1 cells slots Q (F0 m (pc + 3) ls (.int (I r) :: rest))) : W p l e R s m args below meth c H locs cells slots Q (F0 m pc ls st0) := by
  have hF := va_free hE.2.1 hE.2.2.1 hE.2.2.2 (List.range 30) (wB_eC g σ μ)
  exact va_calli (va_runS ⟨C0.1, C0.2.1, hml, C0.2.2.1, C0.2.2.2.1⟩ (M H.size) (kws K C0 hk) (pre_sub C0 hE (List.range 30) (wB_eC2 g σ μ) (wB_eC g σ μ) (by decide +kernel)) rfl hn hls hst (lv_room hw) hd hc) hE.2.2.1 (fun q _ h => hF q h) hF
    (fun x u t H1 locs1 ht hvm hp hB hz hq hS => by
      obtain ⟨rfl, hR⟩ := hp
      have h1 := ew_join hE (List.range 30) ((List.range 9).map (· + 30)) (wB_eC g σ μ) (wB_eR g σ μ) (by decide +kernel) (by decide +kernel) ht hB hq hS
      exact kk H1 locs1 (ew_sub _ (wB_back g σ' μ) (wB_back2 g σ' μ) (by decide +kernel) h1) hR)
theorem rowP_l {r i v : Int} (C0 : CX p c cc m s args D g own) (hE : EW D A H0 (wP g σ μ) H locs) (hr : 0 ≤ r ∧ r < 6) (hi : in32 i) (e9 : v = μ (51 + r.toNat) i ∧ 0 ≤ i ∧ i < 64) (hd : decode cc pc = .ok (.iaload, 1)) (kk : W p l e R s m args below meth c H locs cells slots Q (F0 m (pc + 1) ls (.int (I v) :: rest))) : W p l e R s m args below meth c H locs cells slots Q (F0 m pc ls (.int (I i) :: .ref (g.2 (51 + r.toNat)) :: rest)) :=
  x_iald (q0 := 32 + r.toNat) (N := 64) (n := 64) (σ := μ) (F := 51 + r.toNat) C0 hE (wP_row hr g σ μ) rfl hi e9 hd kk
theorem rowB_l {r i v : Int} (C0 : CX p c cc m s args D g own) (hE : EW D A H0 (wB g σ μ) H locs) (hr : 0 ≤ r ∧ r < 6) (hi : in32 i) (e9 : v = μ (51 + r.toNat) i ∧ 0 ≤ i ∧ i < 64) (hd : decode cc pc = .ok (.iaload, 1)) (kk : W p l e R s m args below meth c H locs cells slots Q (F0 m (pc + 1) ls (.int (I v) :: rest))) : W p l e R s m args below meth c H locs cells slots Q (F0 m pc ls (.int (I i) :: .ref (g.2 (51 + r.toNat)) :: rest)) :=
  x_iald (q0 := 32 + r.toNat) (N := 64) (n := 64) (σ := μ) (F := 51 + r.toNat) C0 hE (wB_row hr g σ μ) rfl hi e9 hd kk
theorem manyP_l {i v : Int} (C0 : CX p c cc m s args D g own) (hE : EW D A H0 (wP g σ μ) H locs) (hi : in32 i) (e9 : v = μ 47 i ∧ 0 ≤ i ∧ i < 6) (hd : decode cc pc = .ok (.iaload, 1)) (kk : W p l e R s m args below meth c H locs cells slots Q (F0 m (pc + 1) ls (.int (I v) :: rest))) : W p l e R s m args below meth c H locs cells slots Q (F0 m pc ls (.int (I i) :: .ref (g.2 47) :: rest)) :=
  x_iald (q0 := 31) (N := 6) (n := 6) C0 hE rfl rfl hi e9 hd kk
theorem manyB_l {i v : Int} (C0 : CX p c cc m s args D g own) (hE : EW D A H0 (wB g σ μ) H locs) (hi : in32 i) (e9 : v = μ 47 i ∧ 0 ≤ i ∧ i < 6) (hd : decode cc pc = .ok (.iaload, 1)) (kk : W p l e R s m args below meth c H locs cells slots Q (F0 m (pc + 1) ls (.int (I v) :: rest))) : W p l e R s m args below meth c H locs cells slots Q (F0 m pc ls (.int (I i) :: .ref (g.2 47) :: rest)) :=
  x_iald (q0 := 31) (N := 6) (n := 6) C0 hE rfl rfl hi e9 hd kk
theorem bB_l {i v : Int} (C0 : CX p c cc m s args D g own) (hE : EW D A H0 (wB g σ μ) H locs) (hi : in32 i) (e9 : v = μ 48 i ∧ 0 ≤ i ∧ i < 64) (hd : decode cc pc = .ok (.iaload, 1)) (kk : W p l e R s m args below meth c H locs cells slots Q (F0 m (pc + 1) ls (.int (I v) :: rest))) : W p l e R s m args below meth c H locs cells slots Q (F0 m pc ls (.int (I i) :: .ref (g.2 48) :: rest)) :=
  x_iald (q0 := 38) (N := 64) (n := 64) C0 hE rfl rfl hi e9 hd kk
theorem wB_b (g : Ad) (σ μ : St) (i v : Int) : (wB g σ μ).set 38 (g.2 48, .inl (g.1 0, 64, .inl (fun j : Nat => I (us μ 48 i v 48 (j : Int))))) = wB g σ (us μ 48 i v) := rfl
theorem wP_n (g : Ad) (σ μ : St) (i v : Int) : (wP g σ μ).set 31 (g.2 47, .inl (g.1 0, 6, .inl (fun j : Nat => I (us μ 47 i v 47 (j : Int))))) = wP g σ (us μ 47 i v) := rfl
theorem bB_st {i v : Int} {ν : St} (C0 : CX p c cc m s args D g own) (hE : EW D A H0 (wB g σ μ) H locs) (hi : in32 i) (e9 : ν = us μ 48 i v ∧ 0 ≤ i ∧ i < 64) (hd : decode cc pc = .ok (.iastore, 1)) (kk : ∀ (H1 : Heap) (locs1 : List Loc), EW D A H0 (wB g σ ν) H1 locs1 → W p l e R s m args below meth c H1 locs1 cells slots Q (F0 m (pc + 1) ls rest)) : W p l e R s m args below meth c H locs cells slots Q (F0 m pc ls (.int (I v) :: .int (I i) :: .ref (g.2 48) :: rest)) := by
  obtain ⟨e1, e2⟩ := e9
  subst e1
  exact x_iast (q0 := 38) (N := 64) (n := 64) (F := 48) C0 hE rfl rfl hi e2 (wB_b g σ μ i v) hd kk
theorem nP_st {i v : Int} {ν : St} (C0 : CX p c cc m s args D g own) (hE : EW D A H0 (wP g σ μ) H locs) (hi : in32 i) (e9 : ν = us μ 47 i v ∧ 0 ≤ i ∧ i < 6) (hd : decode cc pc = .ok (.iastore, 1)) (kk : ∀ (H1 : Heap) (locs1 : List Loc), EW D A H0 (wP g σ ν) H1 locs1 → W p l e R s m args below meth c H1 locs1 cells slots Q (F0 m (pc + 1) ls rest)) : W p l e R s m args below meth c H locs cells slots Q (F0 m pc ls (.int (I v) :: .int (I i) :: .ref (g.2 47) :: rest)) := by
  obtain ⟨e1, e2⟩ := e9
  subst e1
  exact x_iast (q0 := 31) (N := 6) (n := 6) (F := 47) C0 hE rfl rfl hi e2 (wP_n g σ μ i v) hd kk
theorem aald_at {w : va_W} {i k : Int} (C0 : CX p c cc m s args D g own) (hK : va_K D vwCl [(g.1 2, .array .int)] s) (hE : EW D A H0 w H locs) (hw : w[30]? = some (oC g)) (ii : in32 i) (e9 : k = i ∧ 0 ≤ k ∧ k < 6) (hd : decode cc pc = .ok (.aaload, 1)) (kk : W p l e R s m args below meth c H locs cells slots Q (F0 m (pc + 1) ls (.ref (g.2 (51 + k.toNat)) :: rest))) : W p l e R s m args below meth c H locs cells slots Q (F0 m pc ls (.int (I i) :: .ref (g.2 46) :: rest)) := by
  obtain ⟨rfl, h0, h1⟩ := e9
  have hin : vp_in (I k) 6 := I_in h0 h1 ii rfl
  have hc : (I k).toNatClampNeg = k.toNat := I_clamp h0 ii
  have hlt : (I k).toNatClampNeg < 6 := Nat.not_le.mp fun q => hin (Or.inr q)
  refine W.aald (v := .ref (g.2 (51 + k.toNat))) (ty := .array .int) C0.1 C0.2.1 (hE.1 30 _ hw) ((hK.2 0 _ rfl).1 6 (fun j => va_rf (if j < 6 then some (g.2 (51 + j)) else none))) rfl (fun q => by cases q) ?_ ?_ rfl rfl hd kk
  · show ¬ (I k < 0 ∨ (arrV _ _ _).slots.size ≤ _)
    rw [arrV_size]
    exact hin
  · show (arrV _ _ _).slots[_]? = _
    rw [arrV_read _ _ hlt, hc]
    rw [hc] at hlt
    simp only [hlt, if_true]
    rfl
theorem aastB {i : Int} {b : Nat} (C0 : CX p c cc m s args D g own) (hK : va_K D vwCl [(g.1 2, .array .int)] s) (hAO : (Cond.arrayOver (.array .int)).before #[Value.ref b] s = true) (hE : EW D A H0 (wB g σ μ) H locs) (ii : in32 i) (hi : 0 ≤ i ∧ i < 6) (hd : decode cc pc = .ok (.aastore, 1))
    (kk : ∀ (g1 : Ad) (H1 : Heap) (locs1 : List Loc), g1.1 = g.1 → (∀ k, k < 51 → g1.2 k = g.2 k) → EW D A H0 (wP g1 σ (mvB μ i)) H1 locs1 → W p l e R s m args below meth c H1 locs1 cells slots Q (F0 m (pc + 1) ls rest)) : W p l e R s m args below meth c H locs cells slots Q (F0 m pc ls (.ref (g.2 48) :: .int (I i) :: .ref (g.2 46) :: rest)) := by
  have hin : vp_in (I i) 6 := I_in hi.1 hi.2 ii rfl
  have hc : (I i).toNatClampNeg = i.toNat := I_clamp hi.1 ii
  have hlt : (I i).toNatClampNeg < 6 := Nat.not_le.mp fun q => hin (Or.inr q)
  have h0 : ¬ I i < 0 := fun q => hin (Or.inl q)
  obtain ⟨comp, c9, k9, q1, q2, q3, q4, q5⟩ := Cond.arrayOver_spec hAO
  have r1 : s.vm.findClass ("[" ++ (FieldType.array FieldType.int).toString) = some (g.1 2) := (hK.2 0 _ rfl).2
  have r2 : s.vm.findClass ("[" ++ FieldType.int.toString) = some (g.1 0) := (C0.2.2.2.2.1.2 0 _ rfl).2
  have e1 : c9 = g.1 2 := Option.some.inj (q5.symm.trans r1)
  have e2 : comp = g.1 0 := Option.some.inj (q1.symm.trans r2)
  subst e1
  subst e2
  obtain ⟨kC, hkC, -⟩ := Vm.findClass_spec r2
  have hP := hE.1
  refine W.aast C0.1 C0.2.1 (hP 30 _ rfl) (fun q h => by cases h) (fun h => by cases h) q3 q4 rfl hkC ⟨h0, by show _ < (arrV _ _ _).slots.size; rw [arrV_size]; exact hlt⟩ (hP 38 _ rfl) (fun q h => by cases h) hkC (va_asg _ _) rfl rfl hd fun H1 e z oq => ?_
  have hw : (wB g σ μ)[30]? = some (oC g) := rfl
  have hP1 := hP.set hE.2.1 (e := .inl (g.1 2, 6, .inr (.inr (.inr (.inr (va_up (fun i => if i < 6 then some (g.2 (51 + i)) else none) i.toNat (some (g.2 48)))))))) hw (by
    show H1[_]? = some (vp_cell _ _)
    rw [e]
    rw [vp_cell_q]
    show some ((vp_cell _ _).setSlot _ _) = _
    rw [vp_cell_q, arrV_store, hc]
    congr 2
    funext q
    by_cases hq : q = i.toNat
    · subst hq
      simp [updV, va_up, va_rf]
    · simp [updV, va_up, hq]) oq
  have hD1 := hE.2.1.set (e := .inl (g.1 2, 6, .inr (.inr (.inr (.inr (va_up (fun i => if i < 6 then some (g.2 (51 + i)) else none) i.toNat (some (g.2 48)))))))) hw
  have hS1 := hE.2.2.1.put z oq (hE.2.1.2 30 _ hw)
  have hE1 : EW D A H0 ((wB g σ μ).set 30 (g.2 46, .inl (g.1 2, 6, .inr (.inr (.inr (.inr (va_up (fun i => if i < 6 then some (g.2 (51 + i)) else none) i.toNat (some (g.2 48)))))))) ) H1 _ := ⟨hP1, hD1, hS1, hE.2.2.2⟩
  have hf : va_up (fun i => if i < 6 then some (g.2 (51 + i)) else none) i.toNat (some (g.2 48)) = fun q => if q < 6 then some (if 51 + q = 51 + i.toNat then g.2 48 else g.2 (51 + q)) else none := by
    funext q
    rw [hc] at hlt
    unfold va_up
    by_cases hq : q = i.toNat
    · rw [if_pos hq, if_pos (by omega), if_pos (by omega)]
    · rw [if_neg hq]
      by_cases h6 : q < 6
      · rw [if_pos h6, if_pos h6, if_neg (by omega)]
      · rw [if_neg h6, if_neg h6]
  rw [hf] at hE1
  refine kk (g.1, fun k => if k = 51 + i.toNat then g.2 48 else g.2 k) H1 _ rfl (fun k hk => if_neg (by omega)) ?_
  rcases six hi with rfl | rfl | rfl | rfl | rfl | rfl
  · exact ew_sub (List.range 32 ++ [38, 33, 34, 35, 36, 37]) rfl rfl (by decide +kernel) hE1
  · exact ew_sub (List.range 32 ++ [32, 38, 34, 35, 36, 37]) rfl rfl (by decide +kernel) hE1
  · exact ew_sub (List.range 32 ++ [32, 33, 38, 35, 36, 37]) rfl rfl (by decide +kernel) hE1
  · exact ew_sub (List.range 32 ++ [32, 33, 34, 38, 36, 37]) rfl rfl (by decide +kernel) hE1
  · exact ew_sub (List.range 32 ++ [32, 33, 34, 35, 38, 37]) rfl rfl (by decide +kernel) hE1
  · exact ew_sub (List.range 32 ++ [32, 33, 34, 35, 36, 38]) rfl rfl (by decide +kernel) hE1
theorem dropB (hE : EW D A H0 (wB g σ μ) H locs) : EW D A H0 (wP g σ μ) H locs := ew_sub (List.range 38) rfl rfl (by decide +kernel) hE
theorem newB {q : Nat} (hE : EW D A H0 (wP g σ μ ++ [(q, .inl (g.1 0, (64, .inl (fun _ => 0))))]) H locs) : EW D A H0 (wB (g.1, fun k => if k = 48 then q else g.2 k) σ (nwB μ)) H locs := ew_sub (List.range 39) rfl rfl (by decide +kernel) hE
end LW
