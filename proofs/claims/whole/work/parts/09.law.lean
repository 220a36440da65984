-- THE LAW: its world, its calls
def wL (g : Ad) (σ τ : St) (v : Int) : va_W := wE g σ ++ (wM g τ ++ wO g v)
def aL (s : State) : Nat → Prop := fun q => s.heap.size ≤ q
def LC (p : Program) (s : State) (m : MethodId) (meth : Method) (c : Code) (b L : Nat) (xs : Nat → Int32) (D : va_G) (g : Ad) : Prop :=
  CX p c cL_law m s #[Value.ref b] D g RL ∧ c.maxLocals = 8 ∧ va_X b L xs s s.heap ∧ b < s.heap.size ∧ meth.locks = false ∧ meth.sig.returnType = ret ∧ XR (aL s) s s.heap ∧ L ≤ 3072
def lvL (g : Ad) (b : Nat) (i : Int) : List (Nat × Value) := [(0, .ref b), (1, .ref (g.2 0)), (2, .ref (g.2 100)), (3, .ref (g.2 200)), (4, .int (I i))]
theorem wL_eC (g : Ad) (σ τ : St) (v : Int) : (List.range 30).map (fun i => (wL g σ τ v)[i]?) = (wE g σ).map some := rfl
theorem wL_eC2 (g : Ad) (σ τ : St) (v : Int) : (List.range 30).filterMap (fun i => (wL g σ τ v)[i]?) = wE g σ := rfl
theorem wL_eR (g : Ad) (σ τ : St) (v : Int) : ((List.range 16).map (· + 30)).map (fun i => (wL g σ τ v)[i]?) = (wM g τ ++ wO g v).map some := rfl
theorem wL_mC (g : Ad) (σ τ : St) (v : Int) : ((List.range 15).map (· + 30)).map (fun i => (wL g σ τ v)[i]?) = (wM g τ).map some := rfl
theorem wL_mC2 (g : Ad) (σ τ : St) (v : Int) : ((List.range 15).map (· + 30)).filterMap (fun i => (wL g σ τ v)[i]?) = wM g τ := rfl
theorem wL_mR (g : Ad) (σ τ : St) (v : Int) : (List.range 30 ++ [45]).map (fun i => (wL g σ τ v)[i]?) = (wE g σ ++ wO g v).map some := rfl
theorem wL_oC (g : Ad) (σ τ : St) (v : Int) : (List.range 30 ++ [45]).filterMap (fun i => (wL g σ τ v)[i]?) = wEO g σ v := rfl
theorem wL_backE (g : Ad) (σ τ : St) (v : Int) : ((List.range 30).map (· + 16) ++ List.range 16).filterMap (fun i => ((wM g τ ++ wO g v) ++ wE g σ)[i]?) = wL g σ τ v := rfl
theorem wL_backE2 (g : Ad) (σ τ : St) (v : Int) : ((List.range 30).map (· + 16) ++ List.range 16).map (fun i => ((wM g τ ++ wO g v) ++ wE g σ)[i]?) = (wL g σ τ v).map some := rfl
theorem wL_backM (g : Ad) (σ τ : St) (v : Int) : (List.range 30 ++ ((List.range 15).map (· + 31) ++ [30])).filterMap (fun i => ((wE g σ ++ wO g v) ++ wM g τ)[i]?) = wL g σ τ v := rfl
theorem wL_backM2 (g : Ad) (σ τ : St) (v : Int) : (List.range 30 ++ ((List.range 15).map (· + 31) ++ [30])).map (fun i => ((wE g σ ++ wO g v) ++ wM g τ)[i]?) = (wL g σ τ v).map some := rfl
theorem wL_backO (g : Ad) (σ τ : St) (v : Int) : ((List.range 30).map (· + 15) ++ (List.range 15 ++ [45])).filterMap (fun i => (wM g τ ++ wEO g σ v)[i]?) = wL g σ τ v := rfl
theorem wL_backO2 (g : Ad) (σ τ : St) (v : Int) : ((List.range 30).map (· + 15) ++ (List.range 15 ++ [45])).map (fun i => (wM g τ ++ wEO g σ v)[i]?) = (wL g σ τ v).map some := rfl
section LW
variable {p : Program} {l : Launch} {e : Env} {R : Room} {s : State} {m : MethodId} {args : Array Value} {below : List Frame} {meth : Method} {c : Code} {H : Heap} {locs : List Loc} {cells slots : Nat} {Q : State → Prop}
variable {cc : ByteArray} {pc : Nat} {ls : Array Slot} {rest : List Value} {D : va_G} {g : Ad} {own : String} {A : Nat → Prop} {H0 : Heap} {σ τ σ' τ' : St} {v : Int}
theorem preL_v {w wc : va_W} {C : String} {b : Nat} {As : List Value} (C0 : CX p c cc m s args D g own) (hE : EW D A H0 w H locs) (isC : List Nat) (h1 : isC.map (fun i => w[i]?) = wc.map some) (h2 : isC.filterMap (fun i => w[i]?) = wc) (hn : va_nd isC = true) (hrec : RC s H C b) : PreV s H C b (PC D g wc (.ref b :: As) H.size) As :=
  ⟨pc_blind, hrec, fun U hU hW => ⟨rfl, by rw [hU], by rw [hU]; exact hE.1.sub isC h2, C0.2.2.2.2.warm hW, (hE.2.1.sub isC hn h1).weaken (fun _ _ _ _ => trivial)⟩⟩
theorem lawE_i {ix : Nat} {y : MethodName} {b : ByteArray} {nl : Nat} {rt : Option FieldType} {n k nL : Nat} {As st0 : List Value} {r : Int} {R' : Prop} (C0 : CX p c cc m s args D g own) (hml : c.maxLocals = nL) (hE : EW D A H0 (wL g σ τ v) H locs) (M : CtI l D g y b nl rt k (wE g σ) (wE g σ') (.ref (g.2 0) :: As) r R') (K : KWV own ix RX7 y b nl rt n)
    (hk : k + 1 ≤ R.frames ∧ 8 + (nl + 11) + 40 * k ≤ R.locals) (hn : As.length = n) (hls : ls.size = nL) (hst : st0 = As.reverse ++ .ref (g.2 0) :: rest) (hw : (rest.map fun v => v.category).sum ≤ 8) (hd : decode cc pc = .ok (.invokevirtual ix, 3)) (hc : cells ≤ R.cells ∧ slots ≤ R.slots)
    (kk : ∀ (H1 : Heap) (locs1 : List Loc), EW D A H0 (wL g σ' τ v) H1 locs1 → R' → W p l e R s m args below meth c H1 locs1 cells slots Q (F0 m (pc + 3) ls (.int (I r) :: rest))) : W p l e R s m args below meth c H locs cells slots Q (F0 m pc ls st0) := by
  have hF := va_free hE.2.1 hE.2.2.1 hE.2.2.2 (List.range 30) (wL_eC g σ τ v)
  exact va_calli (va_runV ⟨C0.1, C0.2.1, hml, C0.2.2.1, C0.2.2.2.1⟩ (M H.size) (kwv K C0 hk) (preL_v C0 hE (List.range 30) (wL_eC g σ τ v) (wL_eC2 g σ τ v) (by decide +kernel) (va_recv C0.2.2.2.2.1 hE.1 (ci := 6) (q0 := 0) rfl rfl)) rfl hn hls hst (lv_room hw) hd hc) hE.2.2.1 (fun q _ h => hF q h) hF
    (fun x u t H1 locs1 ht hvm hp hB hz hq hS => by
      obtain ⟨rfl, hR⟩ := hp
      have h1 := ew_join hE (List.range 30) ((List.range 16).map (· + 30)) (wL_eC g σ τ v) (wL_eR g σ τ v) (by decide +kernel) (by decide +kernel) ht hB hq hS
      exact kk H1 locs1 (ew_sub _ (wL_backE g σ' τ v) (wL_backE2 g σ' τ v) (by decide +kernel) h1) hR)
theorem lawM_i {ix : Nat} {y : MethodName} {b : ByteArray} {nl : Nat} {rt : Option FieldType} {n k nL : Nat} {As st0 : List Value} {r : Int} {R' : Prop} (C0 : CX p c cc m s args D g own) (hml : c.maxLocals = nL) (hE : EW D A H0 (wL g σ τ v) H locs) (M : CtI l D g y b nl rt k (wM g τ) (wM g τ') (.ref (g.2 100) :: As) r R') (K : KWV own ix RX8 y b nl rt n)
    (hk : k + 1 ≤ R.frames ∧ 8 + (nl + 11) + 40 * k ≤ R.locals) (hn : As.length = n) (hls : ls.size = nL) (hst : st0 = As.reverse ++ .ref (g.2 100) :: rest) (hw : (rest.map fun v => v.category).sum ≤ 8) (hd : decode cc pc = .ok (.invokevirtual ix, 3)) (hc : cells ≤ R.cells ∧ slots ≤ R.slots)
    (kk : ∀ (H1 : Heap) (locs1 : List Loc), EW D A H0 (wL g σ τ' v) H1 locs1 → R' → W p l e R s m args below meth c H1 locs1 cells slots Q (F0 m (pc + 3) ls (.int (I r) :: rest))) : W p l e R s m args below meth c H locs cells slots Q (F0 m pc ls st0) := by
  have hF := va_free hE.2.1 hE.2.2.1 hE.2.2.2 ((List.range 15).map (· + 30)) (wL_mC g σ τ v)
  exact va_calli (va_runV ⟨C0.1, C0.2.1, hml, C0.2.2.1, C0.2.2.2.1⟩ (M H.size) (kwv K C0 hk) (preL_v C0 hE ((List.range 15).map (· + 30)) (wL_mC g σ τ v) (wL_mC2 g σ τ v) (by decide +kernel) (va_recv C0.2.2.2.2.1 hE.1 (ci := 7) (q0 := 30) rfl rfl)) rfl hn hls hst (lv_room hw) hd hc) hE.2.2.1 (fun q _ h => hF q h) hF
    (fun x u t H1 locs1 ht hvm hp hB hz hq hS => by
      obtain ⟨rfl, hR⟩ := hp
      have h1 := ew_join hE ((List.range 15).map (· + 30)) (List.range 30 ++ [45]) (wL_mC g σ τ v) (wL_mR g σ τ v) (by decide +kernel) (by decide +kernel) ht hB hq hS
      exact kk H1 locs1 (ew_sub _ (wL_backM g σ τ' v) (wL_backM2 g σ τ' v) (by decide +kernel) h1) hR)
theorem lawM_l {ix : Nat} {y : MethodName} {b : ByteArray} {nl : Nat} {rt : Option FieldType} {n k nL : Nat} {As st0 : List Value} {r : Int} {R' : Prop} (C0 : CX p c cc m s args D g own) (hml : c.maxLocals = nL) (hE : EW D A H0 (wL g σ τ v) H locs) (M : CtL l D g y b nl rt k (wM g τ) (wM g τ') (.ref (g.2 100) :: As) r R') (K : KWV own ix RX8 y b nl rt n)
    (hk : k + 1 ≤ R.frames ∧ 8 + (nl + 11) + 40 * k ≤ R.locals) (hn : As.length = n) (hls : ls.size = nL) (hst : st0 = As.reverse ++ .ref (g.2 100) :: rest) (hw : (rest.map fun v => v.category).sum ≤ 8) (hd : decode cc pc = .ok (.invokevirtual ix, 3)) (hc : cells ≤ R.cells ∧ slots ≤ R.slots)
    (kk : ∀ (H1 : Heap) (locs1 : List Loc), EW D A H0 (wL g σ τ' v) H1 locs1 → R' → W p l e R s m args below meth c H1 locs1 cells slots Q (F0 m (pc + 3) ls (.long (J r) :: rest))) : W p l e R s m args below meth c H locs cells slots Q (F0 m pc ls st0) := by
  have hF := va_free hE.2.1 hE.2.2.1 hE.2.2.2 ((List.range 15).map (· + 30)) (wL_mC g σ τ v)
  exact va_calll (va_runV ⟨C0.1, C0.2.1, hml, C0.2.2.1, C0.2.2.2.1⟩ (M H.size) (kwv K C0 hk) (preL_v C0 hE ((List.range 15).map (· + 30)) (wL_mC g σ τ v) (wL_mC2 g σ τ v) (by decide +kernel) (va_recv C0.2.2.2.2.1 hE.1 (ci := 7) (q0 := 30) rfl rfl)) rfl hn hls hst (lv_room hw) hd hc) hE.2.2.1 (fun q _ h => hF q h) hF
    (fun x u t H1 locs1 ht hvm hp hB hz hq hS => by
      obtain ⟨rfl, hR⟩ := hp
      have h1 := ew_join hE ((List.range 15).map (· + 30)) (List.range 30 ++ [45]) (wL_mC g σ τ v) (wL_mR g σ τ v) (by decide +kernel) (by decide +kernel) ht hB hq hS
      exact kk H1 locs1 (ew_sub _ (wL_backM g σ τ' v) (wL_backM2 g σ τ' v) (by decide +kernel) h1) hR)
theorem x_sld {b L : Nat} {xs : Nat → Int32} {i a : Int} (hC : LC p s m meth c b L xs D g) (hE : EW D (aL s) s.heap (wL g σ τ v) H locs) (h0 : 0 ≤ i) (h1 : i < L) (ea : a = (xs i.toNat).toInt) (hd : decode cL_law pc = .ok (.iaload, 1)) (kk : W p l e R s m #[Value.ref b] below meth c H locs cells slots Q (F0 m (pc + 1) ls (.int (I a) :: rest))) : W p l e R s m #[Value.ref b] below meth c H locs cells slots Q (F0 m pc ls (.int (I i) :: .ref b :: rest)) := by
  obtain ⟨C0, hml, hX, hbl, hlk, hr, hXR, hL⟩ := hC
  have hi : in32 i := by omega
  refine va_sld C0.1 C0.2.1 hX hbl (Nat.not_le.mpr hbl) hE.2.2.1 (I_in h0 h1 hi rfl) hd ?_
  rw [I_clamp h0 hi, show xs i.toNat = I a by rw [ea]; exact (Int32.ofInt_toInt _).symm]
  exact kk
theorem x_slen {b L : Nat} {xs : Nat → Int32} (hC : LC p s m meth c b L xs D g) (hE : EW D (aL s) s.heap (wL g σ τ v) H locs) (hd : decode cL_law pc = .ok (.arraylength, 1)) (kk : W p l e R s m #[Value.ref b] below meth c H locs cells slots Q (F0 m (pc + 1) ls (.int (I L) :: rest))) : W p l e R s m #[Value.ref b] below meth c H locs cells slots Q (F0 m pc ls (.ref b :: rest)) := by
  obtain ⟨C0, hml, hX, hbl, hlk, hr, hXR, hL⟩ := hC
  exact va_slen C0.1 C0.2.1 hX hbl (Nat.not_le.mpr hbl) hE.2.2.1 hd kk
theorem rc_E (C0 : CX p c cc m s args D g own) (hE : EW D A H0 (wL g σ τ v) H locs) : RC s H RX7 (g.2 0) := va_recv C0.2.2.2.2.1 hE.1 (ci := 6) (q0 := 0) rfl rfl
end LW

def HS_0 (S : Nat → St → St → Prop) : Prop := ∀ (k : Nat) (σ τ : St) (z0 : Int), k < 512 → R32 σ → R32 τ → S k σ τ → in32 z0 → ∃ (r : Int) (σ1 τ1 : St), E_sign σ z0 = some (r, σ1) ∧ M_sign τ z0 = some (r, τ1) ∧ S (k + 1) σ1 τ1
set_option maxRecDepth 100000 in
set_option maxHeartbeats 4000000 in
theorem law_c0 {p : Program} {l : Launch} {e : Env} {s : State} {m : MethodId} {below : List Frame} {meth : Method} {c : Code} {Q : State → Prop} {D : va_G} {g : Ad} {b L : Nat} {xs : Nat → Int32} {S : Nat → St → St → Prop} (HN : HS_0 S) (hC : LC p s m meth c b L xs D g) {k : Nat} {σ τ : St} {v i : Int} (hk : k < 512) (hR : R32 σ) (hR9 : R32 τ) (hS : S k σ τ) (h0 : 0 ≤ i) (hiL : i + 6 ≤ L) {H : Heap} {locs : List Loc} {cells slots : Nat} {ls : Array Slot} (hc : cells ≤ room_1.cells ∧ slots ≤ room_1.slots) (hE : EW D (aL s) s.heap (wL g σ τ v) H locs) (hl : lv_has ls 8 (lvL g b i))
    (next : ∀ (σ1 τ1 : St) (H : Heap) (locs : List Loc) (ls : Array Slot), R32 σ1 → R32 τ1 → S (k + 1) σ1 τ1 → EW D (aL s) s.heap (wL g σ1 τ1 v) H locs → lv_has ls 8 (lvL g b i) → W p l e room_1 s m #[Value.ref b] below meth c H locs cells slots Q (F0 m 2401 ls [])) : W p l e room_1 s m #[Value.ref b] below meth c H locs cells slots Q (F0 m 260 ls []) := by
  have C0 := hC.1
  obtain ⟨a1, e_a1, i_a1⟩ : ∃ a, a = (xs (i + 1).toNat).toInt ∧ in32 a := ⟨_, rfl, in32_toInt _⟩
  obtain ⟨r, σ1, τ1, h_E, h_M, h_S⟩ := HN k σ τ a1 hk hR hR9 hS i_a1
  refine lv_aload_n C0.1 C0.2.1 dL_law_260 rfl (lv_at hl 1 rfl) ?_
  refine lv_aload_n C0.1 C0.2.1 dL_law_261 rfl (lv_at hl 0 rfl) ?_
  refine lv_iload C0.1 C0.2.1 dL_law_262 (lv_at hl 4 rfl) ?_
  refine lv_iconst (v := I 1) C0.1 C0.2.1 dL_law_264 rfl ?_
  refine x_add (v := i + 1) C0 rfl dL_law_265 ?_
  refine x_sld hC hE (by omega) (by omega) e_a1 dL_law_266 ?_
  refine lawE_i (rest := []) (σ' := σ1) C0 hC.2.1 hE (c_E_sign l D g hR i_a1 h_E) kw_L_19 ⟨Nat.le_of_ble_eq_true rfl, Nat.le_of_ble_eq_true rfl⟩ rfl hl.1 rfl (Nat.le_of_ble_eq_true rfl) dL_law_267 hc (fun H locs hE ⟨i_r, hR⟩ => ?_)
  refine lv_aload_n C0.1 C0.2.1 dL_law_270 rfl (lv_at hl 2 rfl) ?_
  refine lv_aload_n C0.1 C0.2.1 dL_law_271 rfl (lv_at hl 0 rfl) ?_
  refine lv_iload C0.1 C0.2.1 dL_law_272 (lv_at hl 4 rfl) ?_
  refine lv_iconst (v := I 1) C0.1 C0.2.1 dL_law_274 rfl ?_
  refine x_add (v := i + 1) C0 rfl dL_law_275 ?_
  refine x_sld hC hE (by omega) (by omega) e_a1 dL_law_276 ?_
  refine lawM_i (rest := [.int (I r)]) (τ' := τ1) C0 hC.2.1 hE (c_M_sign l D g hR9 i_a1 h_M) kw_L_23 ⟨Nat.le_of_ble_eq_true rfl, Nat.le_of_ble_eq_true rfl⟩ rfl hl.1 rfl (Nat.le_of_ble_eq_true rfl) dL_law_277 hc (fun H locs hE ⟨i_r9, hR9⟩ => ?_)
  refine x_icmp_eq C0 i_r i_r9 dL_law_280 (tgt := 2401) (by decide) (fun _ => ?_) (fun c9 => absurd rfl c9)
  exact next σ1 τ1 H locs ls hR hR9 h_S hE hl
def HS_1 (S : Nat → St → St → Prop) : Prop := ∀ (k : Nat) (σ τ : St) (z0 : Int), k < 512 → R32 σ → R32 τ → S k σ τ → in32 z0 → ∃ (r : Int) (σ1 τ1 : St), E_end σ z0 = some (r, σ1) ∧ M_end τ z0 = some (r, τ1) ∧ S (k + 1) σ1 τ1
set_option maxRecDepth 100000 in
set_option maxHeartbeats 4000000 in
theorem law_c1 {p : Program} {l : Launch} {e : Env} {s : State} {m : MethodId} {below : List Frame} {meth : Method} {c : Code} {Q : State → Prop} {D : va_G} {g : Ad} {b L : Nat} {xs : Nat → Int32} {S : Nat → St → St → Prop} (HN : HS_1 S) (hC : LC p s m meth c b L xs D g) {k : Nat} {σ τ : St} {v i : Int} (hk : k < 512) (hR : R32 σ) (hR9 : R32 τ) (hS : S k σ τ) (h0 : 0 ≤ i) (hiL : i + 6 ≤ L) {H : Heap} {locs : List Loc} {cells slots : Nat} {ls : Array Slot} (hc : cells ≤ room_1.cells ∧ slots ≤ room_1.slots) (hE : EW D (aL s) s.heap (wL g σ τ v) H locs) (hl : lv_has ls 8 (lvL g b i))
    (next : ∀ (σ1 τ1 : St) (H : Heap) (locs : List Loc) (ls : Array Slot), R32 σ1 → R32 τ1 → S (k + 1) σ1 τ1 → EW D (aL s) s.heap (wL g σ1 τ1 v) H locs → lv_has ls 8 (lvL g b i) → W p l e room_1 s m #[Value.ref b] below meth c H locs cells slots Q (F0 m 2401 ls [])) : W p l e room_1 s m #[Value.ref b] below meth c H locs cells slots Q (F0 m 285 ls []) := by
  have C0 := hC.1
  obtain ⟨a1, e_a1, i_a1⟩ : ∃ a, a = (xs (i + 1).toNat).toInt ∧ in32 a := ⟨_, rfl, in32_toInt _⟩
  obtain ⟨r, σ1, τ1, h_E, h_M, h_S⟩ := HN k σ τ a1 hk hR hR9 hS i_a1
  refine lv_aload_n C0.1 C0.2.1 dL_law_285 rfl (lv_at hl 1 rfl) ?_
  refine lv_aload_n C0.1 C0.2.1 dL_law_286 rfl (lv_at hl 0 rfl) ?_
  refine lv_iload C0.1 C0.2.1 dL_law_287 (lv_at hl 4 rfl) ?_
  refine lv_iconst (v := I 1) C0.1 C0.2.1 dL_law_289 rfl ?_
  refine x_add (v := i + 1) C0 rfl dL_law_290 ?_
  refine x_sld hC hE (by omega) (by omega) e_a1 dL_law_291 ?_
  refine lawE_i (rest := []) (σ' := σ1) C0 hC.2.1 hE (c_E_end l D g hR i_a1 h_E) kw_L_24 ⟨Nat.le_of_ble_eq_true rfl, Nat.le_of_ble_eq_true rfl⟩ rfl hl.1 rfl (Nat.le_of_ble_eq_true rfl) dL_law_292 hc (fun H locs hE ⟨i_r, hR⟩ => ?_)
  refine lv_aload_n C0.1 C0.2.1 dL_law_295 rfl (lv_at hl 2 rfl) ?_
  refine lv_aload_n C0.1 C0.2.1 dL_law_296 rfl (lv_at hl 0 rfl) ?_
  refine lv_iload C0.1 C0.2.1 dL_law_297 (lv_at hl 4 rfl) ?_
  refine lv_iconst (v := I 1) C0.1 C0.2.1 dL_law_299 rfl ?_
  refine x_add (v := i + 1) C0 rfl dL_law_300 ?_
  refine x_sld hC hE (by omega) (by omega) e_a1 dL_law_301 ?_
  refine lawM_i (rest := [.int (I r)]) (τ' := τ1) C0 hC.2.1 hE (c_M_end l D g hR9 i_a1 h_M) kw_L_28 ⟨Nat.le_of_ble_eq_true rfl, Nat.le_of_ble_eq_true rfl⟩ rfl hl.1 rfl (Nat.le_of_ble_eq_true rfl) dL_law_302 hc (fun H locs hE ⟨i_r9, hR9⟩ => ?_)
  refine x_icmp_eq C0 i_r i_r9 dL_law_305 (tgt := 2401) (by decide) (fun _ => ?_) (fun c9 => absurd rfl c9)
  exact next σ1 τ1 H locs ls hR hR9 h_S hE hl
def HS_2 (S : Nat → St → St → Prop) : Prop := ∀ (k : Nat) (σ τ : St) (z0 : Int), k < 512 → R32 σ → R32 τ → S k σ τ → in32 z0 → ∃ (r : Int) (σ1 τ1 : St), E_tells σ z0 = some (r, σ1) ∧ M_tells τ z0 = some (r, τ1) ∧ S (k + 1) σ1 τ1
set_option maxRecDepth 100000 in
set_option maxHeartbeats 4000000 in
theorem law_c2 {p : Program} {l : Launch} {e : Env} {s : State} {m : MethodId} {below : List Frame} {meth : Method} {c : Code} {Q : State → Prop} {D : va_G} {g : Ad} {b L : Nat} {xs : Nat → Int32} {S : Nat → St → St → Prop} (HN : HS_2 S) (hC : LC p s m meth c b L xs D g) {k : Nat} {σ τ : St} {v i : Int} (hk : k < 512) (hR : R32 σ) (hR9 : R32 τ) (hS : S k σ τ) (h0 : 0 ≤ i) (hiL : i + 6 ≤ L) {H : Heap} {locs : List Loc} {cells slots : Nat} {ls : Array Slot} (hc : cells ≤ room_1.cells ∧ slots ≤ room_1.slots) (hE : EW D (aL s) s.heap (wL g σ τ v) H locs) (hl : lv_has ls 8 (lvL g b i))
    (next : ∀ (σ1 τ1 : St) (H : Heap) (locs : List Loc) (ls : Array Slot), R32 σ1 → R32 τ1 → S (k + 1) σ1 τ1 → EW D (aL s) s.heap (wL g σ1 τ1 v) H locs → lv_has ls 8 (lvL g b i) → W p l e room_1 s m #[Value.ref b] below meth c H locs cells slots Q (F0 m 2401 ls [])) : W p l e room_1 s m #[Value.ref b] below meth c H locs cells slots Q (F0 m 310 ls []) := by
  have C0 := hC.1
  obtain ⟨a1, e_a1, i_a1⟩ : ∃ a, a = (xs (i + 1).toNat).toInt ∧ in32 a := ⟨_, rfl, in32_toInt _⟩
  obtain ⟨r, σ1, τ1, h_E, h_M, h_S⟩ := HN k σ τ a1 hk hR hR9 hS i_a1
  refine lv_aload_n C0.1 C0.2.1 dL_law_310 rfl (lv_at hl 1 rfl) ?_
  refine lv_aload_n C0.1 C0.2.1 dL_law_311 rfl (lv_at hl 0 rfl) ?_
  refine lv_iload C0.1 C0.2.1 dL_law_312 (lv_at hl 4 rfl) ?_
  refine lv_iconst (v := I 1) C0.1 C0.2.1 dL_law_314 rfl ?_
  refine x_add (v := i + 1) C0 rfl dL_law_315 ?_
  refine x_sld hC hE (by omega) (by omega) e_a1 dL_law_316 ?_
  refine lawE_i (rest := []) (σ' := σ1) C0 hC.2.1 hE (c_E_tells l D g hR i_a1 h_E) kw_L_29 ⟨Nat.le_of_ble_eq_true rfl, Nat.le_of_ble_eq_true rfl⟩ rfl hl.1 rfl (Nat.le_of_ble_eq_true rfl) dL_law_317 hc (fun H locs hE ⟨i_r, hR⟩ => ?_)
  refine lv_aload_n C0.1 C0.2.1 dL_law_320 rfl (lv_at hl 2 rfl) ?_
  refine lv_aload_n C0.1 C0.2.1 dL_law_321 rfl (lv_at hl 0 rfl) ?_
  refine lv_iload C0.1 C0.2.1 dL_law_322 (lv_at hl 4 rfl) ?_
  refine lv_iconst (v := I 1) C0.1 C0.2.1 dL_law_324 rfl ?_
  refine x_add (v := i + 1) C0 rfl dL_law_325 ?_
  refine x_sld hC hE (by omega) (by omega) e_a1 dL_law_326 ?_
  refine lawM_i (rest := [.int (I r)]) (τ' := τ1) C0 hC.2.1 hE (c_M_tells l D g hR9 i_a1 h_M) kw_L_32 ⟨Nat.le_of_ble_eq_true rfl, Nat.le_of_ble_eq_true rfl⟩ rfl hl.1 rfl (Nat.le_of_ble_eq_true rfl) dL_law_327 hc (fun H locs hE ⟨i_r9, hR9⟩ => ?_)
  refine x_icmp_eq C0 i_r i_r9 dL_law_330 (tgt := 2401) (by decide) (fun _ => ?_) (fun c9 => absurd rfl c9)
  exact next σ1 τ1 H locs ls hR hR9 h_S hE hl
def HS_3 (S : Nat → St → St → Prop) : Prop := ∀ (k : Nat) (σ τ : St) (z0 : Int), k < 512 → R32 σ → R32 τ → S k σ τ → in32 z0 → ∃ (r : Int) (σ1 τ1 : St), E_grows σ z0 = some (r, σ1) ∧ M_grows τ z0 = some (r, τ1) ∧ S (k + 1) σ1 τ1
set_option maxRecDepth 100000 in
set_option maxHeartbeats 4000000 in
theorem law_c3 {p : Program} {l : Launch} {e : Env} {s : State} {m : MethodId} {below : List Frame} {meth : Method} {c : Code} {Q : State → Prop} {D : va_G} {g : Ad} {b L : Nat} {xs : Nat → Int32} {S : Nat → St → St → Prop} (HN : HS_3 S) (hC : LC p s m meth c b L xs D g) {k : Nat} {σ τ : St} {v i : Int} (hk : k < 512) (hR : R32 σ) (hR9 : R32 τ) (hS : S k σ τ) (h0 : 0 ≤ i) (hiL : i + 6 ≤ L) {H : Heap} {locs : List Loc} {cells slots : Nat} {ls : Array Slot} (hc : cells ≤ room_1.cells ∧ slots ≤ room_1.slots) (hE : EW D (aL s) s.heap (wL g σ τ v) H locs) (hl : lv_has ls 8 (lvL g b i))
    (next : ∀ (σ1 τ1 : St) (H : Heap) (locs : List Loc) (ls : Array Slot), R32 σ1 → R32 τ1 → S (k + 1) σ1 τ1 → EW D (aL s) s.heap (wL g σ1 τ1 v) H locs → lv_has ls 8 (lvL g b i) → W p l e room_1 s m #[Value.ref b] below meth c H locs cells slots Q (F0 m 2401 ls [])) : W p l e room_1 s m #[Value.ref b] below meth c H locs cells slots Q (F0 m 335 ls []) := by
  have C0 := hC.1
  obtain ⟨a1, e_a1, i_a1⟩ : ∃ a, a = (xs (i + 1).toNat).toInt ∧ in32 a := ⟨_, rfl, in32_toInt _⟩
  obtain ⟨r, σ1, τ1, h_E, h_M, h_S⟩ := HN k σ τ a1 hk hR hR9 hS i_a1
  refine lv_aload_n C0.1 C0.2.1 dL_law_335 rfl (lv_at hl 1 rfl) ?_
  refine lv_aload_n C0.1 C0.2.1 dL_law_336 rfl (lv_at hl 0 rfl) ?_
  refine lv_iload C0.1 C0.2.1 dL_law_337 (lv_at hl 4 rfl) ?_
  refine lv_iconst (v := I 1) C0.1 C0.2.1 dL_law_339 rfl ?_
  refine x_add (v := i + 1) C0 rfl dL_law_340 ?_
  refine x_sld hC hE (by omega) (by omega) e_a1 dL_law_341 ?_
  refine lawE_i (rest := []) (σ' := σ1) C0 hC.2.1 hE (c_E_grows l D g hR i_a1 h_E) kw_L_33 ⟨Nat.le_of_ble_eq_true rfl, Nat.le_of_ble_eq_true rfl⟩ rfl hl.1 rfl (Nat.le_of_ble_eq_true rfl) dL_law_342 hc (fun H locs hE ⟨i_r, hR⟩ => ?_)
  refine lv_aload_n C0.1 C0.2.1 dL_law_345 rfl (lv_at hl 2 rfl) ?_
  refine lv_aload_n C0.1 C0.2.1 dL_law_346 rfl (lv_at hl 0 rfl) ?_
  refine lv_iload C0.1 C0.2.1 dL_law_347 (lv_at hl 4 rfl) ?_
  refine lv_iconst (v := I 1) C0.1 C0.2.1 dL_law_349 rfl ?_
  refine x_add (v := i + 1) C0 rfl dL_law_350 ?_
  refine x_sld hC hE (by omega) (by omega) e_a1 dL_law_351 ?_
  refine lawM_i (rest := [.int (I r)]) (τ' := τ1) C0 hC.2.1 hE (c_M_grows l D g hR9 i_a1 h_M) kw_L_36 ⟨Nat.le_of_ble_eq_true rfl, Nat.le_of_ble_eq_true rfl⟩ rfl hl.1 rfl (Nat.le_of_ble_eq_true rfl) dL_law_352 hc (fun H locs hE ⟨i_r9, hR9⟩ => ?_)
  refine x_icmp_eq C0 i_r i_r9 dL_law_355 (tgt := 2401) (by decide) (fun _ => ?_) (fun c9 => absurd rfl c9)
  exact next σ1 τ1 H locs ls hR hR9 h_S hE hl
def HS_4 (S : Nat → St → St → Prop) : Prop := ∀ (k : Nat) (σ τ : St) (z0 : Int) (z1 : Int) (z2 : Int), k < 512 → R32 σ → R32 τ → S k σ τ → in32 z0 → in32 z1 → in32 z2 → ∃ (r : Int) (σ1 τ1 : St), E_fills σ z0 z1 z2 = some (r, σ1) ∧ M_fills τ z0 z1 z2 = some (r, τ1) ∧ S (k + 1) σ1 τ1
set_option maxRecDepth 100000 in
set_option maxHeartbeats 4000000 in
theorem law_c4 {p : Program} {l : Launch} {e : Env} {s : State} {m : MethodId} {below : List Frame} {meth : Method} {c : Code} {Q : State → Prop} {D : va_G} {g : Ad} {b L : Nat} {xs : Nat → Int32} {S : Nat → St → St → Prop} (HN : HS_4 S) (hC : LC p s m meth c b L xs D g) {k : Nat} {σ τ : St} {v i : Int} (hk : k < 512) (hR : R32 σ) (hR9 : R32 τ) (hS : S k σ τ) (h0 : 0 ≤ i) (hiL : i + 6 ≤ L) {H : Heap} {locs : List Loc} {cells slots : Nat} {ls : Array Slot} (hc : cells ≤ room_1.cells ∧ slots ≤ room_1.slots) (hE : EW D (aL s) s.heap (wL g σ τ v) H locs) (hl : lv_has ls 8 (lvL g b i))
    (next : ∀ (σ1 τ1 : St) (H : Heap) (locs : List Loc) (ls : Array Slot), R32 σ1 → R32 τ1 → S (k + 1) σ1 τ1 → EW D (aL s) s.heap (wL g σ1 τ1 v) H locs → lv_has ls 8 (lvL g b i) → W p l e room_1 s m #[Value.ref b] below meth c H locs cells slots Q (F0 m 2401 ls [])) : W p l e room_1 s m #[Value.ref b] below meth c H locs cells slots Q (F0 m 360 ls []) := by
  have C0 := hC.1
  obtain ⟨a1, e_a1, i_a1⟩ : ∃ a, a = (xs (i + 1).toNat).toInt ∧ in32 a := ⟨_, rfl, in32_toInt _⟩
  obtain ⟨a2, e_a2, i_a2⟩ : ∃ a, a = (xs (i + 2).toNat).toInt ∧ in32 a := ⟨_, rfl, in32_toInt _⟩
  obtain ⟨a3, e_a3, i_a3⟩ : ∃ a, a = (xs (i + 3).toNat).toInt ∧ in32 a := ⟨_, rfl, in32_toInt _⟩
  obtain ⟨r, σ1, τ1, h_E, h_M, h_S⟩ := HN k σ τ a1 a2 a3 hk hR hR9 hS i_a1 i_a2 i_a3
  refine lv_aload_n C0.1 C0.2.1 dL_law_360 rfl (lv_at hl 1 rfl) ?_
  refine lv_aload_n C0.1 C0.2.1 dL_law_361 rfl (lv_at hl 0 rfl) ?_
  refine lv_iload C0.1 C0.2.1 dL_law_362 (lv_at hl 4 rfl) ?_
  refine lv_iconst (v := I 1) C0.1 C0.2.1 dL_law_364 rfl ?_
  refine x_add (v := i + 1) C0 rfl dL_law_365 ?_
  refine x_sld hC hE (by omega) (by omega) e_a1 dL_law_366 ?_
  refine lv_aload_n C0.1 C0.2.1 dL_law_367 rfl (lv_at hl 0 rfl) ?_
  refine lv_iload C0.1 C0.2.1 dL_law_368 (lv_at hl 4 rfl) ?_
  refine lv_iconst (v := I 2) C0.1 C0.2.1 dL_law_370 rfl ?_
  refine x_add (v := i + 2) C0 rfl dL_law_371 ?_
  refine x_sld hC hE (by omega) (by omega) e_a2 dL_law_372 ?_
  refine lv_aload_n C0.1 C0.2.1 dL_law_373 rfl (lv_at hl 0 rfl) ?_
  refine lv_iload C0.1 C0.2.1 dL_law_374 (lv_at hl 4 rfl) ?_
  refine lv_iconst (v := I 3) C0.1 C0.2.1 dL_law_376 rfl ?_
  refine x_add (v := i + 3) C0 rfl dL_law_377 ?_
  refine x_sld hC hE (by omega) (by omega) e_a3 dL_law_378 ?_
  refine lawE_i (rest := []) (σ' := σ1) C0 hC.2.1 hE (c_E_fills l D g hR i_a1 i_a2 i_a3 h_E) kw_L_37 ⟨Nat.le_of_ble_eq_true rfl, Nat.le_of_ble_eq_true rfl⟩ rfl hl.1 rfl (Nat.le_of_ble_eq_true rfl) dL_law_379 hc (fun H locs hE ⟨i_r, hR⟩ => ?_)
  refine lv_aload_n C0.1 C0.2.1 dL_law_382 rfl (lv_at hl 2 rfl) ?_
  refine lv_aload_n C0.1 C0.2.1 dL_law_383 rfl (lv_at hl 0 rfl) ?_
  refine lv_iload C0.1 C0.2.1 dL_law_384 (lv_at hl 4 rfl) ?_
  refine lv_iconst (v := I 1) C0.1 C0.2.1 dL_law_386 rfl ?_
  refine x_add (v := i + 1) C0 rfl dL_law_387 ?_
  refine x_sld hC hE (by omega) (by omega) e_a1 dL_law_388 ?_
  refine lv_aload_n C0.1 C0.2.1 dL_law_389 rfl (lv_at hl 0 rfl) ?_
  refine lv_iload C0.1 C0.2.1 dL_law_390 (lv_at hl 4 rfl) ?_
  refine lv_iconst (v := I 2) C0.1 C0.2.1 dL_law_392 rfl ?_
  refine x_add (v := i + 2) C0 rfl dL_law_393 ?_
  refine x_sld hC hE (by omega) (by omega) e_a2 dL_law_394 ?_
  refine lv_aload_n C0.1 C0.2.1 dL_law_395 rfl (lv_at hl 0 rfl) ?_
  refine lv_iload C0.1 C0.2.1 dL_law_396 (lv_at hl 4 rfl) ?_
  refine lv_iconst (v := I 3) C0.1 C0.2.1 dL_law_398 rfl ?_
  refine x_add (v := i + 3) C0 rfl dL_law_399 ?_
  refine x_sld hC hE (by omega) (by omega) e_a3 dL_law_400 ?_
  refine lawM_i (rest := [.int (I r)]) (τ' := τ1) C0 hC.2.1 hE (c_M_fills l D g hR9 i_a1 i_a2 i_a3 h_M) kw_L_41 ⟨Nat.le_of_ble_eq_true rfl, Nat.le_of_ble_eq_true rfl⟩ rfl hl.1 rfl (Nat.le_of_ble_eq_true rfl) dL_law_401 hc (fun H locs hE ⟨i_r9, hR9⟩ => ?_)
  refine x_icmp_eq C0 i_r i_r9 dL_law_404 (tgt := 2401) (by decide) (fun _ => ?_) (fun c9 => absurd rfl c9)
  exact next σ1 τ1 H locs ls hR hR9 h_S hE hl
def HS_5 (S : Nat → St → St → Prop) : Prop := ∀ (k : Nat) (σ τ : St) (z0 : Int) (z1 : Int), k < 512 → R32 σ → R32 τ → S k σ τ → in32 z0 → in32 z1 → ∃ (r : Int) (σ1 τ1 : St), E_copies σ z0 z1 = some (r, σ1) ∧ M_copies τ z0 z1 = some (r, τ1) ∧ S (k + 1) σ1 τ1
set_option maxRecDepth 100000 in
set_option maxHeartbeats 4000000 in
theorem law_c5 {p : Program} {l : Launch} {e : Env} {s : State} {m : MethodId} {below : List Frame} {meth : Method} {c : Code} {Q : State → Prop} {D : va_G} {g : Ad} {b L : Nat} {xs : Nat → Int32} {S : Nat → St → St → Prop} (HN : HS_5 S) (hC : LC p s m meth c b L xs D g) {k : Nat} {σ τ : St} {v i : Int} (hk : k < 512) (hR : R32 σ) (hR9 : R32 τ) (hS : S k σ τ) (h0 : 0 ≤ i) (hiL : i + 6 ≤ L) {H : Heap} {locs : List Loc} {cells slots : Nat} {ls : Array Slot} (hc : cells ≤ room_1.cells ∧ slots ≤ room_1.slots) (hE : EW D (aL s) s.heap (wL g σ τ v) H locs) (hl : lv_has ls 8 (lvL g b i))
    (next : ∀ (σ1 τ1 : St) (H : Heap) (locs : List Loc) (ls : Array Slot), R32 σ1 → R32 τ1 → S (k + 1) σ1 τ1 → EW D (aL s) s.heap (wL g σ1 τ1 v) H locs → lv_has ls 8 (lvL g b i) → W p l e room_1 s m #[Value.ref b] below meth c H locs cells slots Q (F0 m 2401 ls [])) : W p l e room_1 s m #[Value.ref b] below meth c H locs cells slots Q (F0 m 409 ls []) := by
  have C0 := hC.1
  obtain ⟨a1, e_a1, i_a1⟩ : ∃ a, a = (xs (i + 1).toNat).toInt ∧ in32 a := ⟨_, rfl, in32_toInt _⟩
  obtain ⟨a2, e_a2, i_a2⟩ : ∃ a, a = (xs (i + 2).toNat).toInt ∧ in32 a := ⟨_, rfl, in32_toInt _⟩
  obtain ⟨r, σ1, τ1, h_E, h_M, h_S⟩ := HN k σ τ a1 a2 hk hR hR9 hS i_a1 i_a2
  refine lv_aload_n C0.1 C0.2.1 dL_law_409 rfl (lv_at hl 1 rfl) ?_
  refine lv_aload_n C0.1 C0.2.1 dL_law_410 rfl (lv_at hl 0 rfl) ?_
  refine lv_iload C0.1 C0.2.1 dL_law_411 (lv_at hl 4 rfl) ?_
  refine lv_iconst (v := I 1) C0.1 C0.2.1 dL_law_413 rfl ?_
  refine x_add (v := i + 1) C0 rfl dL_law_414 ?_
  refine x_sld hC hE (by omega) (by omega) e_a1 dL_law_415 ?_
  refine lv_aload_n C0.1 C0.2.1 dL_law_416 rfl (lv_at hl 0 rfl) ?_
  refine lv_iload C0.1 C0.2.1 dL_law_417 (lv_at hl 4 rfl) ?_
  refine lv_iconst (v := I 2) C0.1 C0.2.1 dL_law_419 rfl ?_
  refine x_add (v := i + 2) C0 rfl dL_law_420 ?_
  refine x_sld hC hE (by omega) (by omega) e_a2 dL_law_421 ?_
  refine lawE_i (rest := []) (σ' := σ1) C0 hC.2.1 hE (c_E_copies l D g hR i_a1 i_a2 h_E) kw_L_42 ⟨Nat.le_of_ble_eq_true rfl, Nat.le_of_ble_eq_true rfl⟩ rfl hl.1 rfl (Nat.le_of_ble_eq_true rfl) dL_law_422 hc (fun H locs hE ⟨i_r, hR⟩ => ?_)
  refine lv_aload_n C0.1 C0.2.1 dL_law_425 rfl (lv_at hl 2 rfl) ?_
  refine lv_aload_n C0.1 C0.2.1 dL_law_426 rfl (lv_at hl 0 rfl) ?_
  refine lv_iload C0.1 C0.2.1 dL_law_427 (lv_at hl 4 rfl) ?_
  refine lv_iconst (v := I 1) C0.1 C0.2.1 dL_law_429 rfl ?_
  refine x_add (v := i + 1) C0 rfl dL_law_430 ?_
  refine x_sld hC hE (by omega) (by omega) e_a1 dL_law_431 ?_
  refine lv_aload_n C0.1 C0.2.1 dL_law_432 rfl (lv_at hl 0 rfl) ?_
  refine lv_iload C0.1 C0.2.1 dL_law_433 (lv_at hl 4 rfl) ?_
  refine lv_iconst (v := I 2) C0.1 C0.2.1 dL_law_435 rfl ?_
  refine x_add (v := i + 2) C0 rfl dL_law_436 ?_
  refine x_sld hC hE (by omega) (by omega) e_a2 dL_law_437 ?_
  refine lawM_i (rest := [.int (I r)]) (τ' := τ1) C0 hC.2.1 hE (c_M_copies l D g hR9 i_a1 i_a2 h_M) kw_L_46 ⟨Nat.le_of_ble_eq_true rfl, Nat.le_of_ble_eq_true rfl⟩ rfl hl.1 rfl (Nat.le_of_ble_eq_true rfl) dL_law_438 hc (fun H locs hE ⟨i_r9, hR9⟩ => ?_)
  refine x_icmp_eq C0 i_r i_r9 dL_law_441 (tgt := 2401) (by decide) (fun _ => ?_) (fun c9 => absurd rfl c9)
  exact next σ1 τ1 H locs ls hR hR9 h_S hE hl
def HS_6 (S : Nat → St → St → Prop) : Prop := ∀ (k : Nat) (σ τ : St) (z0 : Int) (z1 : Int) (z2 : Int), k < 512 → R32 σ → R32 τ → S k σ τ → in32 z0 → in32 z1 → in32 z2 → ∃ (r : Int) (σ1 τ1 : St), E_sides σ z0 z1 z2 = some (r, σ1) ∧ M_sides τ z0 z1 z2 = some (r, τ1) ∧ S (k + 1) σ1 τ1
set_option maxRecDepth 100000 in
set_option maxHeartbeats 4000000 in
theorem law_c6 {p : Program} {l : Launch} {e : Env} {s : State} {m : MethodId} {below : List Frame} {meth : Method} {c : Code} {Q : State → Prop} {D : va_G} {g : Ad} {b L : Nat} {xs : Nat → Int32} {S : Nat → St → St → Prop} (HN : HS_6 S) (hC : LC p s m meth c b L xs D g) {k : Nat} {σ τ : St} {v i : Int} (hk : k < 512) (hR : R32 σ) (hR9 : R32 τ) (hS : S k σ τ) (h0 : 0 ≤ i) (hiL : i + 6 ≤ L) {H : Heap} {locs : List Loc} {cells slots : Nat} {ls : Array Slot} (hc : cells ≤ room_1.cells ∧ slots ≤ room_1.slots) (hE : EW D (aL s) s.heap (wL g σ τ v) H locs) (hl : lv_has ls 8 (lvL g b i))
    (next : ∀ (σ1 τ1 : St) (H : Heap) (locs : List Loc) (ls : Array Slot), R32 σ1 → R32 τ1 → S (k + 1) σ1 τ1 → EW D (aL s) s.heap (wL g σ1 τ1 v) H locs → lv_has ls 8 (lvL g b i) → W p l e room_1 s m #[Value.ref b] below meth c H locs cells slots Q (F0 m 2401 ls [])) : W p l e room_1 s m #[Value.ref b] below meth c H locs cells slots Q (F0 m 446 ls []) := by
  have C0 := hC.1
  obtain ⟨a1, e_a1, i_a1⟩ : ∃ a, a = (xs (i + 1).toNat).toInt ∧ in32 a := ⟨_, rfl, in32_toInt _⟩
  obtain ⟨a2, e_a2, i_a2⟩ : ∃ a, a = (xs (i + 2).toNat).toInt ∧ in32 a := ⟨_, rfl, in32_toInt _⟩
  obtain ⟨a3, e_a3, i_a3⟩ : ∃ a, a = (xs (i + 3).toNat).toInt ∧ in32 a := ⟨_, rfl, in32_toInt _⟩
  obtain ⟨r, σ1, τ1, h_E, h_M, h_S⟩ := HN k σ τ a1 a2 a3 hk hR hR9 hS i_a1 i_a2 i_a3
  refine lv_aload_n C0.1 C0.2.1 dL_law_446 rfl (lv_at hl 1 rfl) ?_
  refine lv_aload_n C0.1 C0.2.1 dL_law_447 rfl (lv_at hl 0 rfl) ?_
  refine lv_iload C0.1 C0.2.1 dL_law_448 (lv_at hl 4 rfl) ?_
  refine lv_iconst (v := I 1) C0.1 C0.2.1 dL_law_450 rfl ?_
  refine x_add (v := i + 1) C0 rfl dL_law_451 ?_
  refine x_sld hC hE (by omega) (by omega) e_a1 dL_law_452 ?_
  refine lv_aload_n C0.1 C0.2.1 dL_law_453 rfl (lv_at hl 0 rfl) ?_
  refine lv_iload C0.1 C0.2.1 dL_law_454 (lv_at hl 4 rfl) ?_
  refine lv_iconst (v := I 2) C0.1 C0.2.1 dL_law_456 rfl ?_
  refine x_add (v := i + 2) C0 rfl dL_law_457 ?_
  refine x_sld hC hE (by omega) (by omega) e_a2 dL_law_458 ?_
  refine lv_aload_n C0.1 C0.2.1 dL_law_459 rfl (lv_at hl 0 rfl) ?_
  refine lv_iload C0.1 C0.2.1 dL_law_460 (lv_at hl 4 rfl) ?_
  refine lv_iconst (v := I 3) C0.1 C0.2.1 dL_law_462 rfl ?_
  refine x_add (v := i + 3) C0 rfl dL_law_463 ?_
  refine x_sld hC hE (by omega) (by omega) e_a3 dL_law_464 ?_
  refine lawE_i (rest := []) (σ' := σ1) C0 hC.2.1 hE (c_E_sides l D g hR i_a1 i_a2 i_a3 h_E) kw_L_47 ⟨Nat.le_of_ble_eq_true rfl, Nat.le_of_ble_eq_true rfl⟩ rfl hl.1 rfl (Nat.le_of_ble_eq_true rfl) dL_law_465 hc (fun H locs hE ⟨i_r, hR⟩ => ?_)
  refine lv_aload_n C0.1 C0.2.1 dL_law_468 rfl (lv_at hl 2 rfl) ?_
  refine lv_aload_n C0.1 C0.2.1 dL_law_469 rfl (lv_at hl 0 rfl) ?_
  refine lv_iload C0.1 C0.2.1 dL_law_470 (lv_at hl 4 rfl) ?_
  refine lv_iconst (v := I 1) C0.1 C0.2.1 dL_law_472 rfl ?_
  refine x_add (v := i + 1) C0 rfl dL_law_473 ?_
  refine x_sld hC hE (by omega) (by omega) e_a1 dL_law_474 ?_
  refine lv_aload_n C0.1 C0.2.1 dL_law_475 rfl (lv_at hl 0 rfl) ?_
  refine lv_iload C0.1 C0.2.1 dL_law_476 (lv_at hl 4 rfl) ?_
  refine lv_iconst (v := I 2) C0.1 C0.2.1 dL_law_478 rfl ?_
  refine x_add (v := i + 2) C0 rfl dL_law_479 ?_
  refine x_sld hC hE (by omega) (by omega) e_a2 dL_law_480 ?_
  refine lv_aload_n C0.1 C0.2.1 dL_law_481 rfl (lv_at hl 0 rfl) ?_
  refine lv_iload C0.1 C0.2.1 dL_law_482 (lv_at hl 4 rfl) ?_
  refine lv_iconst (v := I 3) C0.1 C0.2.1 dL_law_484 rfl ?_
  refine x_add (v := i + 3) C0 rfl dL_law_485 ?_
  refine x_sld hC hE (by omega) (by omega) e_a3 dL_law_486 ?_
  refine lawM_i (rest := [.int (I r)]) (τ' := τ1) C0 hC.2.1 hE (c_M_sides l D g hR9 i_a1 i_a2 i_a3 h_M) kw_L_50 ⟨Nat.le_of_ble_eq_true rfl, Nat.le_of_ble_eq_true rfl⟩ rfl hl.1 rfl (Nat.le_of_ble_eq_true rfl) dL_law_487 hc (fun H locs hE ⟨i_r9, hR9⟩ => ?_)
  refine x_icmp_eq C0 i_r i_r9 dL_law_490 (tgt := 2401) (by decide) (fun _ => ?_) (fun c9 => absurd rfl c9)
  exact next σ1 τ1 H locs ls hR hR9 h_S hE hl
def HS_7 (S : Nat → St → St → Prop) : Prop := ∀ (k : Nat) (σ τ : St) (z0 : Int) (z1 : Int) (z2 : Int) (z3 : Int), k < 512 → R32 σ → R32 τ → S k σ τ → in32 z0 → in32 z1 → in32 z2 → in32 z3 → ∃ (r : Int) (σ1 τ1 : St), E_roots σ z0 z1 z2 z3 = some (r, σ1) ∧ M_roots τ z0 z1 z2 z3 = some (r, τ1) ∧ S (k + 1) σ1 τ1
set_option maxRecDepth 100000 in
set_option maxHeartbeats 4000000 in
theorem law_c7 {p : Program} {l : Launch} {e : Env} {s : State} {m : MethodId} {below : List Frame} {meth : Method} {c : Code} {Q : State → Prop} {D : va_G} {g : Ad} {b L : Nat} {xs : Nat → Int32} {S : Nat → St → St → Prop} (HN : HS_7 S) (hC : LC p s m meth c b L xs D g) {k : Nat} {σ τ : St} {v i : Int} (hk : k < 512) (hR : R32 σ) (hR9 : R32 τ) (hS : S k σ τ) (h0 : 0 ≤ i) (hiL : i + 6 ≤ L) {H : Heap} {locs : List Loc} {cells slots : Nat} {ls : Array Slot} (hc : cells ≤ room_1.cells ∧ slots ≤ room_1.slots) (hE : EW D (aL s) s.heap (wL g σ τ v) H locs) (hl : lv_has ls 8 (lvL g b i))
    (next : ∀ (σ1 τ1 : St) (H : Heap) (locs : List Loc) (ls : Array Slot), R32 σ1 → R32 τ1 → S (k + 1) σ1 τ1 → EW D (aL s) s.heap (wL g σ1 τ1 v) H locs → lv_has ls 8 (lvL g b i) → W p l e room_1 s m #[Value.ref b] below meth c H locs cells slots Q (F0 m 2401 ls [])) : W p l e room_1 s m #[Value.ref b] below meth c H locs cells slots Q (F0 m 495 ls []) := by
  have C0 := hC.1
  obtain ⟨a1, e_a1, i_a1⟩ : ∃ a, a = (xs (i + 1).toNat).toInt ∧ in32 a := ⟨_, rfl, in32_toInt _⟩
  obtain ⟨a2, e_a2, i_a2⟩ : ∃ a, a = (xs (i + 2).toNat).toInt ∧ in32 a := ⟨_, rfl, in32_toInt _⟩
  obtain ⟨a3, e_a3, i_a3⟩ : ∃ a, a = (xs (i + 3).toNat).toInt ∧ in32 a := ⟨_, rfl, in32_toInt _⟩
  obtain ⟨a4, e_a4, i_a4⟩ : ∃ a, a = (xs (i + 4).toNat).toInt ∧ in32 a := ⟨_, rfl, in32_toInt _⟩
  obtain ⟨r, σ1, τ1, h_E, h_M, h_S⟩ := HN k σ τ a1 a2 a3 a4 hk hR hR9 hS i_a1 i_a2 i_a3 i_a4
  refine lv_aload_n C0.1 C0.2.1 dL_law_495 rfl (lv_at hl 1 rfl) ?_
  refine lv_aload_n C0.1 C0.2.1 dL_law_496 rfl (lv_at hl 0 rfl) ?_
  refine lv_iload C0.1 C0.2.1 dL_law_497 (lv_at hl 4 rfl) ?_
  refine lv_iconst (v := I 1) C0.1 C0.2.1 dL_law_499 rfl ?_
  refine x_add (v := i + 1) C0 rfl dL_law_500 ?_
  refine x_sld hC hE (by omega) (by omega) e_a1 dL_law_501 ?_
  refine lv_aload_n C0.1 C0.2.1 dL_law_502 rfl (lv_at hl 0 rfl) ?_
  refine lv_iload C0.1 C0.2.1 dL_law_503 (lv_at hl 4 rfl) ?_
  refine lv_iconst (v := I 2) C0.1 C0.2.1 dL_law_505 rfl ?_
  refine x_add (v := i + 2) C0 rfl dL_law_506 ?_
  refine x_sld hC hE (by omega) (by omega) e_a2 dL_law_507 ?_
  refine lv_aload_n C0.1 C0.2.1 dL_law_508 rfl (lv_at hl 0 rfl) ?_
  refine lv_iload C0.1 C0.2.1 dL_law_509 (lv_at hl 4 rfl) ?_
  refine lv_iconst (v := I 3) C0.1 C0.2.1 dL_law_511 rfl ?_
  refine x_add (v := i + 3) C0 rfl dL_law_512 ?_
  refine x_sld hC hE (by omega) (by omega) e_a3 dL_law_513 ?_
  refine lv_aload_n C0.1 C0.2.1 dL_law_514 rfl (lv_at hl 0 rfl) ?_
  refine lv_iload C0.1 C0.2.1 dL_law_515 (lv_at hl 4 rfl) ?_
  refine lv_iconst (v := I 4) C0.1 C0.2.1 dL_law_517 rfl ?_
  refine x_add (v := i + 4) C0 rfl dL_law_518 ?_
  refine x_sld hC hE (by omega) (by omega) e_a4 dL_law_519 ?_
  refine lawE_i (rest := []) (σ' := σ1) C0 hC.2.1 hE (c_E_roots l D g hR i_a1 i_a2 i_a3 i_a4 h_E) kw_L_51 ⟨Nat.le_of_ble_eq_true rfl, Nat.le_of_ble_eq_true rfl⟩ rfl hl.1 rfl (Nat.le_of_ble_eq_true rfl) dL_law_520 hc (fun H locs hE ⟨i_r, hR⟩ => ?_)
  refine lv_aload_n C0.1 C0.2.1 dL_law_523 rfl (lv_at hl 2 rfl) ?_
  refine lv_aload_n C0.1 C0.2.1 dL_law_524 rfl (lv_at hl 0 rfl) ?_
  refine lv_iload C0.1 C0.2.1 dL_law_525 (lv_at hl 4 rfl) ?_
  refine lv_iconst (v := I 1) C0.1 C0.2.1 dL_law_527 rfl ?_
  refine x_add (v := i + 1) C0 rfl dL_law_528 ?_
  refine x_sld hC hE (by omega) (by omega) e_a1 dL_law_529 ?_
  refine lv_aload_n C0.1 C0.2.1 dL_law_530 rfl (lv_at hl 0 rfl) ?_
  refine lv_iload C0.1 C0.2.1 dL_law_531 (lv_at hl 4 rfl) ?_
  refine lv_iconst (v := I 2) C0.1 C0.2.1 dL_law_533 rfl ?_
  refine x_add (v := i + 2) C0 rfl dL_law_534 ?_
  refine x_sld hC hE (by omega) (by omega) e_a2 dL_law_535 ?_
  refine lv_aload_n C0.1 C0.2.1 dL_law_536 rfl (lv_at hl 0 rfl) ?_
  refine lv_iload C0.1 C0.2.1 dL_law_537 (lv_at hl 4 rfl) ?_
  refine lv_iconst (v := I 3) C0.1 C0.2.1 dL_law_539 rfl ?_
  refine x_add (v := i + 3) C0 rfl dL_law_540 ?_
  refine x_sld hC hE (by omega) (by omega) e_a3 dL_law_541 ?_
  refine lv_aload_n C0.1 C0.2.1 dL_law_542 rfl (lv_at hl 0 rfl) ?_
  refine lv_iload C0.1 C0.2.1 dL_law_543 (lv_at hl 4 rfl) ?_
  refine lv_iconst (v := I 4) C0.1 C0.2.1 dL_law_545 rfl ?_
  refine x_add (v := i + 4) C0 rfl dL_law_546 ?_
  refine x_sld hC hE (by omega) (by omega) e_a4 dL_law_547 ?_
  refine lawM_i (rest := [.int (I r)]) (τ' := τ1) C0 hC.2.1 hE (c_M_roots l D g hR9 i_a1 i_a2 i_a3 i_a4 h_M) kw_L_55 ⟨Nat.le_of_ble_eq_true rfl, Nat.le_of_ble_eq_true rfl⟩ rfl hl.1 rfl (Nat.le_of_ble_eq_true rfl) dL_law_548 hc (fun H locs hE ⟨i_r9, hR9⟩ => ?_)
  refine x_icmp_eq C0 i_r i_r9 dL_law_551 (tgt := 2401) (by decide) (fun _ => ?_) (fun c9 => absurd rfl c9)
  exact next σ1 τ1 H locs ls hR hR9 h_S hE hl
def HS_8 (S : Nat → St → St → Prop) : Prop := ∀ (k : Nat) (σ τ : St) (z0 : Int), k < 512 → R32 σ → R32 τ → S k σ τ → in32 z0 → ∃ (r : Int) (σ1 τ1 : St), E_size σ z0 = some (r, σ1) ∧ M_size τ z0 = some (r, τ1) ∧ S (k + 1) σ1 τ1
set_option maxRecDepth 100000 in
set_option maxHeartbeats 4000000 in
theorem law_c8 {p : Program} {l : Launch} {e : Env} {s : State} {m : MethodId} {below : List Frame} {meth : Method} {c : Code} {Q : State → Prop} {D : va_G} {g : Ad} {b L : Nat} {xs : Nat → Int32} {S : Nat → St → St → Prop} (HN : HS_8 S) (hC : LC p s m meth c b L xs D g) {k : Nat} {σ τ : St} {v i : Int} (hk : k < 512) (hR : R32 σ) (hR9 : R32 τ) (hS : S k σ τ) (h0 : 0 ≤ i) (hiL : i + 6 ≤ L) {H : Heap} {locs : List Loc} {cells slots : Nat} {ls : Array Slot} (hc : cells ≤ room_1.cells ∧ slots ≤ room_1.slots) (hE : EW D (aL s) s.heap (wL g σ τ v) H locs) (hl : lv_has ls 8 (lvL g b i))
    (next : ∀ (σ1 τ1 : St) (H : Heap) (locs : List Loc) (ls : Array Slot), R32 σ1 → R32 τ1 → S (k + 1) σ1 τ1 → EW D (aL s) s.heap (wL g σ1 τ1 v) H locs → lv_has ls 8 (lvL g b i) → W p l e room_1 s m #[Value.ref b] below meth c H locs cells slots Q (F0 m 2401 ls [])) : W p l e room_1 s m #[Value.ref b] below meth c H locs cells slots Q (F0 m 556 ls []) := by
  have C0 := hC.1
  obtain ⟨a1, e_a1, i_a1⟩ : ∃ a, a = (xs (i + 1).toNat).toInt ∧ in32 a := ⟨_, rfl, in32_toInt _⟩
  obtain ⟨r, σ1, τ1, h_E, h_M, h_S⟩ := HN k σ τ a1 hk hR hR9 hS i_a1
  refine lv_aload_n C0.1 C0.2.1 dL_law_556 rfl (lv_at hl 1 rfl) ?_
  refine lv_aload_n C0.1 C0.2.1 dL_law_557 rfl (lv_at hl 0 rfl) ?_
  refine lv_iload C0.1 C0.2.1 dL_law_558 (lv_at hl 4 rfl) ?_
  refine lv_iconst (v := I 1) C0.1 C0.2.1 dL_law_560 rfl ?_
  refine x_add (v := i + 1) C0 rfl dL_law_561 ?_
  refine x_sld hC hE (by omega) (by omega) e_a1 dL_law_562 ?_
  refine lawE_i (rest := []) (σ' := σ1) C0 hC.2.1 hE (c_E_size l D g hR i_a1 h_E) kw_L_56 ⟨Nat.le_of_ble_eq_true rfl, Nat.le_of_ble_eq_true rfl⟩ rfl hl.1 rfl (Nat.le_of_ble_eq_true rfl) dL_law_563 hc (fun H locs hE ⟨i_r, hR⟩ => ?_)
  refine lv_aload_n C0.1 C0.2.1 dL_law_566 rfl (lv_at hl 2 rfl) ?_
  refine lv_aload_n C0.1 C0.2.1 dL_law_567 rfl (lv_at hl 0 rfl) ?_
  refine lv_iload C0.1 C0.2.1 dL_law_568 (lv_at hl 4 rfl) ?_
  refine lv_iconst (v := I 1) C0.1 C0.2.1 dL_law_570 rfl ?_
  refine x_add (v := i + 1) C0 rfl dL_law_571 ?_
  refine x_sld hC hE (by omega) (by omega) e_a1 dL_law_572 ?_
  refine lawM_i (rest := [.int (I r)]) (τ' := τ1) C0 hC.2.1 hE (c_M_size l D g hR9 i_a1 h_M) kw_L_59 ⟨Nat.le_of_ble_eq_true rfl, Nat.le_of_ble_eq_true rfl⟩ rfl hl.1 rfl (Nat.le_of_ble_eq_true rfl) dL_law_573 hc (fun H locs hE ⟨i_r9, hR9⟩ => ?_)
  refine x_icmp_eq C0 i_r i_r9 dL_law_576 (tgt := 2401) (by decide) (fun _ => ?_) (fun c9 => absurd rfl c9)
  exact next σ1 τ1 H locs ls hR hR9 h_S hE hl
def HS_9 (S : Nat → St → St → Prop) : Prop := ∀ (k : Nat) (σ τ : St) (z0 : Int) (z1 : Int), k < 512 → R32 σ → R32 τ → S k σ τ → in32 z0 → in32 z1 → ∃ (r : Int) (τ1 : St), E_get σ z0 z1 = some r ∧ M_get τ z0 z1 = some (r, τ1) ∧ S (k + 1) σ τ1
set_option maxRecDepth 100000 in
set_option maxHeartbeats 4000000 in
theorem law_c9 {p : Program} {l : Launch} {e : Env} {s : State} {m : MethodId} {below : List Frame} {meth : Method} {c : Code} {Q : State → Prop} {D : va_G} {g : Ad} {b L : Nat} {xs : Nat → Int32} {S : Nat → St → St → Prop} (HN : HS_9 S) (hC : LC p s m meth c b L xs D g) {k : Nat} {σ τ : St} {v i : Int} (hk : k < 512) (hR : R32 σ) (hR9 : R32 τ) (hS : S k σ τ) (h0 : 0 ≤ i) (hiL : i + 6 ≤ L) {H : Heap} {locs : List Loc} {cells slots : Nat} {ls : Array Slot} (hc : cells ≤ room_1.cells ∧ slots ≤ room_1.slots) (hE : EW D (aL s) s.heap (wL g σ τ v) H locs) (hl : lv_has ls 8 (lvL g b i))
    (next : ∀ (σ1 τ1 : St) (H : Heap) (locs : List Loc) (ls : Array Slot), R32 σ1 → R32 τ1 → S (k + 1) σ1 τ1 → EW D (aL s) s.heap (wL g σ1 τ1 v) H locs → lv_has ls 8 (lvL g b i) → W p l e room_1 s m #[Value.ref b] below meth c H locs cells slots Q (F0 m 2401 ls [])) : W p l e room_1 s m #[Value.ref b] below meth c H locs cells slots Q (F0 m 581 ls []) := by
  have C0 := hC.1
  obtain ⟨a1, e_a1, i_a1⟩ : ∃ a, a = (xs (i + 1).toNat).toInt ∧ in32 a := ⟨_, rfl, in32_toInt _⟩
  obtain ⟨a2, e_a2, i_a2⟩ : ∃ a, a = (xs (i + 2).toNat).toInt ∧ in32 a := ⟨_, rfl, in32_toInt _⟩
  obtain ⟨r, τ1, h_E, h_M, h_S⟩ := HN k σ τ a1 a2 hk hR hR9 hS i_a1 i_a2
  refine lv_aload_n C0.1 C0.2.1 dL_law_581 rfl (lv_at hl 1 rfl) ?_
  refine lv_aload_n C0.1 C0.2.1 dL_law_582 rfl (lv_at hl 0 rfl) ?_
  refine lv_iload C0.1 C0.2.1 dL_law_583 (lv_at hl 4 rfl) ?_
  refine lv_iconst (v := I 1) C0.1 C0.2.1 dL_law_585 rfl ?_
  refine x_add (v := i + 1) C0 rfl dL_law_586 ?_
  refine x_sld hC hE (by omega) (by omega) e_a1 dL_law_587 ?_
  refine lv_aload_n C0.1 C0.2.1 dL_law_588 rfl (lv_at hl 0 rfl) ?_
  refine lv_iload C0.1 C0.2.1 dL_law_589 (lv_at hl 4 rfl) ?_
  refine lv_iconst (v := I 2) C0.1 C0.2.1 dL_law_591 rfl ?_
  refine x_add (v := i + 2) C0 rfl dL_law_592 ?_
  refine x_sld hC hE (by omega) (by omega) e_a2 dL_law_593 ?_
  refine lawE_i (rest := []) (σ' := σ) C0 hC.2.1 hE (c_E_get l D g hR i_a1 i_a2 h_E) kw_L_60 ⟨Nat.le_of_ble_eq_true rfl, Nat.le_of_ble_eq_true rfl⟩ rfl hl.1 rfl (Nat.le_of_ble_eq_true rfl) dL_law_594 hc (fun H locs hE i_r => ?_)
  refine lv_aload_n C0.1 C0.2.1 dL_law_597 rfl (lv_at hl 2 rfl) ?_
  refine lv_aload_n C0.1 C0.2.1 dL_law_598 rfl (lv_at hl 0 rfl) ?_
  refine lv_iload C0.1 C0.2.1 dL_law_599 (lv_at hl 4 rfl) ?_
  refine lv_iconst (v := I 1) C0.1 C0.2.1 dL_law_601 rfl ?_
  refine x_add (v := i + 1) C0 rfl dL_law_602 ?_
  refine x_sld hC hE (by omega) (by omega) e_a1 dL_law_603 ?_
  refine lv_aload_n C0.1 C0.2.1 dL_law_604 rfl (lv_at hl 0 rfl) ?_
  refine lv_iload C0.1 C0.2.1 dL_law_605 (lv_at hl 4 rfl) ?_
  refine lv_iconst (v := I 2) C0.1 C0.2.1 dL_law_607 rfl ?_
  refine x_add (v := i + 2) C0 rfl dL_law_608 ?_
  refine x_sld hC hE (by omega) (by omega) e_a2 dL_law_609 ?_
  refine lawM_i (rest := [.int (I r)]) (τ' := τ1) C0 hC.2.1 hE (c_M_get l D g hR9 i_a1 i_a2 h_M) kw_L_63 ⟨Nat.le_of_ble_eq_true rfl, Nat.le_of_ble_eq_true rfl⟩ rfl hl.1 rfl (Nat.le_of_ble_eq_true rfl) dL_law_610 hc (fun H locs hE ⟨i_r9, hR9⟩ => ?_)
  refine x_icmp_eq C0 i_r i_r9 dL_law_613 (tgt := 2401) (by decide) (fun _ => ?_) (fun c9 => absurd rfl c9)
  exact next σ τ1 H locs ls hR hR9 h_S hE hl
def HS_10 (S : Nat → St → St → Prop) : Prop := ∀ (k : Nat) (σ τ : St) (z0 : Int) (z1 : Int), k < 512 → R32 σ → R32 τ → S k σ τ → in32 z0 → in32 z1 → ∃ (r : Int) (σ1 τ1 : St), E_path σ z0 z1 = some (r, σ1) ∧ M_path τ z0 z1 = some (r, τ1) ∧ S (k + 1) σ1 τ1
set_option maxRecDepth 100000 in
set_option maxHeartbeats 4000000 in
theorem law_c10 {p : Program} {l : Launch} {e : Env} {s : State} {m : MethodId} {below : List Frame} {meth : Method} {c : Code} {Q : State → Prop} {D : va_G} {g : Ad} {b L : Nat} {xs : Nat → Int32} {S : Nat → St → St → Prop} (HN : HS_10 S) (hC : LC p s m meth c b L xs D g) {k : Nat} {σ τ : St} {v i : Int} (hk : k < 512) (hR : R32 σ) (hR9 : R32 τ) (hS : S k σ τ) (h0 : 0 ≤ i) (hiL : i + 6 ≤ L) {H : Heap} {locs : List Loc} {cells slots : Nat} {ls : Array Slot} (hc : cells ≤ room_1.cells ∧ slots ≤ room_1.slots) (hE : EW D (aL s) s.heap (wL g σ τ v) H locs) (hl : lv_has ls 8 (lvL g b i))
    (next : ∀ (σ1 τ1 : St) (H : Heap) (locs : List Loc) (ls : Array Slot), R32 σ1 → R32 τ1 → S (k + 1) σ1 τ1 → EW D (aL s) s.heap (wL g σ1 τ1 v) H locs → lv_has ls 8 (lvL g b i) → W p l e room_1 s m #[Value.ref b] below meth c H locs cells slots Q (F0 m 2401 ls [])) : W p l e room_1 s m #[Value.ref b] below meth c H locs cells slots Q (F0 m 618 ls []) := by
  have C0 := hC.1
  obtain ⟨a1, e_a1, i_a1⟩ : ∃ a, a = (xs (i + 1).toNat).toInt ∧ in32 a := ⟨_, rfl, in32_toInt _⟩
  obtain ⟨a2, e_a2, i_a2⟩ : ∃ a, a = (xs (i + 2).toNat).toInt ∧ in32 a := ⟨_, rfl, in32_toInt _⟩
  obtain ⟨r, σ1, τ1, h_E, h_M, h_S⟩ := HN k σ τ a1 a2 hk hR hR9 hS i_a1 i_a2
  refine lv_aload_n C0.1 C0.2.1 dL_law_618 rfl (lv_at hl 1 rfl) ?_
  refine lv_aload_n C0.1 C0.2.1 dL_law_619 rfl (lv_at hl 0 rfl) ?_
  refine lv_iload C0.1 C0.2.1 dL_law_620 (lv_at hl 4 rfl) ?_
  refine lv_iconst (v := I 1) C0.1 C0.2.1 dL_law_622 rfl ?_
  refine x_add (v := i + 1) C0 rfl dL_law_623 ?_
  refine x_sld hC hE (by omega) (by omega) e_a1 dL_law_624 ?_
  refine lv_aload_n C0.1 C0.2.1 dL_law_625 rfl (lv_at hl 0 rfl) ?_
  refine lv_iload C0.1 C0.2.1 dL_law_626 (lv_at hl 4 rfl) ?_
  refine lv_iconst (v := I 2) C0.1 C0.2.1 dL_law_628 rfl ?_
  refine x_add (v := i + 2) C0 rfl dL_law_629 ?_
  refine x_sld hC hE (by omega) (by omega) e_a2 dL_law_630 ?_
  refine lawE_i (rest := []) (σ' := σ1) C0 hC.2.1 hE (c_E_path l D g hR i_a1 i_a2 h_E) kw_L_64 ⟨Nat.le_of_ble_eq_true rfl, Nat.le_of_ble_eq_true rfl⟩ rfl hl.1 rfl (Nat.le_of_ble_eq_true rfl) dL_law_631 hc (fun H locs hE ⟨i_r, hR⟩ => ?_)
  refine lv_aload_n C0.1 C0.2.1 dL_law_634 rfl (lv_at hl 2 rfl) ?_
  refine lv_aload_n C0.1 C0.2.1 dL_law_635 rfl (lv_at hl 0 rfl) ?_
  refine lv_iload C0.1 C0.2.1 dL_law_636 (lv_at hl 4 rfl) ?_
  refine lv_iconst (v := I 1) C0.1 C0.2.1 dL_law_638 rfl ?_
  refine x_add (v := i + 1) C0 rfl dL_law_639 ?_
  refine x_sld hC hE (by omega) (by omega) e_a1 dL_law_640 ?_
  refine lv_aload_n C0.1 C0.2.1 dL_law_641 rfl (lv_at hl 0 rfl) ?_
  refine lv_iload C0.1 C0.2.1 dL_law_642 (lv_at hl 4 rfl) ?_
  refine lv_iconst (v := I 2) C0.1 C0.2.1 dL_law_644 rfl ?_
  refine x_add (v := i + 2) C0 rfl dL_law_645 ?_
  refine x_sld hC hE (by omega) (by omega) e_a2 dL_law_646 ?_
  refine lawM_i (rest := [.int (I r)]) (τ' := τ1) C0 hC.2.1 hE (c_M_path l D g hR9 i_a1 i_a2 h_M) kw_L_67 ⟨Nat.le_of_ble_eq_true rfl, Nat.le_of_ble_eq_true rfl⟩ rfl hl.1 rfl (Nat.le_of_ble_eq_true rfl) dL_law_647 hc (fun H locs hE ⟨i_r9, hR9⟩ => ?_)
  refine x_icmp_eq C0 i_r i_r9 dL_law_650 (tgt := 2401) (by decide) (fun _ => ?_) (fun c9 => absurd rfl c9)
  exact next σ1 τ1 H locs ls hR hR9 h_S hE hl
def HS_11 (S : Nat → St → St → Prop) : Prop := ∀ (k : Nat) (σ τ : St) (z0 : Int) (z1 : Int) (z2 : Int) (z3 : Int), k < 512 → R32 σ → R32 τ → S k σ τ → in32 z0 → in32 z1 → in32 z2 → in32 z3 → ∃ (r : Int) (σ1 τ1 : St), E_sets σ z0 z1 z2 z3 = some (r, σ1) ∧ M_sets τ z0 z1 z2 z3 = some (r, τ1) ∧ S (k + 1) σ1 τ1
set_option maxRecDepth 100000 in
set_option maxHeartbeats 4000000 in
theorem law_c11 {p : Program} {l : Launch} {e : Env} {s : State} {m : MethodId} {below : List Frame} {meth : Method} {c : Code} {Q : State → Prop} {D : va_G} {g : Ad} {b L : Nat} {xs : Nat → Int32} {S : Nat → St → St → Prop} (HN : HS_11 S) (hC : LC p s m meth c b L xs D g) {k : Nat} {σ τ : St} {v i : Int} (hk : k < 512) (hR : R32 σ) (hR9 : R32 τ) (hS : S k σ τ) (h0 : 0 ≤ i) (hiL : i + 6 ≤ L) {H : Heap} {locs : List Loc} {cells slots : Nat} {ls : Array Slot} (hc : cells ≤ room_1.cells ∧ slots ≤ room_1.slots) (hE : EW D (aL s) s.heap (wL g σ τ v) H locs) (hl : lv_has ls 8 (lvL g b i))
    (next : ∀ (σ1 τ1 : St) (H : Heap) (locs : List Loc) (ls : Array Slot), R32 σ1 → R32 τ1 → S (k + 1) σ1 τ1 → EW D (aL s) s.heap (wL g σ1 τ1 v) H locs → lv_has ls 8 (lvL g b i) → W p l e room_1 s m #[Value.ref b] below meth c H locs cells slots Q (F0 m 2401 ls [])) : W p l e room_1 s m #[Value.ref b] below meth c H locs cells slots Q (F0 m 655 ls []) := by
  have C0 := hC.1
  obtain ⟨a1, e_a1, i_a1⟩ : ∃ a, a = (xs (i + 1).toNat).toInt ∧ in32 a := ⟨_, rfl, in32_toInt _⟩
  obtain ⟨a2, e_a2, i_a2⟩ : ∃ a, a = (xs (i + 2).toNat).toInt ∧ in32 a := ⟨_, rfl, in32_toInt _⟩
  obtain ⟨a3, e_a3, i_a3⟩ : ∃ a, a = (xs (i + 3).toNat).toInt ∧ in32 a := ⟨_, rfl, in32_toInt _⟩
  obtain ⟨a4, e_a4, i_a4⟩ : ∃ a, a = (xs (i + 4).toNat).toInt ∧ in32 a := ⟨_, rfl, in32_toInt _⟩
  obtain ⟨r, σ1, τ1, h_E, h_M, h_S⟩ := HN k σ τ a1 a2 a3 a4 hk hR hR9 hS i_a1 i_a2 i_a3 i_a4
  refine lv_aload_n C0.1 C0.2.1 dL_law_655 rfl (lv_at hl 1 rfl) ?_
  refine lv_aload_n C0.1 C0.2.1 dL_law_656 rfl (lv_at hl 0 rfl) ?_
  refine lv_iload C0.1 C0.2.1 dL_law_657 (lv_at hl 4 rfl) ?_
  refine lv_iconst (v := I 1) C0.1 C0.2.1 dL_law_659 rfl ?_
  refine x_add (v := i + 1) C0 rfl dL_law_660 ?_
  refine x_sld hC hE (by omega) (by omega) e_a1 dL_law_661 ?_
  refine lv_aload_n C0.1 C0.2.1 dL_law_662 rfl (lv_at hl 0 rfl) ?_
  refine lv_iload C0.1 C0.2.1 dL_law_663 (lv_at hl 4 rfl) ?_
  refine lv_iconst (v := I 2) C0.1 C0.2.1 dL_law_665 rfl ?_
  refine x_add (v := i + 2) C0 rfl dL_law_666 ?_
  refine x_sld hC hE (by omega) (by omega) e_a2 dL_law_667 ?_
  refine lv_aload_n C0.1 C0.2.1 dL_law_668 rfl (lv_at hl 0 rfl) ?_
  refine lv_iload C0.1 C0.2.1 dL_law_669 (lv_at hl 4 rfl) ?_
  refine lv_iconst (v := I 3) C0.1 C0.2.1 dL_law_671 rfl ?_
  refine x_add (v := i + 3) C0 rfl dL_law_672 ?_
  refine x_sld hC hE (by omega) (by omega) e_a3 dL_law_673 ?_
  refine lv_aload_n C0.1 C0.2.1 dL_law_674 rfl (lv_at hl 0 rfl) ?_
  refine lv_iload C0.1 C0.2.1 dL_law_675 (lv_at hl 4 rfl) ?_
  refine lv_iconst (v := I 4) C0.1 C0.2.1 dL_law_677 rfl ?_
  refine x_add (v := i + 4) C0 rfl dL_law_678 ?_
  refine x_sld hC hE (by omega) (by omega) e_a4 dL_law_679 ?_
  refine lawE_i (rest := []) (σ' := σ1) C0 hC.2.1 hE (c_E_sets l D g hR i_a1 i_a2 i_a3 i_a4 h_E) kw_L_68 ⟨Nat.le_of_ble_eq_true rfl, Nat.le_of_ble_eq_true rfl⟩ rfl hl.1 rfl (Nat.le_of_ble_eq_true rfl) dL_law_680 hc (fun H locs hE ⟨i_r, hR⟩ => ?_)
  refine lv_aload_n C0.1 C0.2.1 dL_law_683 rfl (lv_at hl 2 rfl) ?_
  refine lv_aload_n C0.1 C0.2.1 dL_law_684 rfl (lv_at hl 0 rfl) ?_
  refine lv_iload C0.1 C0.2.1 dL_law_685 (lv_at hl 4 rfl) ?_
  refine lv_iconst (v := I 1) C0.1 C0.2.1 dL_law_687 rfl ?_
  refine x_add (v := i + 1) C0 rfl dL_law_688 ?_
  refine x_sld hC hE (by omega) (by omega) e_a1 dL_law_689 ?_
  refine lv_aload_n C0.1 C0.2.1 dL_law_690 rfl (lv_at hl 0 rfl) ?_
  refine lv_iload C0.1 C0.2.1 dL_law_691 (lv_at hl 4 rfl) ?_
  refine lv_iconst (v := I 2) C0.1 C0.2.1 dL_law_693 rfl ?_
  refine x_add (v := i + 2) C0 rfl dL_law_694 ?_
  refine x_sld hC hE (by omega) (by omega) e_a2 dL_law_695 ?_
  refine lv_aload_n C0.1 C0.2.1 dL_law_696 rfl (lv_at hl 0 rfl) ?_
  refine lv_iload C0.1 C0.2.1 dL_law_697 (lv_at hl 4 rfl) ?_
  refine lv_iconst (v := I 3) C0.1 C0.2.1 dL_law_699 rfl ?_
  refine x_add (v := i + 3) C0 rfl dL_law_700 ?_
  refine x_sld hC hE (by omega) (by omega) e_a3 dL_law_701 ?_
  refine lv_aload_n C0.1 C0.2.1 dL_law_702 rfl (lv_at hl 0 rfl) ?_
  refine lv_iload C0.1 C0.2.1 dL_law_703 (lv_at hl 4 rfl) ?_
  refine lv_iconst (v := I 4) C0.1 C0.2.1 dL_law_705 rfl ?_
  refine x_add (v := i + 4) C0 rfl dL_law_706 ?_
  refine x_sld hC hE (by omega) (by omega) e_a4 dL_law_707 ?_
  refine lawM_i (rest := [.int (I r)]) (τ' := τ1) C0 hC.2.1 hE (c_M_sets l D g hR9 i_a1 i_a2 i_a3 i_a4 h_M) kw_L_71 ⟨Nat.le_of_ble_eq_true rfl, Nat.le_of_ble_eq_true rfl⟩ rfl hl.1 rfl (Nat.le_of_ble_eq_true rfl) dL_law_708 hc (fun H locs hE ⟨i_r9, hR9⟩ => ?_)
  refine x_icmp_eq C0 i_r i_r9 dL_law_711 (tgt := 2401) (by decide) (fun _ => ?_) (fun c9 => absurd rfl c9)
  exact next σ1 τ1 H locs ls hR hR9 h_S hE hl
def HS_12 (S : Nat → St → St → Prop) : Prop := ∀ (k : Nat) (σ τ : St) (z0 : Int) (z1 : Int) (z2 : Int), k < 512 → R32 σ → R32 τ → S k σ τ → in32 z0 → in32 z1 → in32 z2 → ∃ (r : Int) (σ1 τ1 : St), E_front σ z0 z1 z2 = some (r, σ1) ∧ M_front τ z0 z1 z2 = some (r, τ1) ∧ S (k + 1) σ1 τ1
set_option maxRecDepth 100000 in
set_option maxHeartbeats 4000000 in
theorem law_c12 {p : Program} {l : Launch} {e : Env} {s : State} {m : MethodId} {below : List Frame} {meth : Method} {c : Code} {Q : State → Prop} {D : va_G} {g : Ad} {b L : Nat} {xs : Nat → Int32} {S : Nat → St → St → Prop} (HN : HS_12 S) (hC : LC p s m meth c b L xs D g) {k : Nat} {σ τ : St} {v i : Int} (hk : k < 512) (hR : R32 σ) (hR9 : R32 τ) (hS : S k σ τ) (h0 : 0 ≤ i) (hiL : i + 6 ≤ L) {H : Heap} {locs : List Loc} {cells slots : Nat} {ls : Array Slot} (hc : cells ≤ room_1.cells ∧ slots ≤ room_1.slots) (hE : EW D (aL s) s.heap (wL g σ τ v) H locs) (hl : lv_has ls 8 (lvL g b i))
    (next : ∀ (σ1 τ1 : St) (H : Heap) (locs : List Loc) (ls : Array Slot), R32 σ1 → R32 τ1 → S (k + 1) σ1 τ1 → EW D (aL s) s.heap (wL g σ1 τ1 v) H locs → lv_has ls 8 (lvL g b i) → W p l e room_1 s m #[Value.ref b] below meth c H locs cells slots Q (F0 m 2401 ls [])) : W p l e room_1 s m #[Value.ref b] below meth c H locs cells slots Q (F0 m 716 ls []) := by
  have C0 := hC.1
  obtain ⟨a1, e_a1, i_a1⟩ : ∃ a, a = (xs (i + 1).toNat).toInt ∧ in32 a := ⟨_, rfl, in32_toInt _⟩
  obtain ⟨a2, e_a2, i_a2⟩ : ∃ a, a = (xs (i + 2).toNat).toInt ∧ in32 a := ⟨_, rfl, in32_toInt _⟩
  obtain ⟨a3, e_a3, i_a3⟩ : ∃ a, a = (xs (i + 3).toNat).toInt ∧ in32 a := ⟨_, rfl, in32_toInt _⟩
  obtain ⟨r, σ1, τ1, h_E, h_M, h_S⟩ := HN k σ τ a1 a2 a3 hk hR hR9 hS i_a1 i_a2 i_a3
  refine lv_aload_n C0.1 C0.2.1 dL_law_716 rfl (lv_at hl 1 rfl) ?_
  refine lv_aload_n C0.1 C0.2.1 dL_law_717 rfl (lv_at hl 0 rfl) ?_
  refine lv_iload C0.1 C0.2.1 dL_law_718 (lv_at hl 4 rfl) ?_
  refine lv_iconst (v := I 1) C0.1 C0.2.1 dL_law_720 rfl ?_
  refine x_add (v := i + 1) C0 rfl dL_law_721 ?_
  refine x_sld hC hE (by omega) (by omega) e_a1 dL_law_722 ?_
  refine lv_aload_n C0.1 C0.2.1 dL_law_723 rfl (lv_at hl 0 rfl) ?_
  refine lv_iload C0.1 C0.2.1 dL_law_724 (lv_at hl 4 rfl) ?_
  refine lv_iconst (v := I 2) C0.1 C0.2.1 dL_law_726 rfl ?_
  refine x_add (v := i + 2) C0 rfl dL_law_727 ?_
  refine x_sld hC hE (by omega) (by omega) e_a2 dL_law_728 ?_
  refine lv_aload_n C0.1 C0.2.1 dL_law_729 rfl (lv_at hl 0 rfl) ?_
  refine lv_iload C0.1 C0.2.1 dL_law_730 (lv_at hl 4 rfl) ?_
  refine lv_iconst (v := I 3) C0.1 C0.2.1 dL_law_732 rfl ?_
  refine x_add (v := i + 3) C0 rfl dL_law_733 ?_
  refine x_sld hC hE (by omega) (by omega) e_a3 dL_law_734 ?_
  refine lawE_i (rest := []) (σ' := σ1) C0 hC.2.1 hE (c_E_front l D g hR i_a1 i_a2 i_a3 h_E) kw_L_72 ⟨Nat.le_of_ble_eq_true rfl, Nat.le_of_ble_eq_true rfl⟩ rfl hl.1 rfl (Nat.le_of_ble_eq_true rfl) dL_law_735 hc (fun H locs hE ⟨i_r, hR⟩ => ?_)
  refine lv_aload_n C0.1 C0.2.1 dL_law_738 rfl (lv_at hl 2 rfl) ?_
  refine lv_aload_n C0.1 C0.2.1 dL_law_739 rfl (lv_at hl 0 rfl) ?_
  refine lv_iload C0.1 C0.2.1 dL_law_740 (lv_at hl 4 rfl) ?_
  refine lv_iconst (v := I 1) C0.1 C0.2.1 dL_law_742 rfl ?_
  refine x_add (v := i + 1) C0 rfl dL_law_743 ?_
  refine x_sld hC hE (by omega) (by omega) e_a1 dL_law_744 ?_
  refine lv_aload_n C0.1 C0.2.1 dL_law_745 rfl (lv_at hl 0 rfl) ?_
  refine lv_iload C0.1 C0.2.1 dL_law_746 (lv_at hl 4 rfl) ?_
  refine lv_iconst (v := I 2) C0.1 C0.2.1 dL_law_748 rfl ?_
  refine x_add (v := i + 2) C0 rfl dL_law_749 ?_
  refine x_sld hC hE (by omega) (by omega) e_a2 dL_law_750 ?_
  refine lv_aload_n C0.1 C0.2.1 dL_law_751 rfl (lv_at hl 0 rfl) ?_
  refine lv_iload C0.1 C0.2.1 dL_law_752 (lv_at hl 4 rfl) ?_
  refine lv_iconst (v := I 3) C0.1 C0.2.1 dL_law_754 rfl ?_
  refine x_add (v := i + 3) C0 rfl dL_law_755 ?_
  refine x_sld hC hE (by omega) (by omega) e_a3 dL_law_756 ?_
  refine lawM_i (rest := [.int (I r)]) (τ' := τ1) C0 hC.2.1 hE (c_M_front l D g hR9 i_a1 i_a2 i_a3 h_M) kw_L_75 ⟨Nat.le_of_ble_eq_true rfl, Nat.le_of_ble_eq_true rfl⟩ rfl hl.1 rfl (Nat.le_of_ble_eq_true rfl) dL_law_757 hc (fun H locs hE ⟨i_r9, hR9⟩ => ?_)
  refine x_icmp_eq C0 i_r i_r9 dL_law_760 (tgt := 2401) (by decide) (fun _ => ?_) (fun c9 => absurd rfl c9)
  exact next σ1 τ1 H locs ls hR hR9 h_S hE hl
def HS_13 (S : Nat → St → St → Prop) : Prop := ∀ (k : Nat) (σ τ : St) (z0 : Int) (z1 : Int) (z2 : Int), k < 512 → R32 σ → R32 τ → S k σ τ → in32 z0 → in32 z1 → in32 z2 → ∃ (r : Int) (σ1 τ1 : St), E_back σ z0 z1 z2 = some (r, σ1) ∧ M_back τ z0 z1 z2 = some (r, τ1) ∧ S (k + 1) σ1 τ1
set_option maxRecDepth 100000 in
set_option maxHeartbeats 4000000 in
theorem law_c13 {p : Program} {l : Launch} {e : Env} {s : State} {m : MethodId} {below : List Frame} {meth : Method} {c : Code} {Q : State → Prop} {D : va_G} {g : Ad} {b L : Nat} {xs : Nat → Int32} {S : Nat → St → St → Prop} (HN : HS_13 S) (hC : LC p s m meth c b L xs D g) {k : Nat} {σ τ : St} {v i : Int} (hk : k < 512) (hR : R32 σ) (hR9 : R32 τ) (hS : S k σ τ) (h0 : 0 ≤ i) (hiL : i + 6 ≤ L) {H : Heap} {locs : List Loc} {cells slots : Nat} {ls : Array Slot} (hc : cells ≤ room_1.cells ∧ slots ≤ room_1.slots) (hE : EW D (aL s) s.heap (wL g σ τ v) H locs) (hl : lv_has ls 8 (lvL g b i))
    (next : ∀ (σ1 τ1 : St) (H : Heap) (locs : List Loc) (ls : Array Slot), R32 σ1 → R32 τ1 → S (k + 1) σ1 τ1 → EW D (aL s) s.heap (wL g σ1 τ1 v) H locs → lv_has ls 8 (lvL g b i) → W p l e room_1 s m #[Value.ref b] below meth c H locs cells slots Q (F0 m 2401 ls [])) : W p l e room_1 s m #[Value.ref b] below meth c H locs cells slots Q (F0 m 765 ls []) := by
  have C0 := hC.1
  obtain ⟨a1, e_a1, i_a1⟩ : ∃ a, a = (xs (i + 1).toNat).toInt ∧ in32 a := ⟨_, rfl, in32_toInt _⟩
  obtain ⟨a2, e_a2, i_a2⟩ : ∃ a, a = (xs (i + 2).toNat).toInt ∧ in32 a := ⟨_, rfl, in32_toInt _⟩
  obtain ⟨a3, e_a3, i_a3⟩ : ∃ a, a = (xs (i + 3).toNat).toInt ∧ in32 a := ⟨_, rfl, in32_toInt _⟩
  obtain ⟨r, σ1, τ1, h_E, h_M, h_S⟩ := HN k σ τ a1 a2 a3 hk hR hR9 hS i_a1 i_a2 i_a3
  refine lv_aload_n C0.1 C0.2.1 dL_law_765 rfl (lv_at hl 1 rfl) ?_
  refine lv_aload_n C0.1 C0.2.1 dL_law_766 rfl (lv_at hl 0 rfl) ?_
  refine lv_iload C0.1 C0.2.1 dL_law_767 (lv_at hl 4 rfl) ?_
  refine lv_iconst (v := I 1) C0.1 C0.2.1 dL_law_769 rfl ?_
  refine x_add (v := i + 1) C0 rfl dL_law_770 ?_
  refine x_sld hC hE (by omega) (by omega) e_a1 dL_law_771 ?_
  refine lv_aload_n C0.1 C0.2.1 dL_law_772 rfl (lv_at hl 0 rfl) ?_
  refine lv_iload C0.1 C0.2.1 dL_law_773 (lv_at hl 4 rfl) ?_
  refine lv_iconst (v := I 2) C0.1 C0.2.1 dL_law_775 rfl ?_
  refine x_add (v := i + 2) C0 rfl dL_law_776 ?_
  refine x_sld hC hE (by omega) (by omega) e_a2 dL_law_777 ?_
  refine lv_aload_n C0.1 C0.2.1 dL_law_778 rfl (lv_at hl 0 rfl) ?_
  refine lv_iload C0.1 C0.2.1 dL_law_779 (lv_at hl 4 rfl) ?_
  refine lv_iconst (v := I 3) C0.1 C0.2.1 dL_law_781 rfl ?_
  refine x_add (v := i + 3) C0 rfl dL_law_782 ?_
  refine x_sld hC hE (by omega) (by omega) e_a3 dL_law_783 ?_
  refine lawE_i (rest := []) (σ' := σ1) C0 hC.2.1 hE (c_E_back l D g hR i_a1 i_a2 i_a3 h_E) kw_L_76 ⟨Nat.le_of_ble_eq_true rfl, Nat.le_of_ble_eq_true rfl⟩ rfl hl.1 rfl (Nat.le_of_ble_eq_true rfl) dL_law_784 hc (fun H locs hE ⟨i_r, hR⟩ => ?_)
  refine lv_aload_n C0.1 C0.2.1 dL_law_787 rfl (lv_at hl 2 rfl) ?_
  refine lv_aload_n C0.1 C0.2.1 dL_law_788 rfl (lv_at hl 0 rfl) ?_
  refine lv_iload C0.1 C0.2.1 dL_law_789 (lv_at hl 4 rfl) ?_
  refine lv_iconst (v := I 1) C0.1 C0.2.1 dL_law_791 rfl ?_
  refine x_add (v := i + 1) C0 rfl dL_law_792 ?_
  refine x_sld hC hE (by omega) (by omega) e_a1 dL_law_793 ?_
  refine lv_aload_n C0.1 C0.2.1 dL_law_794 rfl (lv_at hl 0 rfl) ?_
  refine lv_iload C0.1 C0.2.1 dL_law_795 (lv_at hl 4 rfl) ?_
  refine lv_iconst (v := I 2) C0.1 C0.2.1 dL_law_797 rfl ?_
  refine x_add (v := i + 2) C0 rfl dL_law_798 ?_
  refine x_sld hC hE (by omega) (by omega) e_a2 dL_law_799 ?_
  refine lv_aload_n C0.1 C0.2.1 dL_law_800 rfl (lv_at hl 0 rfl) ?_
  refine lv_iload C0.1 C0.2.1 dL_law_801 (lv_at hl 4 rfl) ?_
  refine lv_iconst (v := I 3) C0.1 C0.2.1 dL_law_803 rfl ?_
  refine x_add (v := i + 3) C0 rfl dL_law_804 ?_
  refine x_sld hC hE (by omega) (by omega) e_a3 dL_law_805 ?_
  refine lawM_i (rest := [.int (I r)]) (τ' := τ1) C0 hC.2.1 hE (c_M_back l D g hR9 i_a1 i_a2 i_a3 h_M) kw_L_79 ⟨Nat.le_of_ble_eq_true rfl, Nat.le_of_ble_eq_true rfl⟩ rfl hl.1 rfl (Nat.le_of_ble_eq_true rfl) dL_law_806 hc (fun H locs hE ⟨i_r9, hR9⟩ => ?_)
  refine x_icmp_eq C0 i_r i_r9 dL_law_809 (tgt := 2401) (by decide) (fun _ => ?_) (fun c9 => absurd rfl c9)
  exact next σ1 τ1 H locs ls hR hR9 h_S hE hl
def HS_14 (S : Nat → St → St → Prop) : Prop := ∀ (k : Nat) (σ τ : St) (z0 : Int) (z1 : Int), k < 512 → R32 σ → R32 τ → S k σ τ → in32 z0 → in32 z1 → ∃ (r : Int) (σ1 τ1 : St), E_first σ z0 z1 = some (r, σ1) ∧ M_first τ z0 z1 = some (r, τ1) ∧ S (k + 1) σ1 τ1
set_option maxRecDepth 100000 in
set_option maxHeartbeats 4000000 in
theorem law_c14 {p : Program} {l : Launch} {e : Env} {s : State} {m : MethodId} {below : List Frame} {meth : Method} {c : Code} {Q : State → Prop} {D : va_G} {g : Ad} {b L : Nat} {xs : Nat → Int32} {S : Nat → St → St → Prop} (HN : HS_14 S) (hC : LC p s m meth c b L xs D g) {k : Nat} {σ τ : St} {v i : Int} (hk : k < 512) (hR : R32 σ) (hR9 : R32 τ) (hS : S k σ τ) (h0 : 0 ≤ i) (hiL : i + 6 ≤ L) {H : Heap} {locs : List Loc} {cells slots : Nat} {ls : Array Slot} (hc : cells ≤ room_1.cells ∧ slots ≤ room_1.slots) (hE : EW D (aL s) s.heap (wL g σ τ v) H locs) (hl : lv_has ls 8 (lvL g b i))
    (next : ∀ (σ1 τ1 : St) (H : Heap) (locs : List Loc) (ls : Array Slot), R32 σ1 → R32 τ1 → S (k + 1) σ1 τ1 → EW D (aL s) s.heap (wL g σ1 τ1 v) H locs → lv_has ls 8 (lvL g b i) → W p l e room_1 s m #[Value.ref b] below meth c H locs cells slots Q (F0 m 2401 ls [])) : W p l e room_1 s m #[Value.ref b] below meth c H locs cells slots Q (F0 m 814 ls []) := by
  have C0 := hC.1
  obtain ⟨a1, e_a1, i_a1⟩ : ∃ a, a = (xs (i + 1).toNat).toInt ∧ in32 a := ⟨_, rfl, in32_toInt _⟩
  obtain ⟨a2, e_a2, i_a2⟩ : ∃ a, a = (xs (i + 2).toNat).toInt ∧ in32 a := ⟨_, rfl, in32_toInt _⟩
  obtain ⟨r, σ1, τ1, h_E, h_M, h_S⟩ := HN k σ τ a1 a2 hk hR hR9 hS i_a1 i_a2
  refine lv_aload_n C0.1 C0.2.1 dL_law_814 rfl (lv_at hl 1 rfl) ?_
  refine lv_aload_n C0.1 C0.2.1 dL_law_815 rfl (lv_at hl 0 rfl) ?_
  refine lv_iload C0.1 C0.2.1 dL_law_816 (lv_at hl 4 rfl) ?_
  refine lv_iconst (v := I 1) C0.1 C0.2.1 dL_law_818 rfl ?_
  refine x_add (v := i + 1) C0 rfl dL_law_819 ?_
  refine x_sld hC hE (by omega) (by omega) e_a1 dL_law_820 ?_
  refine lv_aload_n C0.1 C0.2.1 dL_law_821 rfl (lv_at hl 0 rfl) ?_
  refine lv_iload C0.1 C0.2.1 dL_law_822 (lv_at hl 4 rfl) ?_
  refine lv_iconst (v := I 2) C0.1 C0.2.1 dL_law_824 rfl ?_
  refine x_add (v := i + 2) C0 rfl dL_law_825 ?_
  refine x_sld hC hE (by omega) (by omega) e_a2 dL_law_826 ?_
  refine lawE_i (rest := []) (σ' := σ1) C0 hC.2.1 hE (c_E_first l D g hR i_a1 i_a2 h_E) kw_L_80 ⟨Nat.le_of_ble_eq_true rfl, Nat.le_of_ble_eq_true rfl⟩ rfl hl.1 rfl (Nat.le_of_ble_eq_true rfl) dL_law_827 hc (fun H locs hE ⟨i_r, hR⟩ => ?_)
  refine lv_aload_n C0.1 C0.2.1 dL_law_830 rfl (lv_at hl 2 rfl) ?_
  refine lv_aload_n C0.1 C0.2.1 dL_law_831 rfl (lv_at hl 0 rfl) ?_
  refine lv_iload C0.1 C0.2.1 dL_law_832 (lv_at hl 4 rfl) ?_
  refine lv_iconst (v := I 1) C0.1 C0.2.1 dL_law_834 rfl ?_
  refine x_add (v := i + 1) C0 rfl dL_law_835 ?_
  refine x_sld hC hE (by omega) (by omega) e_a1 dL_law_836 ?_
  refine lv_aload_n C0.1 C0.2.1 dL_law_837 rfl (lv_at hl 0 rfl) ?_
  refine lv_iload C0.1 C0.2.1 dL_law_838 (lv_at hl 4 rfl) ?_
  refine lv_iconst (v := I 2) C0.1 C0.2.1 dL_law_840 rfl ?_
  refine x_add (v := i + 2) C0 rfl dL_law_841 ?_
  refine x_sld hC hE (by omega) (by omega) e_a2 dL_law_842 ?_
  refine lawM_i (rest := [.int (I r)]) (τ' := τ1) C0 hC.2.1 hE (c_M_first l D g hR9 i_a1 i_a2 h_M) kw_L_83 ⟨Nat.le_of_ble_eq_true rfl, Nat.le_of_ble_eq_true rfl⟩ rfl hl.1 rfl (Nat.le_of_ble_eq_true rfl) dL_law_843 hc (fun H locs hE ⟨i_r9, hR9⟩ => ?_)
  refine x_icmp_eq C0 i_r i_r9 dL_law_846 (tgt := 2401) (by decide) (fun _ => ?_) (fun c9 => absurd rfl c9)
  exact next σ1 τ1 H locs ls hR hR9 h_S hE hl
def HS_15 (S : Nat → St → St → Prop) : Prop := ∀ (k : Nat) (σ τ : St) (z0 : Int) (z1 : Int), k < 512 → R32 σ → R32 τ → S k σ τ → in32 z0 → in32 z1 → ∃ (r : Int) (σ1 τ1 : St), E_last σ z0 z1 = some (r, σ1) ∧ M_last τ z0 z1 = some (r, τ1) ∧ S (k + 1) σ1 τ1
set_option maxRecDepth 100000 in
set_option maxHeartbeats 4000000 in
theorem law_c15 {p : Program} {l : Launch} {e : Env} {s : State} {m : MethodId} {below : List Frame} {meth : Method} {c : Code} {Q : State → Prop} {D : va_G} {g : Ad} {b L : Nat} {xs : Nat → Int32} {S : Nat → St → St → Prop} (HN : HS_15 S) (hC : LC p s m meth c b L xs D g) {k : Nat} {σ τ : St} {v i : Int} (hk : k < 512) (hR : R32 σ) (hR9 : R32 τ) (hS : S k σ τ) (h0 : 0 ≤ i) (hiL : i + 6 ≤ L) {H : Heap} {locs : List Loc} {cells slots : Nat} {ls : Array Slot} (hc : cells ≤ room_1.cells ∧ slots ≤ room_1.slots) (hE : EW D (aL s) s.heap (wL g σ τ v) H locs) (hl : lv_has ls 8 (lvL g b i))
    (next : ∀ (σ1 τ1 : St) (H : Heap) (locs : List Loc) (ls : Array Slot), R32 σ1 → R32 τ1 → S (k + 1) σ1 τ1 → EW D (aL s) s.heap (wL g σ1 τ1 v) H locs → lv_has ls 8 (lvL g b i) → W p l e room_1 s m #[Value.ref b] below meth c H locs cells slots Q (F0 m 2401 ls [])) : W p l e room_1 s m #[Value.ref b] below meth c H locs cells slots Q (F0 m 851 ls []) := by
  have C0 := hC.1
  obtain ⟨a1, e_a1, i_a1⟩ : ∃ a, a = (xs (i + 1).toNat).toInt ∧ in32 a := ⟨_, rfl, in32_toInt _⟩
  obtain ⟨a2, e_a2, i_a2⟩ : ∃ a, a = (xs (i + 2).toNat).toInt ∧ in32 a := ⟨_, rfl, in32_toInt _⟩
  obtain ⟨r, σ1, τ1, h_E, h_M, h_S⟩ := HN k σ τ a1 a2 hk hR hR9 hS i_a1 i_a2
  refine lv_aload_n C0.1 C0.2.1 dL_law_851 rfl (lv_at hl 1 rfl) ?_
  refine lv_aload_n C0.1 C0.2.1 dL_law_852 rfl (lv_at hl 0 rfl) ?_
  refine lv_iload C0.1 C0.2.1 dL_law_853 (lv_at hl 4 rfl) ?_
  refine lv_iconst (v := I 1) C0.1 C0.2.1 dL_law_855 rfl ?_
  refine x_add (v := i + 1) C0 rfl dL_law_856 ?_
  refine x_sld hC hE (by omega) (by omega) e_a1 dL_law_857 ?_
  refine lv_aload_n C0.1 C0.2.1 dL_law_858 rfl (lv_at hl 0 rfl) ?_
  refine lv_iload C0.1 C0.2.1 dL_law_859 (lv_at hl 4 rfl) ?_
  refine lv_iconst (v := I 2) C0.1 C0.2.1 dL_law_861 rfl ?_
  refine x_add (v := i + 2) C0 rfl dL_law_862 ?_
  refine x_sld hC hE (by omega) (by omega) e_a2 dL_law_863 ?_
  refine lawE_i (rest := []) (σ' := σ1) C0 hC.2.1 hE (c_E_last l D g hR i_a1 i_a2 h_E) kw_L_84 ⟨Nat.le_of_ble_eq_true rfl, Nat.le_of_ble_eq_true rfl⟩ rfl hl.1 rfl (Nat.le_of_ble_eq_true rfl) dL_law_864 hc (fun H locs hE ⟨i_r, hR⟩ => ?_)
  refine lv_aload_n C0.1 C0.2.1 dL_law_867 rfl (lv_at hl 2 rfl) ?_
  refine lv_aload_n C0.1 C0.2.1 dL_law_868 rfl (lv_at hl 0 rfl) ?_
  refine lv_iload C0.1 C0.2.1 dL_law_869 (lv_at hl 4 rfl) ?_
  refine lv_iconst (v := I 1) C0.1 C0.2.1 dL_law_871 rfl ?_
  refine x_add (v := i + 1) C0 rfl dL_law_872 ?_
  refine x_sld hC hE (by omega) (by omega) e_a1 dL_law_873 ?_
  refine lv_aload_n C0.1 C0.2.1 dL_law_874 rfl (lv_at hl 0 rfl) ?_
  refine lv_iload C0.1 C0.2.1 dL_law_875 (lv_at hl 4 rfl) ?_
  refine lv_iconst (v := I 2) C0.1 C0.2.1 dL_law_877 rfl ?_
  refine x_add (v := i + 2) C0 rfl dL_law_878 ?_
  refine x_sld hC hE (by omega) (by omega) e_a2 dL_law_879 ?_
  refine lawM_i (rest := [.int (I r)]) (τ' := τ1) C0 hC.2.1 hE (c_M_last l D g hR9 i_a1 i_a2 h_M) kw_L_87 ⟨Nat.le_of_ble_eq_true rfl, Nat.le_of_ble_eq_true rfl⟩ rfl hl.1 rfl (Nat.le_of_ble_eq_true rfl) dL_law_880 hc (fun H locs hE ⟨i_r9, hR9⟩ => ?_)
  refine x_icmp_eq C0 i_r i_r9 dL_law_883 (tgt := 2401) (by decide) (fun _ => ?_) (fun c9 => absurd rfl c9)
  exact next σ1 τ1 H locs ls hR hR9 h_S hE hl
def HS_16 (S : Nat → St → St → Prop) : Prop := ∀ (k : Nat) (σ τ : St) (z0 : Int) (z1 : Int) (z2 : Int) (z3 : Int) (z4 : Int), k < 512 → R32 σ → R32 τ → S k σ τ → in32 z0 → in32 z1 → in32 z2 → in32 z3 → in32 z4 → ∃ (r : Int) (σ1 τ1 : St), E_adds σ z0 z1 z2 z3 z4 = some (r, σ1) ∧ M_adds τ z0 z1 z2 z3 z4 = some (r, τ1) ∧ S (k + 1) σ1 τ1
set_option maxRecDepth 100000 in
set_option maxHeartbeats 4000000 in
theorem law_c16 {p : Program} {l : Launch} {e : Env} {s : State} {m : MethodId} {below : List Frame} {meth : Method} {c : Code} {Q : State → Prop} {D : va_G} {g : Ad} {b L : Nat} {xs : Nat → Int32} {S : Nat → St → St → Prop} (HN : HS_16 S) (hC : LC p s m meth c b L xs D g) {k : Nat} {σ τ : St} {v i : Int} (hk : k < 512) (hR : R32 σ) (hR9 : R32 τ) (hS : S k σ τ) (h0 : 0 ≤ i) (hiL : i + 6 ≤ L) {H : Heap} {locs : List Loc} {cells slots : Nat} {ls : Array Slot} (hc : cells ≤ room_1.cells ∧ slots ≤ room_1.slots) (hE : EW D (aL s) s.heap (wL g σ τ v) H locs) (hl : lv_has ls 8 (lvL g b i))
    (next : ∀ (σ1 τ1 : St) (H : Heap) (locs : List Loc) (ls : Array Slot), R32 σ1 → R32 τ1 → S (k + 1) σ1 τ1 → EW D (aL s) s.heap (wL g σ1 τ1 v) H locs → lv_has ls 8 (lvL g b i) → W p l e room_1 s m #[Value.ref b] below meth c H locs cells slots Q (F0 m 2401 ls [])) : W p l e room_1 s m #[Value.ref b] below meth c H locs cells slots Q (F0 m 888 ls []) := by
  have C0 := hC.1
  obtain ⟨a1, e_a1, i_a1⟩ : ∃ a, a = (xs (i + 1).toNat).toInt ∧ in32 a := ⟨_, rfl, in32_toInt _⟩
  obtain ⟨a2, e_a2, i_a2⟩ : ∃ a, a = (xs (i + 2).toNat).toInt ∧ in32 a := ⟨_, rfl, in32_toInt _⟩
  obtain ⟨a3, e_a3, i_a3⟩ : ∃ a, a = (xs (i + 3).toNat).toInt ∧ in32 a := ⟨_, rfl, in32_toInt _⟩
  obtain ⟨a4, e_a4, i_a4⟩ : ∃ a, a = (xs (i + 4).toNat).toInt ∧ in32 a := ⟨_, rfl, in32_toInt _⟩
  obtain ⟨a5, e_a5, i_a5⟩ : ∃ a, a = (xs (i + 5).toNat).toInt ∧ in32 a := ⟨_, rfl, in32_toInt _⟩
  obtain ⟨r, σ1, τ1, h_E, h_M, h_S⟩ := HN k σ τ a1 a2 a3 a4 a5 hk hR hR9 hS i_a1 i_a2 i_a3 i_a4 i_a5
  refine lv_aload_n C0.1 C0.2.1 dL_law_888 rfl (lv_at hl 1 rfl) ?_
  refine lv_aload_n C0.1 C0.2.1 dL_law_889 rfl (lv_at hl 0 rfl) ?_
  refine lv_iload C0.1 C0.2.1 dL_law_890 (lv_at hl 4 rfl) ?_
  refine lv_iconst (v := I 1) C0.1 C0.2.1 dL_law_892 rfl ?_
  refine x_add (v := i + 1) C0 rfl dL_law_893 ?_
  refine x_sld hC hE (by omega) (by omega) e_a1 dL_law_894 ?_
  refine lv_aload_n C0.1 C0.2.1 dL_law_895 rfl (lv_at hl 0 rfl) ?_
  refine lv_iload C0.1 C0.2.1 dL_law_896 (lv_at hl 4 rfl) ?_
  refine lv_iconst (v := I 2) C0.1 C0.2.1 dL_law_898 rfl ?_
  refine x_add (v := i + 2) C0 rfl dL_law_899 ?_
  refine x_sld hC hE (by omega) (by omega) e_a2 dL_law_900 ?_
  refine lv_aload_n C0.1 C0.2.1 dL_law_901 rfl (lv_at hl 0 rfl) ?_
  refine lv_iload C0.1 C0.2.1 dL_law_902 (lv_at hl 4 rfl) ?_
  refine lv_iconst (v := I 3) C0.1 C0.2.1 dL_law_904 rfl ?_
  refine x_add (v := i + 3) C0 rfl dL_law_905 ?_
  refine x_sld hC hE (by omega) (by omega) e_a3 dL_law_906 ?_
  refine lv_aload_n C0.1 C0.2.1 dL_law_907 rfl (lv_at hl 0 rfl) ?_
  refine lv_iload C0.1 C0.2.1 dL_law_908 (lv_at hl 4 rfl) ?_
  refine lv_iconst (v := I 4) C0.1 C0.2.1 dL_law_910 rfl ?_
  refine x_add (v := i + 4) C0 rfl dL_law_911 ?_
  refine x_sld hC hE (by omega) (by omega) e_a4 dL_law_912 ?_
  refine lv_aload_n C0.1 C0.2.1 dL_law_913 rfl (lv_at hl 0 rfl) ?_
  refine lv_iload C0.1 C0.2.1 dL_law_914 (lv_at hl 4 rfl) ?_
  refine lv_iconst (v := I 5) C0.1 C0.2.1 dL_law_916 rfl ?_
  refine x_add (v := i + 5) C0 rfl dL_law_917 ?_
  refine x_sld hC hE (by omega) (by omega) e_a5 dL_law_918 ?_
  refine lawE_i (rest := []) (σ' := σ1) C0 hC.2.1 hE (c_E_adds l D g hR i_a1 i_a2 i_a3 i_a4 i_a5 h_E) kw_L_88 ⟨Nat.le_of_ble_eq_true rfl, Nat.le_of_ble_eq_true rfl⟩ rfl hl.1 rfl (Nat.le_of_ble_eq_true rfl) dL_law_919 hc (fun H locs hE ⟨i_r, hR⟩ => ?_)
  refine lv_aload_n C0.1 C0.2.1 dL_law_922 rfl (lv_at hl 2 rfl) ?_
  refine lv_aload_n C0.1 C0.2.1 dL_law_923 rfl (lv_at hl 0 rfl) ?_
  refine lv_iload C0.1 C0.2.1 dL_law_924 (lv_at hl 4 rfl) ?_
  refine lv_iconst (v := I 1) C0.1 C0.2.1 dL_law_926 rfl ?_
  refine x_add (v := i + 1) C0 rfl dL_law_927 ?_
  refine x_sld hC hE (by omega) (by omega) e_a1 dL_law_928 ?_
  refine lv_aload_n C0.1 C0.2.1 dL_law_929 rfl (lv_at hl 0 rfl) ?_
  refine lv_iload C0.1 C0.2.1 dL_law_930 (lv_at hl 4 rfl) ?_
  refine lv_iconst (v := I 2) C0.1 C0.2.1 dL_law_932 rfl ?_
  refine x_add (v := i + 2) C0 rfl dL_law_933 ?_
  refine x_sld hC hE (by omega) (by omega) e_a2 dL_law_934 ?_
  refine lv_aload_n C0.1 C0.2.1 dL_law_935 rfl (lv_at hl 0 rfl) ?_
  refine lv_iload C0.1 C0.2.1 dL_law_936 (lv_at hl 4 rfl) ?_
  refine lv_iconst (v := I 3) C0.1 C0.2.1 dL_law_938 rfl ?_
  refine x_add (v := i + 3) C0 rfl dL_law_939 ?_
  refine x_sld hC hE (by omega) (by omega) e_a3 dL_law_940 ?_
  refine lv_aload_n C0.1 C0.2.1 dL_law_941 rfl (lv_at hl 0 rfl) ?_
  refine lv_iload C0.1 C0.2.1 dL_law_942 (lv_at hl 4 rfl) ?_
  refine lv_iconst (v := I 4) C0.1 C0.2.1 dL_law_944 rfl ?_
  refine x_add (v := i + 4) C0 rfl dL_law_945 ?_
  refine x_sld hC hE (by omega) (by omega) e_a4 dL_law_946 ?_
  refine lv_aload_n C0.1 C0.2.1 dL_law_947 rfl (lv_at hl 0 rfl) ?_
  refine lv_iload C0.1 C0.2.1 dL_law_948 (lv_at hl 4 rfl) ?_
  refine lv_iconst (v := I 5) C0.1 C0.2.1 dL_law_950 rfl ?_
  refine x_add (v := i + 5) C0 rfl dL_law_951 ?_
  refine x_sld hC hE (by omega) (by omega) e_a5 dL_law_952 ?_
  refine lawM_i (rest := [.int (I r)]) (τ' := τ1) C0 hC.2.1 hE (c_M_adds l D g hR9 i_a1 i_a2 i_a3 i_a4 i_a5 h_M) kw_L_92 ⟨Nat.le_of_ble_eq_true rfl, Nat.le_of_ble_eq_true rfl⟩ rfl hl.1 rfl (Nat.le_of_ble_eq_true rfl) dL_law_953 hc (fun H locs hE ⟨i_r9, hR9⟩ => ?_)
  refine x_icmp_eq C0 i_r i_r9 dL_law_956 (tgt := 2401) (by decide) (fun _ => ?_) (fun c9 => absurd rfl c9)
  exact next σ1 τ1 H locs ls hR hR9 h_S hE hl
def HS_17 (S : Nat → St → St → Prop) : Prop := ∀ (k : Nat) (σ τ : St) (z0 : Int) (z1 : Int) (z2 : Int), k < 512 → R32 σ → R32 τ → S k σ τ → in32 z0 → in32 z1 → in32 z2 → ∃ (r : Int) (σ1 τ1 : St), E_appends σ z0 z1 z2 = some (r, σ1) ∧ M_appends τ z0 z1 z2 = some (r, τ1) ∧ S (k + 1) σ1 τ1
set_option maxRecDepth 100000 in
set_option maxHeartbeats 4000000 in
theorem law_c17 {p : Program} {l : Launch} {e : Env} {s : State} {m : MethodId} {below : List Frame} {meth : Method} {c : Code} {Q : State → Prop} {D : va_G} {g : Ad} {b L : Nat} {xs : Nat → Int32} {S : Nat → St → St → Prop} (HN : HS_17 S) (hC : LC p s m meth c b L xs D g) {k : Nat} {σ τ : St} {v i : Int} (hk : k < 512) (hR : R32 σ) (hR9 : R32 τ) (hS : S k σ τ) (h0 : 0 ≤ i) (hiL : i + 6 ≤ L) {H : Heap} {locs : List Loc} {cells slots : Nat} {ls : Array Slot} (hc : cells ≤ room_1.cells ∧ slots ≤ room_1.slots) (hE : EW D (aL s) s.heap (wL g σ τ v) H locs) (hl : lv_has ls 8 (lvL g b i))
    (next : ∀ (σ1 τ1 : St) (H : Heap) (locs : List Loc) (ls : Array Slot), R32 σ1 → R32 τ1 → S (k + 1) σ1 τ1 → EW D (aL s) s.heap (wL g σ1 τ1 v) H locs → lv_has ls 8 (lvL g b i) → W p l e room_1 s m #[Value.ref b] below meth c H locs cells slots Q (F0 m 2401 ls [])) : W p l e room_1 s m #[Value.ref b] below meth c H locs cells slots Q (F0 m 961 ls []) := by
  have C0 := hC.1
  obtain ⟨a1, e_a1, i_a1⟩ : ∃ a, a = (xs (i + 1).toNat).toInt ∧ in32 a := ⟨_, rfl, in32_toInt _⟩
  obtain ⟨a2, e_a2, i_a2⟩ : ∃ a, a = (xs (i + 2).toNat).toInt ∧ in32 a := ⟨_, rfl, in32_toInt _⟩
  obtain ⟨a3, e_a3, i_a3⟩ : ∃ a, a = (xs (i + 3).toNat).toInt ∧ in32 a := ⟨_, rfl, in32_toInt _⟩
  obtain ⟨r, σ1, τ1, h_E, h_M, h_S⟩ := HN k σ τ a1 a2 a3 hk hR hR9 hS i_a1 i_a2 i_a3
  refine lv_aload_n C0.1 C0.2.1 dL_law_961 rfl (lv_at hl 1 rfl) ?_
  refine lv_aload_n C0.1 C0.2.1 dL_law_962 rfl (lv_at hl 0 rfl) ?_
  refine lv_iload C0.1 C0.2.1 dL_law_963 (lv_at hl 4 rfl) ?_
  refine lv_iconst (v := I 1) C0.1 C0.2.1 dL_law_965 rfl ?_
  refine x_add (v := i + 1) C0 rfl dL_law_966 ?_
  refine x_sld hC hE (by omega) (by omega) e_a1 dL_law_967 ?_
  refine lv_aload_n C0.1 C0.2.1 dL_law_968 rfl (lv_at hl 0 rfl) ?_
  refine lv_iload C0.1 C0.2.1 dL_law_969 (lv_at hl 4 rfl) ?_
  refine lv_iconst (v := I 2) C0.1 C0.2.1 dL_law_971 rfl ?_
  refine x_add (v := i + 2) C0 rfl dL_law_972 ?_
  refine x_sld hC hE (by omega) (by omega) e_a2 dL_law_973 ?_
  refine lv_aload_n C0.1 C0.2.1 dL_law_974 rfl (lv_at hl 0 rfl) ?_
  refine lv_iload C0.1 C0.2.1 dL_law_975 (lv_at hl 4 rfl) ?_
  refine lv_iconst (v := I 3) C0.1 C0.2.1 dL_law_977 rfl ?_
  refine x_add (v := i + 3) C0 rfl dL_law_978 ?_
  refine x_sld hC hE (by omega) (by omega) e_a3 dL_law_979 ?_
  refine lawE_i (rest := []) (σ' := σ1) C0 hC.2.1 hE (c_E_appends l D g hR i_a1 i_a2 i_a3 h_E) kw_L_93 ⟨Nat.le_of_ble_eq_true rfl, Nat.le_of_ble_eq_true rfl⟩ rfl hl.1 rfl (Nat.le_of_ble_eq_true rfl) dL_law_980 hc (fun H locs hE ⟨i_r, hR⟩ => ?_)
  refine lv_aload_n C0.1 C0.2.1 dL_law_983 rfl (lv_at hl 2 rfl) ?_
  refine lv_aload_n C0.1 C0.2.1 dL_law_984 rfl (lv_at hl 0 rfl) ?_
  refine lv_iload C0.1 C0.2.1 dL_law_985 (lv_at hl 4 rfl) ?_
  refine lv_iconst (v := I 1) C0.1 C0.2.1 dL_law_987 rfl ?_
  refine x_add (v := i + 1) C0 rfl dL_law_988 ?_
  refine x_sld hC hE (by omega) (by omega) e_a1 dL_law_989 ?_
  refine lv_aload_n C0.1 C0.2.1 dL_law_990 rfl (lv_at hl 0 rfl) ?_
  refine lv_iload C0.1 C0.2.1 dL_law_991 (lv_at hl 4 rfl) ?_
  refine lv_iconst (v := I 2) C0.1 C0.2.1 dL_law_993 rfl ?_
  refine x_add (v := i + 2) C0 rfl dL_law_994 ?_
  refine x_sld hC hE (by omega) (by omega) e_a2 dL_law_995 ?_
  refine lv_aload_n C0.1 C0.2.1 dL_law_996 rfl (lv_at hl 0 rfl) ?_
  refine lv_iload C0.1 C0.2.1 dL_law_997 (lv_at hl 4 rfl) ?_
  refine lv_iconst (v := I 3) C0.1 C0.2.1 dL_law_999 rfl ?_
  refine x_add (v := i + 3) C0 rfl dL_law_1000 ?_
  refine x_sld hC hE (by omega) (by omega) e_a3 dL_law_1001 ?_
  refine lawM_i (rest := [.int (I r)]) (τ' := τ1) C0 hC.2.1 hE (c_M_appends l D g hR9 i_a1 i_a2 i_a3 h_M) kw_L_96 ⟨Nat.le_of_ble_eq_true rfl, Nat.le_of_ble_eq_true rfl⟩ rfl hl.1 rfl (Nat.le_of_ble_eq_true rfl) dL_law_1002 hc (fun H locs hE ⟨i_r9, hR9⟩ => ?_)
  refine x_icmp_eq C0 i_r i_r9 dL_law_1005 (tgt := 2401) (by decide) (fun _ => ?_) (fun c9 => absurd rfl c9)
  exact next σ1 τ1 H locs ls hR hR9 h_S hE hl
def HS_18 (S : Nat → St → St → Prop) : Prop := ∀ (k : Nat) (σ τ : St) (z0 : Int) (z1 : Int) (z2 : Int), k < 512 → R32 σ → R32 τ → S k σ τ → in32 z0 → in32 z1 → in32 z2 → ∃ (r : Int) (σ1 τ1 : St), E_turned σ z0 z1 z2 = some (r, σ1) ∧ M_turned τ z0 z1 z2 = some (r, τ1) ∧ S (k + 1) σ1 τ1
set_option maxRecDepth 100000 in
set_option maxHeartbeats 4000000 in
theorem law_c18 {p : Program} {l : Launch} {e : Env} {s : State} {m : MethodId} {below : List Frame} {meth : Method} {c : Code} {Q : State → Prop} {D : va_G} {g : Ad} {b L : Nat} {xs : Nat → Int32} {S : Nat → St → St → Prop} (HN : HS_18 S) (hC : LC p s m meth c b L xs D g) {k : Nat} {σ τ : St} {v i : Int} (hk : k < 512) (hR : R32 σ) (hR9 : R32 τ) (hS : S k σ τ) (h0 : 0 ≤ i) (hiL : i + 6 ≤ L) {H : Heap} {locs : List Loc} {cells slots : Nat} {ls : Array Slot} (hc : cells ≤ room_1.cells ∧ slots ≤ room_1.slots) (hE : EW D (aL s) s.heap (wL g σ τ v) H locs) (hl : lv_has ls 8 (lvL g b i))
    (next : ∀ (σ1 τ1 : St) (H : Heap) (locs : List Loc) (ls : Array Slot), R32 σ1 → R32 τ1 → S (k + 1) σ1 τ1 → EW D (aL s) s.heap (wL g σ1 τ1 v) H locs → lv_has ls 8 (lvL g b i) → W p l e room_1 s m #[Value.ref b] below meth c H locs cells slots Q (F0 m 2401 ls [])) : W p l e room_1 s m #[Value.ref b] below meth c H locs cells slots Q (F0 m 1010 ls []) := by
  have C0 := hC.1
  obtain ⟨a1, e_a1, i_a1⟩ : ∃ a, a = (xs (i + 1).toNat).toInt ∧ in32 a := ⟨_, rfl, in32_toInt _⟩
  obtain ⟨a2, e_a2, i_a2⟩ : ∃ a, a = (xs (i + 2).toNat).toInt ∧ in32 a := ⟨_, rfl, in32_toInt _⟩
  obtain ⟨a3, e_a3, i_a3⟩ : ∃ a, a = (xs (i + 3).toNat).toInt ∧ in32 a := ⟨_, rfl, in32_toInt _⟩
  obtain ⟨r, σ1, τ1, h_E, h_M, h_S⟩ := HN k σ τ a1 a2 a3 hk hR hR9 hS i_a1 i_a2 i_a3
  refine lv_aload_n C0.1 C0.2.1 dL_law_1010 rfl (lv_at hl 1 rfl) ?_
  refine lv_aload_n C0.1 C0.2.1 dL_law_1011 rfl (lv_at hl 0 rfl) ?_
  refine lv_iload C0.1 C0.2.1 dL_law_1012 (lv_at hl 4 rfl) ?_
  refine lv_iconst (v := I 1) C0.1 C0.2.1 dL_law_1014 rfl ?_
  refine x_add (v := i + 1) C0 rfl dL_law_1015 ?_
  refine x_sld hC hE (by omega) (by omega) e_a1 dL_law_1016 ?_
  refine lv_aload_n C0.1 C0.2.1 dL_law_1017 rfl (lv_at hl 0 rfl) ?_
  refine lv_iload C0.1 C0.2.1 dL_law_1018 (lv_at hl 4 rfl) ?_
  refine lv_iconst (v := I 2) C0.1 C0.2.1 dL_law_1020 rfl ?_
  refine x_add (v := i + 2) C0 rfl dL_law_1021 ?_
  refine x_sld hC hE (by omega) (by omega) e_a2 dL_law_1022 ?_
  refine lv_aload_n C0.1 C0.2.1 dL_law_1023 rfl (lv_at hl 0 rfl) ?_
  refine lv_iload C0.1 C0.2.1 dL_law_1024 (lv_at hl 4 rfl) ?_
  refine lv_iconst (v := I 3) C0.1 C0.2.1 dL_law_1026 rfl ?_
  refine x_add (v := i + 3) C0 rfl dL_law_1027 ?_
  refine x_sld hC hE (by omega) (by omega) e_a3 dL_law_1028 ?_
  refine lawE_i (rest := []) (σ' := σ1) C0 hC.2.1 hE (c_E_turned l D g hR i_a1 i_a2 i_a3 h_E) kw_L_97 ⟨Nat.le_of_ble_eq_true rfl, Nat.le_of_ble_eq_true rfl⟩ rfl hl.1 rfl (Nat.le_of_ble_eq_true rfl) dL_law_1029 hc (fun H locs hE ⟨i_r, hR⟩ => ?_)
  refine lv_aload_n C0.1 C0.2.1 dL_law_1032 rfl (lv_at hl 2 rfl) ?_
  refine lv_aload_n C0.1 C0.2.1 dL_law_1033 rfl (lv_at hl 0 rfl) ?_
  refine lv_iload C0.1 C0.2.1 dL_law_1034 (lv_at hl 4 rfl) ?_
  refine lv_iconst (v := I 1) C0.1 C0.2.1 dL_law_1036 rfl ?_
  refine x_add (v := i + 1) C0 rfl dL_law_1037 ?_
  refine x_sld hC hE (by omega) (by omega) e_a1 dL_law_1038 ?_
  refine lv_aload_n C0.1 C0.2.1 dL_law_1039 rfl (lv_at hl 0 rfl) ?_
  refine lv_iload C0.1 C0.2.1 dL_law_1040 (lv_at hl 4 rfl) ?_
  refine lv_iconst (v := I 2) C0.1 C0.2.1 dL_law_1042 rfl ?_
  refine x_add (v := i + 2) C0 rfl dL_law_1043 ?_
  refine x_sld hC hE (by omega) (by omega) e_a2 dL_law_1044 ?_
  refine lv_aload_n C0.1 C0.2.1 dL_law_1045 rfl (lv_at hl 0 rfl) ?_
  refine lv_iload C0.1 C0.2.1 dL_law_1046 (lv_at hl 4 rfl) ?_
  refine lv_iconst (v := I 3) C0.1 C0.2.1 dL_law_1048 rfl ?_
  refine x_add (v := i + 3) C0 rfl dL_law_1049 ?_
  refine x_sld hC hE (by omega) (by omega) e_a3 dL_law_1050 ?_
  refine lawM_i (rest := [.int (I r)]) (τ' := τ1) C0 hC.2.1 hE (c_M_turned l D g hR9 i_a1 i_a2 i_a3 h_M) kw_L_100 ⟨Nat.le_of_ble_eq_true rfl, Nat.le_of_ble_eq_true rfl⟩ rfl hl.1 rfl (Nat.le_of_ble_eq_true rfl) dL_law_1051 hc (fun H locs hE ⟨i_r9, hR9⟩ => ?_)
  refine x_icmp_eq C0 i_r i_r9 dL_law_1054 (tgt := 2401) (by decide) (fun _ => ?_) (fun c9 => absurd rfl c9)
  exact next σ1 τ1 H locs ls hR hR9 h_S hE hl
def HS_19 (S : Nat → St → St → Prop) : Prop := ∀ (k : Nat) (σ τ : St) (z0 : Int) (z1 : Int), k < 512 → R32 σ → R32 τ → S k σ τ → in32 z0 → in32 z1 → ∃ (r : Int) (σ1 τ1 : St), E_reverses σ z0 z1 = some (r, σ1) ∧ M_reverses τ z0 z1 = some (r, τ1) ∧ S (k + 1) σ1 τ1
set_option maxRecDepth 100000 in
set_option maxHeartbeats 4000000 in
theorem law_c19 {p : Program} {l : Launch} {e : Env} {s : State} {m : MethodId} {below : List Frame} {meth : Method} {c : Code} {Q : State → Prop} {D : va_G} {g : Ad} {b L : Nat} {xs : Nat → Int32} {S : Nat → St → St → Prop} (HN : HS_19 S) (hC : LC p s m meth c b L xs D g) {k : Nat} {σ τ : St} {v i : Int} (hk : k < 512) (hR : R32 σ) (hR9 : R32 τ) (hS : S k σ τ) (h0 : 0 ≤ i) (hiL : i + 6 ≤ L) {H : Heap} {locs : List Loc} {cells slots : Nat} {ls : Array Slot} (hc : cells ≤ room_1.cells ∧ slots ≤ room_1.slots) (hE : EW D (aL s) s.heap (wL g σ τ v) H locs) (hl : lv_has ls 8 (lvL g b i))
    (next : ∀ (σ1 τ1 : St) (H : Heap) (locs : List Loc) (ls : Array Slot), R32 σ1 → R32 τ1 → S (k + 1) σ1 τ1 → EW D (aL s) s.heap (wL g σ1 τ1 v) H locs → lv_has ls 8 (lvL g b i) → W p l e room_1 s m #[Value.ref b] below meth c H locs cells slots Q (F0 m 2401 ls [])) : W p l e room_1 s m #[Value.ref b] below meth c H locs cells slots Q (F0 m 1059 ls []) := by
  have C0 := hC.1
  obtain ⟨a1, e_a1, i_a1⟩ : ∃ a, a = (xs (i + 1).toNat).toInt ∧ in32 a := ⟨_, rfl, in32_toInt _⟩
  obtain ⟨a2, e_a2, i_a2⟩ : ∃ a, a = (xs (i + 2).toNat).toInt ∧ in32 a := ⟨_, rfl, in32_toInt _⟩
  obtain ⟨r, σ1, τ1, h_E, h_M, h_S⟩ := HN k σ τ a1 a2 hk hR hR9 hS i_a1 i_a2
  refine lv_aload_n C0.1 C0.2.1 dL_law_1059 rfl (lv_at hl 1 rfl) ?_
  refine lv_aload_n C0.1 C0.2.1 dL_law_1060 rfl (lv_at hl 0 rfl) ?_
  refine lv_iload C0.1 C0.2.1 dL_law_1061 (lv_at hl 4 rfl) ?_
  refine lv_iconst (v := I 1) C0.1 C0.2.1 dL_law_1063 rfl ?_
  refine x_add (v := i + 1) C0 rfl dL_law_1064 ?_
  refine x_sld hC hE (by omega) (by omega) e_a1 dL_law_1065 ?_
  refine lv_aload_n C0.1 C0.2.1 dL_law_1066 rfl (lv_at hl 0 rfl) ?_
  refine lv_iload C0.1 C0.2.1 dL_law_1067 (lv_at hl 4 rfl) ?_
  refine lv_iconst (v := I 2) C0.1 C0.2.1 dL_law_1069 rfl ?_
  refine x_add (v := i + 2) C0 rfl dL_law_1070 ?_
  refine x_sld hC hE (by omega) (by omega) e_a2 dL_law_1071 ?_
  refine lawE_i (rest := []) (σ' := σ1) C0 hC.2.1 hE (c_E_reverses l D g hR i_a1 i_a2 h_E) kw_L_101 ⟨Nat.le_of_ble_eq_true rfl, Nat.le_of_ble_eq_true rfl⟩ rfl hl.1 rfl (Nat.le_of_ble_eq_true rfl) dL_law_1072 hc (fun H locs hE ⟨i_r, hR⟩ => ?_)
  refine lv_aload_n C0.1 C0.2.1 dL_law_1075 rfl (lv_at hl 2 rfl) ?_
  refine lv_aload_n C0.1 C0.2.1 dL_law_1076 rfl (lv_at hl 0 rfl) ?_
  refine lv_iload C0.1 C0.2.1 dL_law_1077 (lv_at hl 4 rfl) ?_
  refine lv_iconst (v := I 1) C0.1 C0.2.1 dL_law_1079 rfl ?_
  refine x_add (v := i + 1) C0 rfl dL_law_1080 ?_
  refine x_sld hC hE (by omega) (by omega) e_a1 dL_law_1081 ?_
  refine lv_aload_n C0.1 C0.2.1 dL_law_1082 rfl (lv_at hl 0 rfl) ?_
  refine lv_iload C0.1 C0.2.1 dL_law_1083 (lv_at hl 4 rfl) ?_
  refine lv_iconst (v := I 2) C0.1 C0.2.1 dL_law_1085 rfl ?_
  refine x_add (v := i + 2) C0 rfl dL_law_1086 ?_
  refine x_sld hC hE (by omega) (by omega) e_a2 dL_law_1087 ?_
  refine lawM_i (rest := [.int (I r)]) (τ' := τ1) C0 hC.2.1 hE (c_M_reverses l D g hR9 i_a1 i_a2 h_M) kw_L_104 ⟨Nat.le_of_ble_eq_true rfl, Nat.le_of_ble_eq_true rfl⟩ rfl hl.1 rfl (Nat.le_of_ble_eq_true rfl) dL_law_1088 hc (fun H locs hE ⟨i_r9, hR9⟩ => ?_)
  refine x_icmp_eq C0 i_r i_r9 dL_law_1091 (tgt := 2401) (by decide) (fun _ => ?_) (fun c9 => absurd rfl c9)
  exact next σ1 τ1 H locs ls hR hR9 h_S hE hl
def HS_20 (S : Nat → St → St → Prop) : Prop := ∀ (k : Nat) (σ τ : St) (z0 : Int) (z1 : Int) (z2 : Int), k < 512 → R32 σ → R32 τ → S k σ τ → in32 z0 → in32 z1 → in32 z2 → ∃ (r : Int) (σ1 τ1 : St), E_keeps σ z0 z1 z2 = some (r, σ1) ∧ M_keeps τ z0 z1 z2 = some (r, τ1) ∧ S (k + 1) σ1 τ1
set_option maxRecDepth 100000 in
set_option maxHeartbeats 4000000 in
theorem law_c20 {p : Program} {l : Launch} {e : Env} {s : State} {m : MethodId} {below : List Frame} {meth : Method} {c : Code} {Q : State → Prop} {D : va_G} {g : Ad} {b L : Nat} {xs : Nat → Int32} {S : Nat → St → St → Prop} (HN : HS_20 S) (hC : LC p s m meth c b L xs D g) {k : Nat} {σ τ : St} {v i : Int} (hk : k < 512) (hR : R32 σ) (hR9 : R32 τ) (hS : S k σ τ) (h0 : 0 ≤ i) (hiL : i + 6 ≤ L) {H : Heap} {locs : List Loc} {cells slots : Nat} {ls : Array Slot} (hc : cells ≤ room_1.cells ∧ slots ≤ room_1.slots) (hE : EW D (aL s) s.heap (wL g σ τ v) H locs) (hl : lv_has ls 8 (lvL g b i))
    (next : ∀ (σ1 τ1 : St) (H : Heap) (locs : List Loc) (ls : Array Slot), R32 σ1 → R32 τ1 → S (k + 1) σ1 τ1 → EW D (aL s) s.heap (wL g σ1 τ1 v) H locs → lv_has ls 8 (lvL g b i) → W p l e room_1 s m #[Value.ref b] below meth c H locs cells slots Q (F0 m 2401 ls [])) : W p l e room_1 s m #[Value.ref b] below meth c H locs cells slots Q (F0 m 1096 ls []) := by
  have C0 := hC.1
  obtain ⟨a1, e_a1, i_a1⟩ : ∃ a, a = (xs (i + 1).toNat).toInt ∧ in32 a := ⟨_, rfl, in32_toInt _⟩
  obtain ⟨a2, e_a2, i_a2⟩ : ∃ a, a = (xs (i + 2).toNat).toInt ∧ in32 a := ⟨_, rfl, in32_toInt _⟩
  obtain ⟨a3, e_a3, i_a3⟩ : ∃ a, a = (xs (i + 3).toNat).toInt ∧ in32 a := ⟨_, rfl, in32_toInt _⟩
  obtain ⟨r, σ1, τ1, h_E, h_M, h_S⟩ := HN k σ τ a1 a2 a3 hk hR hR9 hS i_a1 i_a2 i_a3
  refine lv_aload_n C0.1 C0.2.1 dL_law_1096 rfl (lv_at hl 1 rfl) ?_
  refine lv_aload_n C0.1 C0.2.1 dL_law_1097 rfl (lv_at hl 0 rfl) ?_
  refine lv_iload C0.1 C0.2.1 dL_law_1098 (lv_at hl 4 rfl) ?_
  refine lv_iconst (v := I 1) C0.1 C0.2.1 dL_law_1100 rfl ?_
  refine x_add (v := i + 1) C0 rfl dL_law_1101 ?_
  refine x_sld hC hE (by omega) (by omega) e_a1 dL_law_1102 ?_
  refine lv_aload_n C0.1 C0.2.1 dL_law_1103 rfl (lv_at hl 0 rfl) ?_
  refine lv_iload C0.1 C0.2.1 dL_law_1104 (lv_at hl 4 rfl) ?_
  refine lv_iconst (v := I 2) C0.1 C0.2.1 dL_law_1106 rfl ?_
  refine x_add (v := i + 2) C0 rfl dL_law_1107 ?_
  refine x_sld hC hE (by omega) (by omega) e_a2 dL_law_1108 ?_
  refine lv_aload_n C0.1 C0.2.1 dL_law_1109 rfl (lv_at hl 0 rfl) ?_
  refine lv_iload C0.1 C0.2.1 dL_law_1110 (lv_at hl 4 rfl) ?_
  refine lv_iconst (v := I 3) C0.1 C0.2.1 dL_law_1112 rfl ?_
  refine x_add (v := i + 3) C0 rfl dL_law_1113 ?_
  refine x_sld hC hE (by omega) (by omega) e_a3 dL_law_1114 ?_
  refine lawE_i (rest := []) (σ' := σ1) C0 hC.2.1 hE (c_E_keeps l D g hR i_a1 i_a2 i_a3 h_E) kw_L_105 ⟨Nat.le_of_ble_eq_true rfl, Nat.le_of_ble_eq_true rfl⟩ rfl hl.1 rfl (Nat.le_of_ble_eq_true rfl) dL_law_1115 hc (fun H locs hE ⟨i_r, hR⟩ => ?_)
  refine lv_aload_n C0.1 C0.2.1 dL_law_1118 rfl (lv_at hl 2 rfl) ?_
  refine lv_aload_n C0.1 C0.2.1 dL_law_1119 rfl (lv_at hl 0 rfl) ?_
  refine lv_iload C0.1 C0.2.1 dL_law_1120 (lv_at hl 4 rfl) ?_
  refine lv_iconst (v := I 1) C0.1 C0.2.1 dL_law_1122 rfl ?_
  refine x_add (v := i + 1) C0 rfl dL_law_1123 ?_
  refine x_sld hC hE (by omega) (by omega) e_a1 dL_law_1124 ?_
  refine lv_aload_n C0.1 C0.2.1 dL_law_1125 rfl (lv_at hl 0 rfl) ?_
  refine lv_iload C0.1 C0.2.1 dL_law_1126 (lv_at hl 4 rfl) ?_
  refine lv_iconst (v := I 2) C0.1 C0.2.1 dL_law_1128 rfl ?_
  refine x_add (v := i + 2) C0 rfl dL_law_1129 ?_
  refine x_sld hC hE (by omega) (by omega) e_a2 dL_law_1130 ?_
  refine lv_aload_n C0.1 C0.2.1 dL_law_1131 rfl (lv_at hl 0 rfl) ?_
  refine lv_iload C0.1 C0.2.1 dL_law_1132 (lv_at hl 4 rfl) ?_
  refine lv_iconst (v := I 3) C0.1 C0.2.1 dL_law_1134 rfl ?_
  refine x_add (v := i + 3) C0 rfl dL_law_1135 ?_
  refine x_sld hC hE (by omega) (by omega) e_a3 dL_law_1136 ?_
  refine lawM_i (rest := [.int (I r)]) (τ' := τ1) C0 hC.2.1 hE (c_M_keeps l D g hR9 i_a1 i_a2 i_a3 h_M) kw_L_108 ⟨Nat.le_of_ble_eq_true rfl, Nat.le_of_ble_eq_true rfl⟩ rfl hl.1 rfl (Nat.le_of_ble_eq_true rfl) dL_law_1137 hc (fun H locs hE ⟨i_r9, hR9⟩ => ?_)
  refine x_icmp_eq C0 i_r i_r9 dL_law_1140 (tgt := 2401) (by decide) (fun _ => ?_) (fun c9 => absurd rfl c9)
  exact next σ1 τ1 H locs ls hR hR9 h_S hE hl
def HS_21 (S : Nat → St → St → Prop) : Prop := ∀ (k : Nat) (σ τ : St) (z0 : Int) (z1 : Int) (z2 : Int), k < 512 → R32 σ → R32 τ → S k σ τ → in32 z0 → in32 z1 → in32 z2 → ∃ (r : Int) (σ1 τ1 : St), E_skips σ z0 z1 z2 = some (r, σ1) ∧ M_skips τ z0 z1 z2 = some (r, τ1) ∧ S (k + 1) σ1 τ1
set_option maxRecDepth 100000 in
set_option maxHeartbeats 4000000 in
theorem law_c21 {p : Program} {l : Launch} {e : Env} {s : State} {m : MethodId} {below : List Frame} {meth : Method} {c : Code} {Q : State → Prop} {D : va_G} {g : Ad} {b L : Nat} {xs : Nat → Int32} {S : Nat → St → St → Prop} (HN : HS_21 S) (hC : LC p s m meth c b L xs D g) {k : Nat} {σ τ : St} {v i : Int} (hk : k < 512) (hR : R32 σ) (hR9 : R32 τ) (hS : S k σ τ) (h0 : 0 ≤ i) (hiL : i + 6 ≤ L) {H : Heap} {locs : List Loc} {cells slots : Nat} {ls : Array Slot} (hc : cells ≤ room_1.cells ∧ slots ≤ room_1.slots) (hE : EW D (aL s) s.heap (wL g σ τ v) H locs) (hl : lv_has ls 8 (lvL g b i))
    (next : ∀ (σ1 τ1 : St) (H : Heap) (locs : List Loc) (ls : Array Slot), R32 σ1 → R32 τ1 → S (k + 1) σ1 τ1 → EW D (aL s) s.heap (wL g σ1 τ1 v) H locs → lv_has ls 8 (lvL g b i) → W p l e room_1 s m #[Value.ref b] below meth c H locs cells slots Q (F0 m 2401 ls [])) : W p l e room_1 s m #[Value.ref b] below meth c H locs cells slots Q (F0 m 1145 ls []) := by
  have C0 := hC.1
  obtain ⟨a1, e_a1, i_a1⟩ : ∃ a, a = (xs (i + 1).toNat).toInt ∧ in32 a := ⟨_, rfl, in32_toInt _⟩
  obtain ⟨a2, e_a2, i_a2⟩ : ∃ a, a = (xs (i + 2).toNat).toInt ∧ in32 a := ⟨_, rfl, in32_toInt _⟩
  obtain ⟨a3, e_a3, i_a3⟩ : ∃ a, a = (xs (i + 3).toNat).toInt ∧ in32 a := ⟨_, rfl, in32_toInt _⟩
  obtain ⟨r, σ1, τ1, h_E, h_M, h_S⟩ := HN k σ τ a1 a2 a3 hk hR hR9 hS i_a1 i_a2 i_a3
  refine lv_aload_n C0.1 C0.2.1 dL_law_1145 rfl (lv_at hl 1 rfl) ?_
  refine lv_aload_n C0.1 C0.2.1 dL_law_1146 rfl (lv_at hl 0 rfl) ?_
  refine lv_iload C0.1 C0.2.1 dL_law_1147 (lv_at hl 4 rfl) ?_
  refine lv_iconst (v := I 1) C0.1 C0.2.1 dL_law_1149 rfl ?_
  refine x_add (v := i + 1) C0 rfl dL_law_1150 ?_
  refine x_sld hC hE (by omega) (by omega) e_a1 dL_law_1151 ?_
  refine lv_aload_n C0.1 C0.2.1 dL_law_1152 rfl (lv_at hl 0 rfl) ?_
  refine lv_iload C0.1 C0.2.1 dL_law_1153 (lv_at hl 4 rfl) ?_
  refine lv_iconst (v := I 2) C0.1 C0.2.1 dL_law_1155 rfl ?_
  refine x_add (v := i + 2) C0 rfl dL_law_1156 ?_
  refine x_sld hC hE (by omega) (by omega) e_a2 dL_law_1157 ?_
  refine lv_aload_n C0.1 C0.2.1 dL_law_1158 rfl (lv_at hl 0 rfl) ?_
  refine lv_iload C0.1 C0.2.1 dL_law_1159 (lv_at hl 4 rfl) ?_
  refine lv_iconst (v := I 3) C0.1 C0.2.1 dL_law_1161 rfl ?_
  refine x_add (v := i + 3) C0 rfl dL_law_1162 ?_
  refine x_sld hC hE (by omega) (by omega) e_a3 dL_law_1163 ?_
  refine lawE_i (rest := []) (σ' := σ1) C0 hC.2.1 hE (c_E_skips l D g hR i_a1 i_a2 i_a3 h_E) kw_L_109 ⟨Nat.le_of_ble_eq_true rfl, Nat.le_of_ble_eq_true rfl⟩ rfl hl.1 rfl (Nat.le_of_ble_eq_true rfl) dL_law_1164 hc (fun H locs hE ⟨i_r, hR⟩ => ?_)
  refine lv_aload_n C0.1 C0.2.1 dL_law_1167 rfl (lv_at hl 2 rfl) ?_
  refine lv_aload_n C0.1 C0.2.1 dL_law_1168 rfl (lv_at hl 0 rfl) ?_
  refine lv_iload C0.1 C0.2.1 dL_law_1169 (lv_at hl 4 rfl) ?_
  refine lv_iconst (v := I 1) C0.1 C0.2.1 dL_law_1171 rfl ?_
  refine x_add (v := i + 1) C0 rfl dL_law_1172 ?_
  refine x_sld hC hE (by omega) (by omega) e_a1 dL_law_1173 ?_
  refine lv_aload_n C0.1 C0.2.1 dL_law_1174 rfl (lv_at hl 0 rfl) ?_
  refine lv_iload C0.1 C0.2.1 dL_law_1175 (lv_at hl 4 rfl) ?_
  refine lv_iconst (v := I 2) C0.1 C0.2.1 dL_law_1177 rfl ?_
  refine x_add (v := i + 2) C0 rfl dL_law_1178 ?_
  refine x_sld hC hE (by omega) (by omega) e_a2 dL_law_1179 ?_
  refine lv_aload_n C0.1 C0.2.1 dL_law_1180 rfl (lv_at hl 0 rfl) ?_
  refine lv_iload C0.1 C0.2.1 dL_law_1181 (lv_at hl 4 rfl) ?_
  refine lv_iconst (v := I 3) C0.1 C0.2.1 dL_law_1183 rfl ?_
  refine x_add (v := i + 3) C0 rfl dL_law_1184 ?_
  refine x_sld hC hE (by omega) (by omega) e_a3 dL_law_1185 ?_
  refine lawM_i (rest := [.int (I r)]) (τ' := τ1) C0 hC.2.1 hE (c_M_skips l D g hR9 i_a1 i_a2 i_a3 h_M) kw_L_112 ⟨Nat.le_of_ble_eq_true rfl, Nat.le_of_ble_eq_true rfl⟩ rfl hl.1 rfl (Nat.le_of_ble_eq_true rfl) dL_law_1186 hc (fun H locs hE ⟨i_r9, hR9⟩ => ?_)
  refine x_icmp_eq C0 i_r i_r9 dL_law_1189 (tgt := 2401) (by decide) (fun _ => ?_) (fun c9 => absurd rfl c9)
  exact next σ1 τ1 H locs ls hR hR9 h_S hE hl
def HS_22 (S : Nat → St → St → Prop) : Prop := ∀ (k : Nat) (σ τ : St) (z0 : Int) (z1 : Int) (z2 : Int) (z3 : Int), k < 512 → R32 σ → R32 τ → S k σ τ → in32 z0 → in32 z1 → in32 z2 → in32 z3 → ∃ (r : Int) (σ1 τ1 : St), E_slips σ z0 z1 z2 z3 = some (r, σ1) ∧ M_slips τ z0 z1 z2 z3 = some (r, τ1) ∧ S (k + 1) σ1 τ1
set_option maxRecDepth 100000 in
set_option maxHeartbeats 4000000 in
theorem law_c22 {p : Program} {l : Launch} {e : Env} {s : State} {m : MethodId} {below : List Frame} {meth : Method} {c : Code} {Q : State → Prop} {D : va_G} {g : Ad} {b L : Nat} {xs : Nat → Int32} {S : Nat → St → St → Prop} (HN : HS_22 S) (hC : LC p s m meth c b L xs D g) {k : Nat} {σ τ : St} {v i : Int} (hk : k < 512) (hR : R32 σ) (hR9 : R32 τ) (hS : S k σ τ) (h0 : 0 ≤ i) (hiL : i + 6 ≤ L) {H : Heap} {locs : List Loc} {cells slots : Nat} {ls : Array Slot} (hc : cells ≤ room_1.cells ∧ slots ≤ room_1.slots) (hE : EW D (aL s) s.heap (wL g σ τ v) H locs) (hl : lv_has ls 8 (lvL g b i))
    (next : ∀ (σ1 τ1 : St) (H : Heap) (locs : List Loc) (ls : Array Slot), R32 σ1 → R32 τ1 → S (k + 1) σ1 τ1 → EW D (aL s) s.heap (wL g σ1 τ1 v) H locs → lv_has ls 8 (lvL g b i) → W p l e room_1 s m #[Value.ref b] below meth c H locs cells slots Q (F0 m 2401 ls [])) : W p l e room_1 s m #[Value.ref b] below meth c H locs cells slots Q (F0 m 1194 ls []) := by
  have C0 := hC.1
  obtain ⟨a1, e_a1, i_a1⟩ : ∃ a, a = (xs (i + 1).toNat).toInt ∧ in32 a := ⟨_, rfl, in32_toInt _⟩
  obtain ⟨a2, e_a2, i_a2⟩ : ∃ a, a = (xs (i + 2).toNat).toInt ∧ in32 a := ⟨_, rfl, in32_toInt _⟩
  obtain ⟨a3, e_a3, i_a3⟩ : ∃ a, a = (xs (i + 3).toNat).toInt ∧ in32 a := ⟨_, rfl, in32_toInt _⟩
  obtain ⟨a4, e_a4, i_a4⟩ : ∃ a, a = (xs (i + 4).toNat).toInt ∧ in32 a := ⟨_, rfl, in32_toInt _⟩
  obtain ⟨r, σ1, τ1, h_E, h_M, h_S⟩ := HN k σ τ a1 a2 a3 a4 hk hR hR9 hS i_a1 i_a2 i_a3 i_a4
  refine lv_aload_n C0.1 C0.2.1 dL_law_1194 rfl (lv_at hl 1 rfl) ?_
  refine lv_aload_n C0.1 C0.2.1 dL_law_1195 rfl (lv_at hl 0 rfl) ?_
  refine lv_iload C0.1 C0.2.1 dL_law_1196 (lv_at hl 4 rfl) ?_
  refine lv_iconst (v := I 1) C0.1 C0.2.1 dL_law_1198 rfl ?_
  refine x_add (v := i + 1) C0 rfl dL_law_1199 ?_
  refine x_sld hC hE (by omega) (by omega) e_a1 dL_law_1200 ?_
  refine lv_aload_n C0.1 C0.2.1 dL_law_1201 rfl (lv_at hl 0 rfl) ?_
  refine lv_iload C0.1 C0.2.1 dL_law_1202 (lv_at hl 4 rfl) ?_
  refine lv_iconst (v := I 2) C0.1 C0.2.1 dL_law_1204 rfl ?_
  refine x_add (v := i + 2) C0 rfl dL_law_1205 ?_
  refine x_sld hC hE (by omega) (by omega) e_a2 dL_law_1206 ?_
  refine lv_aload_n C0.1 C0.2.1 dL_law_1207 rfl (lv_at hl 0 rfl) ?_
  refine lv_iload C0.1 C0.2.1 dL_law_1208 (lv_at hl 4 rfl) ?_
  refine lv_iconst (v := I 3) C0.1 C0.2.1 dL_law_1210 rfl ?_
  refine x_add (v := i + 3) C0 rfl dL_law_1211 ?_
  refine x_sld hC hE (by omega) (by omega) e_a3 dL_law_1212 ?_
  refine lv_aload_n C0.1 C0.2.1 dL_law_1213 rfl (lv_at hl 0 rfl) ?_
  refine lv_iload C0.1 C0.2.1 dL_law_1214 (lv_at hl 4 rfl) ?_
  refine lv_iconst (v := I 4) C0.1 C0.2.1 dL_law_1216 rfl ?_
  refine x_add (v := i + 4) C0 rfl dL_law_1217 ?_
  refine x_sld hC hE (by omega) (by omega) e_a4 dL_law_1218 ?_
  refine lawE_i (rest := []) (σ' := σ1) C0 hC.2.1 hE (c_E_slips l D g hR i_a1 i_a2 i_a3 i_a4 h_E) kw_L_113 ⟨Nat.le_of_ble_eq_true rfl, Nat.le_of_ble_eq_true rfl⟩ rfl hl.1 rfl (Nat.le_of_ble_eq_true rfl) dL_law_1219 hc (fun H locs hE ⟨i_r, hR⟩ => ?_)
  refine lv_aload_n C0.1 C0.2.1 dL_law_1222 rfl (lv_at hl 2 rfl) ?_
  refine lv_aload_n C0.1 C0.2.1 dL_law_1223 rfl (lv_at hl 0 rfl) ?_
  refine lv_iload C0.1 C0.2.1 dL_law_1224 (lv_at hl 4 rfl) ?_
  refine lv_iconst (v := I 1) C0.1 C0.2.1 dL_law_1226 rfl ?_
  refine x_add (v := i + 1) C0 rfl dL_law_1227 ?_
  refine x_sld hC hE (by omega) (by omega) e_a1 dL_law_1228 ?_
  refine lv_aload_n C0.1 C0.2.1 dL_law_1229 rfl (lv_at hl 0 rfl) ?_
  refine lv_iload C0.1 C0.2.1 dL_law_1230 (lv_at hl 4 rfl) ?_
  refine lv_iconst (v := I 2) C0.1 C0.2.1 dL_law_1232 rfl ?_
  refine x_add (v := i + 2) C0 rfl dL_law_1233 ?_
  refine x_sld hC hE (by omega) (by omega) e_a2 dL_law_1234 ?_
  refine lv_aload_n C0.1 C0.2.1 dL_law_1235 rfl (lv_at hl 0 rfl) ?_
  refine lv_iload C0.1 C0.2.1 dL_law_1236 (lv_at hl 4 rfl) ?_
  refine lv_iconst (v := I 3) C0.1 C0.2.1 dL_law_1238 rfl ?_
  refine x_add (v := i + 3) C0 rfl dL_law_1239 ?_
  refine x_sld hC hE (by omega) (by omega) e_a3 dL_law_1240 ?_
  refine lv_aload_n C0.1 C0.2.1 dL_law_1241 rfl (lv_at hl 0 rfl) ?_
  refine lv_iload C0.1 C0.2.1 dL_law_1242 (lv_at hl 4 rfl) ?_
  refine lv_iconst (v := I 4) C0.1 C0.2.1 dL_law_1244 rfl ?_
  refine x_add (v := i + 4) C0 rfl dL_law_1245 ?_
  refine x_sld hC hE (by omega) (by omega) e_a4 dL_law_1246 ?_
  refine lawM_i (rest := [.int (I r)]) (τ' := τ1) C0 hC.2.1 hE (c_M_slips l D g hR9 i_a1 i_a2 i_a3 i_a4 h_M) kw_L_116 ⟨Nat.le_of_ble_eq_true rfl, Nat.le_of_ble_eq_true rfl⟩ rfl hl.1 rfl (Nat.le_of_ble_eq_true rfl) dL_law_1247 hc (fun H locs hE ⟨i_r9, hR9⟩ => ?_)
  refine x_icmp_eq C0 i_r i_r9 dL_law_1250 (tgt := 2401) (by decide) (fun _ => ?_) (fun c9 => absurd rfl c9)
  exact next σ1 τ1 H locs ls hR hR9 h_S hE hl
def HS_23 (S : Nat → St → St → Prop) : Prop := ∀ (k : Nat) (σ τ : St) (z0 : Int) (z1 : Int) (z2 : Int) (z3 : Int), k < 512 → R32 σ → R32 τ → S k σ τ → in32 z0 → in32 z1 → in32 z2 → in32 z3 → ∃ (r : Int) (σ1 τ1 : St), E_swaps σ z0 z1 z2 z3 = some (r, σ1) ∧ M_swaps τ z0 z1 z2 z3 = some (r, τ1) ∧ S (k + 1) σ1 τ1
set_option maxRecDepth 100000 in
set_option maxHeartbeats 4000000 in
theorem law_c23 {p : Program} {l : Launch} {e : Env} {s : State} {m : MethodId} {below : List Frame} {meth : Method} {c : Code} {Q : State → Prop} {D : va_G} {g : Ad} {b L : Nat} {xs : Nat → Int32} {S : Nat → St → St → Prop} (HN : HS_23 S) (hC : LC p s m meth c b L xs D g) {k : Nat} {σ τ : St} {v i : Int} (hk : k < 512) (hR : R32 σ) (hR9 : R32 τ) (hS : S k σ τ) (h0 : 0 ≤ i) (hiL : i + 6 ≤ L) {H : Heap} {locs : List Loc} {cells slots : Nat} {ls : Array Slot} (hc : cells ≤ room_1.cells ∧ slots ≤ room_1.slots) (hE : EW D (aL s) s.heap (wL g σ τ v) H locs) (hl : lv_has ls 8 (lvL g b i))
    (next : ∀ (σ1 τ1 : St) (H : Heap) (locs : List Loc) (ls : Array Slot), R32 σ1 → R32 τ1 → S (k + 1) σ1 τ1 → EW D (aL s) s.heap (wL g σ1 τ1 v) H locs → lv_has ls 8 (lvL g b i) → W p l e room_1 s m #[Value.ref b] below meth c H locs cells slots Q (F0 m 2401 ls [])) : W p l e room_1 s m #[Value.ref b] below meth c H locs cells slots Q (F0 m 1255 ls []) := by
  have C0 := hC.1
  obtain ⟨a1, e_a1, i_a1⟩ : ∃ a, a = (xs (i + 1).toNat).toInt ∧ in32 a := ⟨_, rfl, in32_toInt _⟩
  obtain ⟨a2, e_a2, i_a2⟩ : ∃ a, a = (xs (i + 2).toNat).toInt ∧ in32 a := ⟨_, rfl, in32_toInt _⟩
  obtain ⟨a3, e_a3, i_a3⟩ : ∃ a, a = (xs (i + 3).toNat).toInt ∧ in32 a := ⟨_, rfl, in32_toInt _⟩
  obtain ⟨a4, e_a4, i_a4⟩ : ∃ a, a = (xs (i + 4).toNat).toInt ∧ in32 a := ⟨_, rfl, in32_toInt _⟩
  obtain ⟨r, σ1, τ1, h_E, h_M, h_S⟩ := HN k σ τ a1 a2 a3 a4 hk hR hR9 hS i_a1 i_a2 i_a3 i_a4
  refine lv_aload_n C0.1 C0.2.1 dL_law_1255 rfl (lv_at hl 1 rfl) ?_
  refine lv_aload_n C0.1 C0.2.1 dL_law_1256 rfl (lv_at hl 0 rfl) ?_
  refine lv_iload C0.1 C0.2.1 dL_law_1257 (lv_at hl 4 rfl) ?_
  refine lv_iconst (v := I 1) C0.1 C0.2.1 dL_law_1259 rfl ?_
  refine x_add (v := i + 1) C0 rfl dL_law_1260 ?_
  refine x_sld hC hE (by omega) (by omega) e_a1 dL_law_1261 ?_
  refine lv_aload_n C0.1 C0.2.1 dL_law_1262 rfl (lv_at hl 0 rfl) ?_
  refine lv_iload C0.1 C0.2.1 dL_law_1263 (lv_at hl 4 rfl) ?_
  refine lv_iconst (v := I 2) C0.1 C0.2.1 dL_law_1265 rfl ?_
  refine x_add (v := i + 2) C0 rfl dL_law_1266 ?_
  refine x_sld hC hE (by omega) (by omega) e_a2 dL_law_1267 ?_
  refine lv_aload_n C0.1 C0.2.1 dL_law_1268 rfl (lv_at hl 0 rfl) ?_
  refine lv_iload C0.1 C0.2.1 dL_law_1269 (lv_at hl 4 rfl) ?_
  refine lv_iconst (v := I 3) C0.1 C0.2.1 dL_law_1271 rfl ?_
  refine x_add (v := i + 3) C0 rfl dL_law_1272 ?_
  refine x_sld hC hE (by omega) (by omega) e_a3 dL_law_1273 ?_
  refine lv_aload_n C0.1 C0.2.1 dL_law_1274 rfl (lv_at hl 0 rfl) ?_
  refine lv_iload C0.1 C0.2.1 dL_law_1275 (lv_at hl 4 rfl) ?_
  refine lv_iconst (v := I 4) C0.1 C0.2.1 dL_law_1277 rfl ?_
  refine x_add (v := i + 4) C0 rfl dL_law_1278 ?_
  refine x_sld hC hE (by omega) (by omega) e_a4 dL_law_1279 ?_
  refine lawE_i (rest := []) (σ' := σ1) C0 hC.2.1 hE (c_E_swaps l D g hR i_a1 i_a2 i_a3 i_a4 h_E) kw_L_117 ⟨Nat.le_of_ble_eq_true rfl, Nat.le_of_ble_eq_true rfl⟩ rfl hl.1 rfl (Nat.le_of_ble_eq_true rfl) dL_law_1280 hc (fun H locs hE ⟨i_r, hR⟩ => ?_)
  refine lv_aload_n C0.1 C0.2.1 dL_law_1283 rfl (lv_at hl 2 rfl) ?_
  refine lv_aload_n C0.1 C0.2.1 dL_law_1284 rfl (lv_at hl 0 rfl) ?_
  refine lv_iload C0.1 C0.2.1 dL_law_1285 (lv_at hl 4 rfl) ?_
  refine lv_iconst (v := I 1) C0.1 C0.2.1 dL_law_1287 rfl ?_
  refine x_add (v := i + 1) C0 rfl dL_law_1288 ?_
  refine x_sld hC hE (by omega) (by omega) e_a1 dL_law_1289 ?_
  refine lv_aload_n C0.1 C0.2.1 dL_law_1290 rfl (lv_at hl 0 rfl) ?_
  refine lv_iload C0.1 C0.2.1 dL_law_1291 (lv_at hl 4 rfl) ?_
  refine lv_iconst (v := I 2) C0.1 C0.2.1 dL_law_1293 rfl ?_
  refine x_add (v := i + 2) C0 rfl dL_law_1294 ?_
  refine x_sld hC hE (by omega) (by omega) e_a2 dL_law_1295 ?_
  refine lv_aload_n C0.1 C0.2.1 dL_law_1296 rfl (lv_at hl 0 rfl) ?_
  refine lv_iload C0.1 C0.2.1 dL_law_1297 (lv_at hl 4 rfl) ?_
  refine lv_iconst (v := I 3) C0.1 C0.2.1 dL_law_1299 rfl ?_
  refine x_add (v := i + 3) C0 rfl dL_law_1300 ?_
  refine x_sld hC hE (by omega) (by omega) e_a3 dL_law_1301 ?_
  refine lv_aload_n C0.1 C0.2.1 dL_law_1302 rfl (lv_at hl 0 rfl) ?_
  refine lv_iload C0.1 C0.2.1 dL_law_1303 (lv_at hl 4 rfl) ?_
  refine lv_iconst (v := I 4) C0.1 C0.2.1 dL_law_1305 rfl ?_
  refine x_add (v := i + 4) C0 rfl dL_law_1306 ?_
  refine x_sld hC hE (by omega) (by omega) e_a4 dL_law_1307 ?_
  refine lawM_i (rest := [.int (I r)]) (τ' := τ1) C0 hC.2.1 hE (c_M_swaps l D g hR9 i_a1 i_a2 i_a3 i_a4 h_M) kw_L_120 ⟨Nat.le_of_ble_eq_true rfl, Nat.le_of_ble_eq_true rfl⟩ rfl hl.1 rfl (Nat.le_of_ble_eq_true rfl) dL_law_1308 hc (fun H locs hE ⟨i_r9, hR9⟩ => ?_)
  refine x_icmp_eq C0 i_r i_r9 dL_law_1311 (tgt := 2401) (by decide) (fun _ => ?_) (fun c9 => absurd rfl c9)
  exact next σ1 τ1 H locs ls hR hR9 h_S hE hl
def HS_24 (S : Nat → St → St → Prop) : Prop := ∀ (k : Nat) (σ τ : St) (z0 : Int) (z1 : Int) (z2 : Int) (z3 : Int), k < 512 → R32 σ → R32 τ → S k σ τ → in32 z0 → in32 z1 → in32 z2 → in32 z3 → ∃ (r : Int) (σ1 τ1 : St), E_zips σ z0 z1 z2 z3 = some (r, σ1) ∧ M_zips τ z0 z1 z2 z3 = some (r, τ1) ∧ S (k + 1) σ1 τ1
set_option maxRecDepth 100000 in
set_option maxHeartbeats 4000000 in
theorem law_c24 {p : Program} {l : Launch} {e : Env} {s : State} {m : MethodId} {below : List Frame} {meth : Method} {c : Code} {Q : State → Prop} {D : va_G} {g : Ad} {b L : Nat} {xs : Nat → Int32} {S : Nat → St → St → Prop} (HN : HS_24 S) (hC : LC p s m meth c b L xs D g) {k : Nat} {σ τ : St} {v i : Int} (hk : k < 512) (hR : R32 σ) (hR9 : R32 τ) (hS : S k σ τ) (h0 : 0 ≤ i) (hiL : i + 6 ≤ L) {H : Heap} {locs : List Loc} {cells slots : Nat} {ls : Array Slot} (hc : cells ≤ room_1.cells ∧ slots ≤ room_1.slots) (hE : EW D (aL s) s.heap (wL g σ τ v) H locs) (hl : lv_has ls 8 (lvL g b i))
    (next : ∀ (σ1 τ1 : St) (H : Heap) (locs : List Loc) (ls : Array Slot), R32 σ1 → R32 τ1 → S (k + 1) σ1 τ1 → EW D (aL s) s.heap (wL g σ1 τ1 v) H locs → lv_has ls 8 (lvL g b i) → W p l e room_1 s m #[Value.ref b] below meth c H locs cells slots Q (F0 m 2401 ls [])) : W p l e room_1 s m #[Value.ref b] below meth c H locs cells slots Q (F0 m 1316 ls []) := by
  have C0 := hC.1
  obtain ⟨a1, e_a1, i_a1⟩ : ∃ a, a = (xs (i + 1).toNat).toInt ∧ in32 a := ⟨_, rfl, in32_toInt _⟩
  obtain ⟨a2, e_a2, i_a2⟩ : ∃ a, a = (xs (i + 2).toNat).toInt ∧ in32 a := ⟨_, rfl, in32_toInt _⟩
  obtain ⟨a3, e_a3, i_a3⟩ : ∃ a, a = (xs (i + 3).toNat).toInt ∧ in32 a := ⟨_, rfl, in32_toInt _⟩
  obtain ⟨a4, e_a4, i_a4⟩ : ∃ a, a = (xs (i + 4).toNat).toInt ∧ in32 a := ⟨_, rfl, in32_toInt _⟩
  obtain ⟨r, σ1, τ1, h_E, h_M, h_S⟩ := HN k σ τ a1 a2 a3 a4 hk hR hR9 hS i_a1 i_a2 i_a3 i_a4
  refine lv_aload_n C0.1 C0.2.1 dL_law_1316 rfl (lv_at hl 1 rfl) ?_
  refine lv_aload_n C0.1 C0.2.1 dL_law_1317 rfl (lv_at hl 0 rfl) ?_
  refine lv_iload C0.1 C0.2.1 dL_law_1318 (lv_at hl 4 rfl) ?_
  refine lv_iconst (v := I 1) C0.1 C0.2.1 dL_law_1320 rfl ?_
  refine x_add (v := i + 1) C0 rfl dL_law_1321 ?_
  refine x_sld hC hE (by omega) (by omega) e_a1 dL_law_1322 ?_
  refine lv_aload_n C0.1 C0.2.1 dL_law_1323 rfl (lv_at hl 0 rfl) ?_
  refine lv_iload C0.1 C0.2.1 dL_law_1324 (lv_at hl 4 rfl) ?_
  refine lv_iconst (v := I 2) C0.1 C0.2.1 dL_law_1326 rfl ?_
  refine x_add (v := i + 2) C0 rfl dL_law_1327 ?_
  refine x_sld hC hE (by omega) (by omega) e_a2 dL_law_1328 ?_
  refine lv_aload_n C0.1 C0.2.1 dL_law_1329 rfl (lv_at hl 0 rfl) ?_
  refine lv_iload C0.1 C0.2.1 dL_law_1330 (lv_at hl 4 rfl) ?_
  refine lv_iconst (v := I 3) C0.1 C0.2.1 dL_law_1332 rfl ?_
  refine x_add (v := i + 3) C0 rfl dL_law_1333 ?_
  refine x_sld hC hE (by omega) (by omega) e_a3 dL_law_1334 ?_
  refine lv_aload_n C0.1 C0.2.1 dL_law_1335 rfl (lv_at hl 0 rfl) ?_
  refine lv_iload C0.1 C0.2.1 dL_law_1336 (lv_at hl 4 rfl) ?_
  refine lv_iconst (v := I 4) C0.1 C0.2.1 dL_law_1338 rfl ?_
  refine x_add (v := i + 4) C0 rfl dL_law_1339 ?_
  refine x_sld hC hE (by omega) (by omega) e_a4 dL_law_1340 ?_
  refine lawE_i (rest := []) (σ' := σ1) C0 hC.2.1 hE (c_E_zips l D g hR i_a1 i_a2 i_a3 i_a4 h_E) kw_L_121 ⟨Nat.le_of_ble_eq_true rfl, Nat.le_of_ble_eq_true rfl⟩ rfl hl.1 rfl (Nat.le_of_ble_eq_true rfl) dL_law_1341 hc (fun H locs hE ⟨i_r, hR⟩ => ?_)
  refine lv_aload_n C0.1 C0.2.1 dL_law_1344 rfl (lv_at hl 2 rfl) ?_
  refine lv_aload_n C0.1 C0.2.1 dL_law_1345 rfl (lv_at hl 0 rfl) ?_
  refine lv_iload C0.1 C0.2.1 dL_law_1346 (lv_at hl 4 rfl) ?_
  refine lv_iconst (v := I 1) C0.1 C0.2.1 dL_law_1348 rfl ?_
  refine x_add (v := i + 1) C0 rfl dL_law_1349 ?_
  refine x_sld hC hE (by omega) (by omega) e_a1 dL_law_1350 ?_
  refine lv_aload_n C0.1 C0.2.1 dL_law_1351 rfl (lv_at hl 0 rfl) ?_
  refine lv_iload C0.1 C0.2.1 dL_law_1352 (lv_at hl 4 rfl) ?_
  refine lv_iconst (v := I 2) C0.1 C0.2.1 dL_law_1354 rfl ?_
  refine x_add (v := i + 2) C0 rfl dL_law_1355 ?_
  refine x_sld hC hE (by omega) (by omega) e_a2 dL_law_1356 ?_
  refine lv_aload_n C0.1 C0.2.1 dL_law_1357 rfl (lv_at hl 0 rfl) ?_
  refine lv_iload C0.1 C0.2.1 dL_law_1358 (lv_at hl 4 rfl) ?_
  refine lv_iconst (v := I 3) C0.1 C0.2.1 dL_law_1360 rfl ?_
  refine x_add (v := i + 3) C0 rfl dL_law_1361 ?_
  refine x_sld hC hE (by omega) (by omega) e_a3 dL_law_1362 ?_
  refine lv_aload_n C0.1 C0.2.1 dL_law_1363 rfl (lv_at hl 0 rfl) ?_
  refine lv_iload C0.1 C0.2.1 dL_law_1364 (lv_at hl 4 rfl) ?_
  refine lv_iconst (v := I 4) C0.1 C0.2.1 dL_law_1366 rfl ?_
  refine x_add (v := i + 4) C0 rfl dL_law_1367 ?_
  refine x_sld hC hE (by omega) (by omega) e_a4 dL_law_1368 ?_
  refine lawM_i (rest := [.int (I r)]) (τ' := τ1) C0 hC.2.1 hE (c_M_zips l D g hR9 i_a1 i_a2 i_a3 i_a4 h_M) kw_L_124 ⟨Nat.le_of_ble_eq_true rfl, Nat.le_of_ble_eq_true rfl⟩ rfl hl.1 rfl (Nat.le_of_ble_eq_true rfl) dL_law_1369 hc (fun H locs hE ⟨i_r9, hR9⟩ => ?_)
  refine x_icmp_eq C0 i_r i_r9 dL_law_1372 (tgt := 2401) (by decide) (fun _ => ?_) (fun c9 => absurd rfl c9)
  exact next σ1 τ1 H locs ls hR hR9 h_S hE hl
def HS_25 (S : Nat → St → St → Prop) : Prop := ∀ (k : Nat) (σ τ : St) (z0 : Int) (z1 : Int) (z2 : Int) (z3 : Int), k < 512 → R32 σ → R32 τ → S k σ τ → in32 z0 → in32 z1 → in32 z2 → in32 z3 → ∃ (r : Int) (σ1 τ1 : St), E_parts σ z0 z1 z2 z3 = some (r, σ1) ∧ M_parts τ z0 z1 z2 z3 = some (r, τ1) ∧ S (k + 1) σ1 τ1
set_option maxRecDepth 100000 in
set_option maxHeartbeats 4000000 in
theorem law_c25 {p : Program} {l : Launch} {e : Env} {s : State} {m : MethodId} {below : List Frame} {meth : Method} {c : Code} {Q : State → Prop} {D : va_G} {g : Ad} {b L : Nat} {xs : Nat → Int32} {S : Nat → St → St → Prop} (HN : HS_25 S) (hC : LC p s m meth c b L xs D g) {k : Nat} {σ τ : St} {v i : Int} (hk : k < 512) (hR : R32 σ) (hR9 : R32 τ) (hS : S k σ τ) (h0 : 0 ≤ i) (hiL : i + 6 ≤ L) {H : Heap} {locs : List Loc} {cells slots : Nat} {ls : Array Slot} (hc : cells ≤ room_1.cells ∧ slots ≤ room_1.slots) (hE : EW D (aL s) s.heap (wL g σ τ v) H locs) (hl : lv_has ls 8 (lvL g b i))
    (next : ∀ (σ1 τ1 : St) (H : Heap) (locs : List Loc) (ls : Array Slot), R32 σ1 → R32 τ1 → S (k + 1) σ1 τ1 → EW D (aL s) s.heap (wL g σ1 τ1 v) H locs → lv_has ls 8 (lvL g b i) → W p l e room_1 s m #[Value.ref b] below meth c H locs cells slots Q (F0 m 2401 ls [])) : W p l e room_1 s m #[Value.ref b] below meth c H locs cells slots Q (F0 m 1377 ls []) := by
  have C0 := hC.1
  obtain ⟨a1, e_a1, i_a1⟩ : ∃ a, a = (xs (i + 1).toNat).toInt ∧ in32 a := ⟨_, rfl, in32_toInt _⟩
  obtain ⟨a2, e_a2, i_a2⟩ : ∃ a, a = (xs (i + 2).toNat).toInt ∧ in32 a := ⟨_, rfl, in32_toInt _⟩
  obtain ⟨a3, e_a3, i_a3⟩ : ∃ a, a = (xs (i + 3).toNat).toInt ∧ in32 a := ⟨_, rfl, in32_toInt _⟩
  obtain ⟨a4, e_a4, i_a4⟩ : ∃ a, a = (xs (i + 4).toNat).toInt ∧ in32 a := ⟨_, rfl, in32_toInt _⟩
  obtain ⟨r, σ1, τ1, h_E, h_M, h_S⟩ := HN k σ τ a1 a2 a3 a4 hk hR hR9 hS i_a1 i_a2 i_a3 i_a4
  refine lv_aload_n C0.1 C0.2.1 dL_law_1377 rfl (lv_at hl 1 rfl) ?_
  refine lv_aload_n C0.1 C0.2.1 dL_law_1378 rfl (lv_at hl 0 rfl) ?_
  refine lv_iload C0.1 C0.2.1 dL_law_1379 (lv_at hl 4 rfl) ?_
  refine lv_iconst (v := I 1) C0.1 C0.2.1 dL_law_1381 rfl ?_
  refine x_add (v := i + 1) C0 rfl dL_law_1382 ?_
  refine x_sld hC hE (by omega) (by omega) e_a1 dL_law_1383 ?_
  refine lv_aload_n C0.1 C0.2.1 dL_law_1384 rfl (lv_at hl 0 rfl) ?_
  refine lv_iload C0.1 C0.2.1 dL_law_1385 (lv_at hl 4 rfl) ?_
  refine lv_iconst (v := I 2) C0.1 C0.2.1 dL_law_1387 rfl ?_
  refine x_add (v := i + 2) C0 rfl dL_law_1388 ?_
  refine x_sld hC hE (by omega) (by omega) e_a2 dL_law_1389 ?_
  refine lv_aload_n C0.1 C0.2.1 dL_law_1390 rfl (lv_at hl 0 rfl) ?_
  refine lv_iload C0.1 C0.2.1 dL_law_1391 (lv_at hl 4 rfl) ?_
  refine lv_iconst (v := I 3) C0.1 C0.2.1 dL_law_1393 rfl ?_
  refine x_add (v := i + 3) C0 rfl dL_law_1394 ?_
  refine x_sld hC hE (by omega) (by omega) e_a3 dL_law_1395 ?_
  refine lv_aload_n C0.1 C0.2.1 dL_law_1396 rfl (lv_at hl 0 rfl) ?_
  refine lv_iload C0.1 C0.2.1 dL_law_1397 (lv_at hl 4 rfl) ?_
  refine lv_iconst (v := I 4) C0.1 C0.2.1 dL_law_1399 rfl ?_
  refine x_add (v := i + 4) C0 rfl dL_law_1400 ?_
  refine x_sld hC hE (by omega) (by omega) e_a4 dL_law_1401 ?_
  refine lawE_i (rest := []) (σ' := σ1) C0 hC.2.1 hE (c_E_parts l D g hR i_a1 i_a2 i_a3 i_a4 h_E) kw_L_125 ⟨Nat.le_of_ble_eq_true rfl, Nat.le_of_ble_eq_true rfl⟩ rfl hl.1 rfl (Nat.le_of_ble_eq_true rfl) dL_law_1402 hc (fun H locs hE ⟨i_r, hR⟩ => ?_)
  refine lv_aload_n C0.1 C0.2.1 dL_law_1405 rfl (lv_at hl 2 rfl) ?_
  refine lv_aload_n C0.1 C0.2.1 dL_law_1406 rfl (lv_at hl 0 rfl) ?_
  refine lv_iload C0.1 C0.2.1 dL_law_1407 (lv_at hl 4 rfl) ?_
  refine lv_iconst (v := I 1) C0.1 C0.2.1 dL_law_1409 rfl ?_
  refine x_add (v := i + 1) C0 rfl dL_law_1410 ?_
  refine x_sld hC hE (by omega) (by omega) e_a1 dL_law_1411 ?_
  refine lv_aload_n C0.1 C0.2.1 dL_law_1412 rfl (lv_at hl 0 rfl) ?_
  refine lv_iload C0.1 C0.2.1 dL_law_1413 (lv_at hl 4 rfl) ?_
  refine lv_iconst (v := I 2) C0.1 C0.2.1 dL_law_1415 rfl ?_
  refine x_add (v := i + 2) C0 rfl dL_law_1416 ?_
  refine x_sld hC hE (by omega) (by omega) e_a2 dL_law_1417 ?_
  refine lv_aload_n C0.1 C0.2.1 dL_law_1418 rfl (lv_at hl 0 rfl) ?_
  refine lv_iload C0.1 C0.2.1 dL_law_1419 (lv_at hl 4 rfl) ?_
  refine lv_iconst (v := I 3) C0.1 C0.2.1 dL_law_1421 rfl ?_
  refine x_add (v := i + 3) C0 rfl dL_law_1422 ?_
  refine x_sld hC hE (by omega) (by omega) e_a3 dL_law_1423 ?_
  refine lv_aload_n C0.1 C0.2.1 dL_law_1424 rfl (lv_at hl 0 rfl) ?_
  refine lv_iload C0.1 C0.2.1 dL_law_1425 (lv_at hl 4 rfl) ?_
  refine lv_iconst (v := I 4) C0.1 C0.2.1 dL_law_1427 rfl ?_
  refine x_add (v := i + 4) C0 rfl dL_law_1428 ?_
  refine x_sld hC hE (by omega) (by omega) e_a4 dL_law_1429 ?_
  refine lawM_i (rest := [.int (I r)]) (τ' := τ1) C0 hC.2.1 hE (c_M_parts l D g hR9 i_a1 i_a2 i_a3 i_a4 h_M) kw_L_128 ⟨Nat.le_of_ble_eq_true rfl, Nat.le_of_ble_eq_true rfl⟩ rfl hl.1 rfl (Nat.le_of_ble_eq_true rfl) dL_law_1430 hc (fun H locs hE ⟨i_r9, hR9⟩ => ?_)
  refine x_icmp_eq C0 i_r i_r9 dL_law_1433 (tgt := 2401) (by decide) (fun _ => ?_) (fun c9 => absurd rfl c9)
  exact next σ1 τ1 H locs ls hR hR9 h_S hE hl
def HS_26 (S : Nat → St → St → Prop) : Prop := ∀ (k : Nat) (σ τ : St) (z0 : Int) (z1 : Int), k < 512 → R32 σ → R32 τ → S k σ τ → in32 z0 → in32 z1 → ∃ (r : Int) (σ1 τ1 : St), E_sorts σ z0 z1 = some (r, σ1) ∧ M_sorts τ z0 z1 = some (r, τ1) ∧ S (k + 1) σ1 τ1
set_option maxRecDepth 100000 in
set_option maxHeartbeats 4000000 in
theorem law_c26 {p : Program} {l : Launch} {e : Env} {s : State} {m : MethodId} {below : List Frame} {meth : Method} {c : Code} {Q : State → Prop} {D : va_G} {g : Ad} {b L : Nat} {xs : Nat → Int32} {S : Nat → St → St → Prop} (HN : HS_26 S) (hC : LC p s m meth c b L xs D g) {k : Nat} {σ τ : St} {v i : Int} (hk : k < 512) (hR : R32 σ) (hR9 : R32 τ) (hS : S k σ τ) (h0 : 0 ≤ i) (hiL : i + 6 ≤ L) {H : Heap} {locs : List Loc} {cells slots : Nat} {ls : Array Slot} (hc : cells ≤ room_1.cells ∧ slots ≤ room_1.slots) (hE : EW D (aL s) s.heap (wL g σ τ v) H locs) (hl : lv_has ls 8 (lvL g b i))
    (next : ∀ (σ1 τ1 : St) (H : Heap) (locs : List Loc) (ls : Array Slot), R32 σ1 → R32 τ1 → S (k + 1) σ1 τ1 → EW D (aL s) s.heap (wL g σ1 τ1 v) H locs → lv_has ls 8 (lvL g b i) → W p l e room_1 s m #[Value.ref b] below meth c H locs cells slots Q (F0 m 2401 ls [])) : W p l e room_1 s m #[Value.ref b] below meth c H locs cells slots Q (F0 m 1438 ls []) := by
  have C0 := hC.1
  obtain ⟨a1, e_a1, i_a1⟩ : ∃ a, a = (xs (i + 1).toNat).toInt ∧ in32 a := ⟨_, rfl, in32_toInt _⟩
  obtain ⟨a2, e_a2, i_a2⟩ : ∃ a, a = (xs (i + 2).toNat).toInt ∧ in32 a := ⟨_, rfl, in32_toInt _⟩
  obtain ⟨r, σ1, τ1, h_E, h_M, h_S⟩ := HN k σ τ a1 a2 hk hR hR9 hS i_a1 i_a2
  refine lv_aload_n C0.1 C0.2.1 dL_law_1438 rfl (lv_at hl 1 rfl) ?_
  refine lv_aload_n C0.1 C0.2.1 dL_law_1439 rfl (lv_at hl 0 rfl) ?_
  refine lv_iload C0.1 C0.2.1 dL_law_1440 (lv_at hl 4 rfl) ?_
  refine lv_iconst (v := I 1) C0.1 C0.2.1 dL_law_1442 rfl ?_
  refine x_add (v := i + 1) C0 rfl dL_law_1443 ?_
  refine x_sld hC hE (by omega) (by omega) e_a1 dL_law_1444 ?_
  refine lv_aload_n C0.1 C0.2.1 dL_law_1445 rfl (lv_at hl 0 rfl) ?_
  refine lv_iload C0.1 C0.2.1 dL_law_1446 (lv_at hl 4 rfl) ?_
  refine lv_iconst (v := I 2) C0.1 C0.2.1 dL_law_1448 rfl ?_
  refine x_add (v := i + 2) C0 rfl dL_law_1449 ?_
  refine x_sld hC hE (by omega) (by omega) e_a2 dL_law_1450 ?_
  refine lawE_i (rest := []) (σ' := σ1) C0 hC.2.1 hE (c_E_sorts l D g hR i_a1 i_a2 h_E) kw_L_129 ⟨Nat.le_of_ble_eq_true rfl, Nat.le_of_ble_eq_true rfl⟩ rfl hl.1 rfl (Nat.le_of_ble_eq_true rfl) dL_law_1451 hc (fun H locs hE ⟨i_r, hR⟩ => ?_)
  refine lv_aload_n C0.1 C0.2.1 dL_law_1454 rfl (lv_at hl 2 rfl) ?_
  refine lv_aload_n C0.1 C0.2.1 dL_law_1455 rfl (lv_at hl 0 rfl) ?_
  refine lv_iload C0.1 C0.2.1 dL_law_1456 (lv_at hl 4 rfl) ?_
  refine lv_iconst (v := I 1) C0.1 C0.2.1 dL_law_1458 rfl ?_
  refine x_add (v := i + 1) C0 rfl dL_law_1459 ?_
  refine x_sld hC hE (by omega) (by omega) e_a1 dL_law_1460 ?_
  refine lv_aload_n C0.1 C0.2.1 dL_law_1461 rfl (lv_at hl 0 rfl) ?_
  refine lv_iload C0.1 C0.2.1 dL_law_1462 (lv_at hl 4 rfl) ?_
  refine lv_iconst (v := I 2) C0.1 C0.2.1 dL_law_1464 rfl ?_
  refine x_add (v := i + 2) C0 rfl dL_law_1465 ?_
  refine x_sld hC hE (by omega) (by omega) e_a2 dL_law_1466 ?_
  refine lawM_i (rest := [.int (I r)]) (τ' := τ1) C0 hC.2.1 hE (c_M_sorts l D g hR9 i_a1 i_a2 h_M) kw_L_132 ⟨Nat.le_of_ble_eq_true rfl, Nat.le_of_ble_eq_true rfl⟩ rfl hl.1 rfl (Nat.le_of_ble_eq_true rfl) dL_law_1467 hc (fun H locs hE ⟨i_r9, hR9⟩ => ?_)
  refine x_icmp_eq C0 i_r i_r9 dL_law_1470 (tgt := 2401) (by decide) (fun _ => ?_) (fun c9 => absurd rfl c9)
  exact next σ1 τ1 H locs ls hR hR9 h_S hE hl
def HS_27 (S : Nat → St → St → Prop) : Prop := ∀ (k : Nat) (σ τ : St) (z0 : Int) (z1 : Int) (z2 : Int), k < 512 → R32 σ → R32 τ → S k σ τ → in32 z0 → in32 z1 → in32 z2 → ∃ (r : Int) (σ1 τ1 : St), E_merges σ z0 z1 z2 = some (r, σ1) ∧ M_merges τ z0 z1 z2 = some (r, τ1) ∧ S (k + 1) σ1 τ1
set_option maxRecDepth 100000 in
set_option maxHeartbeats 4000000 in
theorem law_c27 {p : Program} {l : Launch} {e : Env} {s : State} {m : MethodId} {below : List Frame} {meth : Method} {c : Code} {Q : State → Prop} {D : va_G} {g : Ad} {b L : Nat} {xs : Nat → Int32} {S : Nat → St → St → Prop} (HN : HS_27 S) (hC : LC p s m meth c b L xs D g) {k : Nat} {σ τ : St} {v i : Int} (hk : k < 512) (hR : R32 σ) (hR9 : R32 τ) (hS : S k σ τ) (h0 : 0 ≤ i) (hiL : i + 6 ≤ L) {H : Heap} {locs : List Loc} {cells slots : Nat} {ls : Array Slot} (hc : cells ≤ room_1.cells ∧ slots ≤ room_1.slots) (hE : EW D (aL s) s.heap (wL g σ τ v) H locs) (hl : lv_has ls 8 (lvL g b i))
    (next : ∀ (σ1 τ1 : St) (H : Heap) (locs : List Loc) (ls : Array Slot), R32 σ1 → R32 τ1 → S (k + 1) σ1 τ1 → EW D (aL s) s.heap (wL g σ1 τ1 v) H locs → lv_has ls 8 (lvL g b i) → W p l e room_1 s m #[Value.ref b] below meth c H locs cells slots Q (F0 m 2401 ls [])) : W p l e room_1 s m #[Value.ref b] below meth c H locs cells slots Q (F0 m 1475 ls []) := by
  have C0 := hC.1
  obtain ⟨a1, e_a1, i_a1⟩ : ∃ a, a = (xs (i + 1).toNat).toInt ∧ in32 a := ⟨_, rfl, in32_toInt _⟩
  obtain ⟨a2, e_a2, i_a2⟩ : ∃ a, a = (xs (i + 2).toNat).toInt ∧ in32 a := ⟨_, rfl, in32_toInt _⟩
  obtain ⟨a3, e_a3, i_a3⟩ : ∃ a, a = (xs (i + 3).toNat).toInt ∧ in32 a := ⟨_, rfl, in32_toInt _⟩
  obtain ⟨r, σ1, τ1, h_E, h_M, h_S⟩ := HN k σ τ a1 a2 a3 hk hR hR9 hS i_a1 i_a2 i_a3
  refine lv_aload_n C0.1 C0.2.1 dL_law_1475 rfl (lv_at hl 1 rfl) ?_
  refine lv_aload_n C0.1 C0.2.1 dL_law_1476 rfl (lv_at hl 0 rfl) ?_
  refine lv_iload C0.1 C0.2.1 dL_law_1477 (lv_at hl 4 rfl) ?_
  refine lv_iconst (v := I 1) C0.1 C0.2.1 dL_law_1479 rfl ?_
  refine x_add (v := i + 1) C0 rfl dL_law_1480 ?_
  refine x_sld hC hE (by omega) (by omega) e_a1 dL_law_1481 ?_
  refine lv_aload_n C0.1 C0.2.1 dL_law_1482 rfl (lv_at hl 0 rfl) ?_
  refine lv_iload C0.1 C0.2.1 dL_law_1483 (lv_at hl 4 rfl) ?_
  refine lv_iconst (v := I 2) C0.1 C0.2.1 dL_law_1485 rfl ?_
  refine x_add (v := i + 2) C0 rfl dL_law_1486 ?_
  refine x_sld hC hE (by omega) (by omega) e_a2 dL_law_1487 ?_
  refine lv_aload_n C0.1 C0.2.1 dL_law_1488 rfl (lv_at hl 0 rfl) ?_
  refine lv_iload C0.1 C0.2.1 dL_law_1489 (lv_at hl 4 rfl) ?_
  refine lv_iconst (v := I 3) C0.1 C0.2.1 dL_law_1491 rfl ?_
  refine x_add (v := i + 3) C0 rfl dL_law_1492 ?_
  refine x_sld hC hE (by omega) (by omega) e_a3 dL_law_1493 ?_
  refine lawE_i (rest := []) (σ' := σ1) C0 hC.2.1 hE (c_E_merges l D g hR i_a1 i_a2 i_a3 h_E) kw_L_133 ⟨Nat.le_of_ble_eq_true rfl, Nat.le_of_ble_eq_true rfl⟩ rfl hl.1 rfl (Nat.le_of_ble_eq_true rfl) dL_law_1494 hc (fun H locs hE ⟨i_r, hR⟩ => ?_)
  refine lv_aload_n C0.1 C0.2.1 dL_law_1497 rfl (lv_at hl 2 rfl) ?_
  refine lv_aload_n C0.1 C0.2.1 dL_law_1498 rfl (lv_at hl 0 rfl) ?_
  refine lv_iload C0.1 C0.2.1 dL_law_1499 (lv_at hl 4 rfl) ?_
  refine lv_iconst (v := I 1) C0.1 C0.2.1 dL_law_1501 rfl ?_
  refine x_add (v := i + 1) C0 rfl dL_law_1502 ?_
  refine x_sld hC hE (by omega) (by omega) e_a1 dL_law_1503 ?_
  refine lv_aload_n C0.1 C0.2.1 dL_law_1504 rfl (lv_at hl 0 rfl) ?_
  refine lv_iload C0.1 C0.2.1 dL_law_1505 (lv_at hl 4 rfl) ?_
  refine lv_iconst (v := I 2) C0.1 C0.2.1 dL_law_1507 rfl ?_
  refine x_add (v := i + 2) C0 rfl dL_law_1508 ?_
  refine x_sld hC hE (by omega) (by omega) e_a2 dL_law_1509 ?_
  refine lv_aload_n C0.1 C0.2.1 dL_law_1510 rfl (lv_at hl 0 rfl) ?_
  refine lv_iload C0.1 C0.2.1 dL_law_1511 (lv_at hl 4 rfl) ?_
  refine lv_iconst (v := I 3) C0.1 C0.2.1 dL_law_1513 rfl ?_
  refine x_add (v := i + 3) C0 rfl dL_law_1514 ?_
  refine x_sld hC hE (by omega) (by omega) e_a3 dL_law_1515 ?_
  refine lawM_i (rest := [.int (I r)]) (τ' := τ1) C0 hC.2.1 hE (c_M_merges l D g hR9 i_a1 i_a2 i_a3 h_M) kw_L_136 ⟨Nat.le_of_ble_eq_true rfl, Nat.le_of_ble_eq_true rfl⟩ rfl hl.1 rfl (Nat.le_of_ble_eq_true rfl) dL_law_1516 hc (fun H locs hE ⟨i_r9, hR9⟩ => ?_)
  refine x_icmp_eq C0 i_r i_r9 dL_law_1519 (tgt := 2401) (by decide) (fun _ => ?_) (fun c9 => absurd rfl c9)
  exact next σ1 τ1 H locs ls hR hR9 h_S hE hl
def HS_28 (S : Nat → St → St → Prop) : Prop := ∀ (k : Nat) (σ τ : St) (z0 : Int) (z1 : Int) (z2 : Int) (z3 : Int), k < 512 → R32 σ → R32 τ → S k σ τ → in32 z0 → in32 z1 → in32 z2 → in32 z3 → ∃ (r : Int) (σ1 τ1 : St), E_picks σ z0 z1 z2 z3 = some (r, σ1) ∧ M_picks τ z0 z1 z2 z3 = some (r, τ1) ∧ S (k + 1) σ1 τ1
set_option maxRecDepth 100000 in
set_option maxHeartbeats 4000000 in
theorem law_c28 {p : Program} {l : Launch} {e : Env} {s : State} {m : MethodId} {below : List Frame} {meth : Method} {c : Code} {Q : State → Prop} {D : va_G} {g : Ad} {b L : Nat} {xs : Nat → Int32} {S : Nat → St → St → Prop} (HN : HS_28 S) (hC : LC p s m meth c b L xs D g) {k : Nat} {σ τ : St} {v i : Int} (hk : k < 512) (hR : R32 σ) (hR9 : R32 τ) (hS : S k σ τ) (h0 : 0 ≤ i) (hiL : i + 6 ≤ L) {H : Heap} {locs : List Loc} {cells slots : Nat} {ls : Array Slot} (hc : cells ≤ room_1.cells ∧ slots ≤ room_1.slots) (hE : EW D (aL s) s.heap (wL g σ τ v) H locs) (hl : lv_has ls 8 (lvL g b i))
    (next : ∀ (σ1 τ1 : St) (H : Heap) (locs : List Loc) (ls : Array Slot), R32 σ1 → R32 τ1 → S (k + 1) σ1 τ1 → EW D (aL s) s.heap (wL g σ1 τ1 v) H locs → lv_has ls 8 (lvL g b i) → W p l e room_1 s m #[Value.ref b] below meth c H locs cells slots Q (F0 m 2401 ls [])) : W p l e room_1 s m #[Value.ref b] below meth c H locs cells slots Q (F0 m 1524 ls []) := by
  have C0 := hC.1
  obtain ⟨a1, e_a1, i_a1⟩ : ∃ a, a = (xs (i + 1).toNat).toInt ∧ in32 a := ⟨_, rfl, in32_toInt _⟩
  obtain ⟨a2, e_a2, i_a2⟩ : ∃ a, a = (xs (i + 2).toNat).toInt ∧ in32 a := ⟨_, rfl, in32_toInt _⟩
  obtain ⟨a3, e_a3, i_a3⟩ : ∃ a, a = (xs (i + 3).toNat).toInt ∧ in32 a := ⟨_, rfl, in32_toInt _⟩
  obtain ⟨a4, e_a4, i_a4⟩ : ∃ a, a = (xs (i + 4).toNat).toInt ∧ in32 a := ⟨_, rfl, in32_toInt _⟩
  obtain ⟨r, σ1, τ1, h_E, h_M, h_S⟩ := HN k σ τ a1 a2 a3 a4 hk hR hR9 hS i_a1 i_a2 i_a3 i_a4
  refine lv_aload_n C0.1 C0.2.1 dL_law_1524 rfl (lv_at hl 1 rfl) ?_
  refine lv_aload_n C0.1 C0.2.1 dL_law_1525 rfl (lv_at hl 0 rfl) ?_
  refine lv_iload C0.1 C0.2.1 dL_law_1526 (lv_at hl 4 rfl) ?_
  refine lv_iconst (v := I 1) C0.1 C0.2.1 dL_law_1528 rfl ?_
  refine x_add (v := i + 1) C0 rfl dL_law_1529 ?_
  refine x_sld hC hE (by omega) (by omega) e_a1 dL_law_1530 ?_
  refine lv_aload_n C0.1 C0.2.1 dL_law_1531 rfl (lv_at hl 0 rfl) ?_
  refine lv_iload C0.1 C0.2.1 dL_law_1532 (lv_at hl 4 rfl) ?_
  refine lv_iconst (v := I 2) C0.1 C0.2.1 dL_law_1534 rfl ?_
  refine x_add (v := i + 2) C0 rfl dL_law_1535 ?_
  refine x_sld hC hE (by omega) (by omega) e_a2 dL_law_1536 ?_
  refine lv_aload_n C0.1 C0.2.1 dL_law_1537 rfl (lv_at hl 0 rfl) ?_
  refine lv_iload C0.1 C0.2.1 dL_law_1538 (lv_at hl 4 rfl) ?_
  refine lv_iconst (v := I 3) C0.1 C0.2.1 dL_law_1540 rfl ?_
  refine x_add (v := i + 3) C0 rfl dL_law_1541 ?_
  refine x_sld hC hE (by omega) (by omega) e_a3 dL_law_1542 ?_
  refine lv_aload_n C0.1 C0.2.1 dL_law_1543 rfl (lv_at hl 0 rfl) ?_
  refine lv_iload C0.1 C0.2.1 dL_law_1544 (lv_at hl 4 rfl) ?_
  refine lv_iconst (v := I 4) C0.1 C0.2.1 dL_law_1546 rfl ?_
  refine x_add (v := i + 4) C0 rfl dL_law_1547 ?_
  refine x_sld hC hE (by omega) (by omega) e_a4 dL_law_1548 ?_
  refine lawE_i (rest := []) (σ' := σ1) C0 hC.2.1 hE (c_E_picks l D g hR i_a1 i_a2 i_a3 i_a4 h_E) kw_L_137 ⟨Nat.le_of_ble_eq_true rfl, Nat.le_of_ble_eq_true rfl⟩ rfl hl.1 rfl (Nat.le_of_ble_eq_true rfl) dL_law_1549 hc (fun H locs hE ⟨i_r, hR⟩ => ?_)
  refine lv_aload_n C0.1 C0.2.1 dL_law_1552 rfl (lv_at hl 2 rfl) ?_
  refine lv_aload_n C0.1 C0.2.1 dL_law_1553 rfl (lv_at hl 0 rfl) ?_
  refine lv_iload C0.1 C0.2.1 dL_law_1554 (lv_at hl 4 rfl) ?_
  refine lv_iconst (v := I 1) C0.1 C0.2.1 dL_law_1556 rfl ?_
  refine x_add (v := i + 1) C0 rfl dL_law_1557 ?_
  refine x_sld hC hE (by omega) (by omega) e_a1 dL_law_1558 ?_
  refine lv_aload_n C0.1 C0.2.1 dL_law_1559 rfl (lv_at hl 0 rfl) ?_
  refine lv_iload C0.1 C0.2.1 dL_law_1560 (lv_at hl 4 rfl) ?_
  refine lv_iconst (v := I 2) C0.1 C0.2.1 dL_law_1562 rfl ?_
  refine x_add (v := i + 2) C0 rfl dL_law_1563 ?_
  refine x_sld hC hE (by omega) (by omega) e_a2 dL_law_1564 ?_
  refine lv_aload_n C0.1 C0.2.1 dL_law_1565 rfl (lv_at hl 0 rfl) ?_
  refine lv_iload C0.1 C0.2.1 dL_law_1566 (lv_at hl 4 rfl) ?_
  refine lv_iconst (v := I 3) C0.1 C0.2.1 dL_law_1568 rfl ?_
  refine x_add (v := i + 3) C0 rfl dL_law_1569 ?_
  refine x_sld hC hE (by omega) (by omega) e_a3 dL_law_1570 ?_
  refine lv_aload_n C0.1 C0.2.1 dL_law_1571 rfl (lv_at hl 0 rfl) ?_
  refine lv_iload C0.1 C0.2.1 dL_law_1572 (lv_at hl 4 rfl) ?_
  refine lv_iconst (v := I 4) C0.1 C0.2.1 dL_law_1574 rfl ?_
  refine x_add (v := i + 4) C0 rfl dL_law_1575 ?_
  refine x_sld hC hE (by omega) (by omega) e_a4 dL_law_1576 ?_
  refine lawM_i (rest := [.int (I r)]) (τ' := τ1) C0 hC.2.1 hE (c_M_picks l D g hR9 i_a1 i_a2 i_a3 i_a4 h_M) kw_L_140 ⟨Nat.le_of_ble_eq_true rfl, Nat.le_of_ble_eq_true rfl⟩ rfl hl.1 rfl (Nat.le_of_ble_eq_true rfl) dL_law_1577 hc (fun H locs hE ⟨i_r9, hR9⟩ => ?_)
  refine x_icmp_eq C0 i_r i_r9 dL_law_1580 (tgt := 2401) (by decide) (fun _ => ?_) (fun c9 => absurd rfl c9)
  exact next σ1 τ1 H locs ls hR hR9 h_S hE hl
def HS_29 (S : Nat → St → St → Prop) : Prop := ∀ (k : Nat) (σ τ : St) (z0 : Int) (z1 : Int), k < 512 → R32 σ → R32 τ → S k σ τ → in32 z0 → in32 z1 → ∃ (r : Int) (σ1 τ1 : St), E_mirrors σ z0 z1 = some (r, σ1) ∧ M_mirrors τ z0 z1 = some (r, τ1) ∧ S (k + 1) σ1 τ1
set_option maxRecDepth 100000 in
set_option maxHeartbeats 4000000 in
theorem law_c29 {p : Program} {l : Launch} {e : Env} {s : State} {m : MethodId} {below : List Frame} {meth : Method} {c : Code} {Q : State → Prop} {D : va_G} {g : Ad} {b L : Nat} {xs : Nat → Int32} {S : Nat → St → St → Prop} (HN : HS_29 S) (hC : LC p s m meth c b L xs D g) {k : Nat} {σ τ : St} {v i : Int} (hk : k < 512) (hR : R32 σ) (hR9 : R32 τ) (hS : S k σ τ) (h0 : 0 ≤ i) (hiL : i + 6 ≤ L) {H : Heap} {locs : List Loc} {cells slots : Nat} {ls : Array Slot} (hc : cells ≤ room_1.cells ∧ slots ≤ room_1.slots) (hE : EW D (aL s) s.heap (wL g σ τ v) H locs) (hl : lv_has ls 8 (lvL g b i))
    (next : ∀ (σ1 τ1 : St) (H : Heap) (locs : List Loc) (ls : Array Slot), R32 σ1 → R32 τ1 → S (k + 1) σ1 τ1 → EW D (aL s) s.heap (wL g σ1 τ1 v) H locs → lv_has ls 8 (lvL g b i) → W p l e room_1 s m #[Value.ref b] below meth c H locs cells slots Q (F0 m 2401 ls [])) : W p l e room_1 s m #[Value.ref b] below meth c H locs cells slots Q (F0 m 1585 ls []) := by
  have C0 := hC.1
  obtain ⟨a1, e_a1, i_a1⟩ : ∃ a, a = (xs (i + 1).toNat).toInt ∧ in32 a := ⟨_, rfl, in32_toInt _⟩
  obtain ⟨a2, e_a2, i_a2⟩ : ∃ a, a = (xs (i + 2).toNat).toInt ∧ in32 a := ⟨_, rfl, in32_toInt _⟩
  obtain ⟨r, σ1, τ1, h_E, h_M, h_S⟩ := HN k σ τ a1 a2 hk hR hR9 hS i_a1 i_a2
  refine lv_aload_n C0.1 C0.2.1 dL_law_1585 rfl (lv_at hl 1 rfl) ?_
  refine lv_aload_n C0.1 C0.2.1 dL_law_1586 rfl (lv_at hl 0 rfl) ?_
  refine lv_iload C0.1 C0.2.1 dL_law_1587 (lv_at hl 4 rfl) ?_
  refine lv_iconst (v := I 1) C0.1 C0.2.1 dL_law_1589 rfl ?_
  refine x_add (v := i + 1) C0 rfl dL_law_1590 ?_
  refine x_sld hC hE (by omega) (by omega) e_a1 dL_law_1591 ?_
  refine lv_aload_n C0.1 C0.2.1 dL_law_1592 rfl (lv_at hl 0 rfl) ?_
  refine lv_iload C0.1 C0.2.1 dL_law_1593 (lv_at hl 4 rfl) ?_
  refine lv_iconst (v := I 2) C0.1 C0.2.1 dL_law_1595 rfl ?_
  refine x_add (v := i + 2) C0 rfl dL_law_1596 ?_
  refine x_sld hC hE (by omega) (by omega) e_a2 dL_law_1597 ?_
  refine lawE_i (rest := []) (σ' := σ1) C0 hC.2.1 hE (c_E_mirrors l D g hR i_a1 i_a2 h_E) kw_L_141 ⟨Nat.le_of_ble_eq_true rfl, Nat.le_of_ble_eq_true rfl⟩ rfl hl.1 rfl (Nat.le_of_ble_eq_true rfl) dL_law_1598 hc (fun H locs hE ⟨i_r, hR⟩ => ?_)
  refine lv_aload_n C0.1 C0.2.1 dL_law_1601 rfl (lv_at hl 2 rfl) ?_
  refine lv_aload_n C0.1 C0.2.1 dL_law_1602 rfl (lv_at hl 0 rfl) ?_
  refine lv_iload C0.1 C0.2.1 dL_law_1603 (lv_at hl 4 rfl) ?_
  refine lv_iconst (v := I 1) C0.1 C0.2.1 dL_law_1605 rfl ?_
  refine x_add (v := i + 1) C0 rfl dL_law_1606 ?_
  refine x_sld hC hE (by omega) (by omega) e_a1 dL_law_1607 ?_
  refine lv_aload_n C0.1 C0.2.1 dL_law_1608 rfl (lv_at hl 0 rfl) ?_
  refine lv_iload C0.1 C0.2.1 dL_law_1609 (lv_at hl 4 rfl) ?_
  refine lv_iconst (v := I 2) C0.1 C0.2.1 dL_law_1611 rfl ?_
  refine x_add (v := i + 2) C0 rfl dL_law_1612 ?_
  refine x_sld hC hE (by omega) (by omega) e_a2 dL_law_1613 ?_
  refine lawM_i (rest := [.int (I r)]) (τ' := τ1) C0 hC.2.1 hE (c_M_mirrors l D g hR9 i_a1 i_a2 h_M) kw_L_144 ⟨Nat.le_of_ble_eq_true rfl, Nat.le_of_ble_eq_true rfl⟩ rfl hl.1 rfl (Nat.le_of_ble_eq_true rfl) dL_law_1614 hc (fun H locs hE ⟨i_r9, hR9⟩ => ?_)
  refine x_icmp_eq C0 i_r i_r9 dL_law_1617 (tgt := 2401) (by decide) (fun _ => ?_) (fun c9 => absurd rfl c9)
  exact next σ1 τ1 H locs ls hR hR9 h_S hE hl
def HS_30 (S : Nat → St → St → Prop) : Prop := ∀ (k : Nat) (σ τ : St) (z0 : Int), k < 512 → R32 σ → R32 τ → S k σ τ → in32 z0 → ∃ (r : Int) (σ1 τ1 : St), E_heap σ z0 = some (r, σ1) ∧ M_heap τ z0 = some (r, τ1) ∧ S (k + 1) σ1 τ1
set_option maxRecDepth 100000 in
set_option maxHeartbeats 4000000 in
theorem law_c30 {p : Program} {l : Launch} {e : Env} {s : State} {m : MethodId} {below : List Frame} {meth : Method} {c : Code} {Q : State → Prop} {D : va_G} {g : Ad} {b L : Nat} {xs : Nat → Int32} {S : Nat → St → St → Prop} (HN : HS_30 S) (hC : LC p s m meth c b L xs D g) {k : Nat} {σ τ : St} {v i : Int} (hk : k < 512) (hR : R32 σ) (hR9 : R32 τ) (hS : S k σ τ) (h0 : 0 ≤ i) (hiL : i + 6 ≤ L) {H : Heap} {locs : List Loc} {cells slots : Nat} {ls : Array Slot} (hc : cells ≤ room_1.cells ∧ slots ≤ room_1.slots) (hE : EW D (aL s) s.heap (wL g σ τ v) H locs) (hl : lv_has ls 8 (lvL g b i))
    (next : ∀ (σ1 τ1 : St) (H : Heap) (locs : List Loc) (ls : Array Slot), R32 σ1 → R32 τ1 → S (k + 1) σ1 τ1 → EW D (aL s) s.heap (wL g σ1 τ1 v) H locs → lv_has ls 8 (lvL g b i) → W p l e room_1 s m #[Value.ref b] below meth c H locs cells slots Q (F0 m 2401 ls [])) : W p l e room_1 s m #[Value.ref b] below meth c H locs cells slots Q (F0 m 1622 ls []) := by
  have C0 := hC.1
  obtain ⟨a1, e_a1, i_a1⟩ : ∃ a, a = (xs (i + 1).toNat).toInt ∧ in32 a := ⟨_, rfl, in32_toInt _⟩
  obtain ⟨r, σ1, τ1, h_E, h_M, h_S⟩ := HN k σ τ a1 hk hR hR9 hS i_a1
  refine lv_aload_n C0.1 C0.2.1 dL_law_1622 rfl (lv_at hl 1 rfl) ?_
  refine lv_aload_n C0.1 C0.2.1 dL_law_1623 rfl (lv_at hl 0 rfl) ?_
  refine lv_iload C0.1 C0.2.1 dL_law_1624 (lv_at hl 4 rfl) ?_
  refine lv_iconst (v := I 1) C0.1 C0.2.1 dL_law_1626 rfl ?_
  refine x_add (v := i + 1) C0 rfl dL_law_1627 ?_
  refine x_sld hC hE (by omega) (by omega) e_a1 dL_law_1628 ?_
  refine lawE_i (rest := []) (σ' := σ1) C0 hC.2.1 hE (c_E_heap l D g hR i_a1 h_E) kw_L_145 ⟨Nat.le_of_ble_eq_true rfl, Nat.le_of_ble_eq_true rfl⟩ rfl hl.1 rfl (Nat.le_of_ble_eq_true rfl) dL_law_1629 hc (fun H locs hE ⟨i_r, hR⟩ => ?_)
  refine lv_aload_n C0.1 C0.2.1 dL_law_1632 rfl (lv_at hl 2 rfl) ?_
  refine lv_aload_n C0.1 C0.2.1 dL_law_1633 rfl (lv_at hl 0 rfl) ?_
  refine lv_iload C0.1 C0.2.1 dL_law_1634 (lv_at hl 4 rfl) ?_
  refine lv_iconst (v := I 1) C0.1 C0.2.1 dL_law_1636 rfl ?_
  refine x_add (v := i + 1) C0 rfl dL_law_1637 ?_
  refine x_sld hC hE (by omega) (by omega) e_a1 dL_law_1638 ?_
  refine lawM_i (rest := [.int (I r)]) (τ' := τ1) C0 hC.2.1 hE (c_M_heap l D g hR9 i_a1 h_M) kw_L_148 ⟨Nat.le_of_ble_eq_true rfl, Nat.le_of_ble_eq_true rfl⟩ rfl hl.1 rfl (Nat.le_of_ble_eq_true rfl) dL_law_1639 hc (fun H locs hE ⟨i_r9, hR9⟩ => ?_)
  refine x_icmp_eq C0 i_r i_r9 dL_law_1642 (tgt := 2401) (by decide) (fun _ => ?_) (fun c9 => absurd rfl c9)
  exact next σ1 τ1 H locs ls hR hR9 h_S hE hl
def HS_31 (S : Nat → St → St → Prop) : Prop := ∀ (k : Nat) (σ τ : St) (z0 : Int) (z1 : Int) (z2 : Int), k < 512 → R32 σ → R32 τ → S k σ τ → in32 z0 → in32 z1 → in32 z2 → ∃ (r : Int) (σ1 τ1 : St), E_push σ z0 z1 z2 = some (r, σ1) ∧ M_push τ z0 z1 z2 = some (r, τ1) ∧ S (k + 1) σ1 τ1
set_option maxRecDepth 100000 in
set_option maxHeartbeats 4000000 in
theorem law_c31 {p : Program} {l : Launch} {e : Env} {s : State} {m : MethodId} {below : List Frame} {meth : Method} {c : Code} {Q : State → Prop} {D : va_G} {g : Ad} {b L : Nat} {xs : Nat → Int32} {S : Nat → St → St → Prop} (HN : HS_31 S) (hC : LC p s m meth c b L xs D g) {k : Nat} {σ τ : St} {v i : Int} (hk : k < 512) (hR : R32 σ) (hR9 : R32 τ) (hS : S k σ τ) (h0 : 0 ≤ i) (hiL : i + 6 ≤ L) {H : Heap} {locs : List Loc} {cells slots : Nat} {ls : Array Slot} (hc : cells ≤ room_1.cells ∧ slots ≤ room_1.slots) (hE : EW D (aL s) s.heap (wL g σ τ v) H locs) (hl : lv_has ls 8 (lvL g b i))
    (next : ∀ (σ1 τ1 : St) (H : Heap) (locs : List Loc) (ls : Array Slot), R32 σ1 → R32 τ1 → S (k + 1) σ1 τ1 → EW D (aL s) s.heap (wL g σ1 τ1 v) H locs → lv_has ls 8 (lvL g b i) → W p l e room_1 s m #[Value.ref b] below meth c H locs cells slots Q (F0 m 2401 ls [])) : W p l e room_1 s m #[Value.ref b] below meth c H locs cells slots Q (F0 m 1647 ls []) := by
  have C0 := hC.1
  obtain ⟨a1, e_a1, i_a1⟩ : ∃ a, a = (xs (i + 1).toNat).toInt ∧ in32 a := ⟨_, rfl, in32_toInt _⟩
  obtain ⟨a2, e_a2, i_a2⟩ : ∃ a, a = (xs (i + 2).toNat).toInt ∧ in32 a := ⟨_, rfl, in32_toInt _⟩
  obtain ⟨a3, e_a3, i_a3⟩ : ∃ a, a = (xs (i + 3).toNat).toInt ∧ in32 a := ⟨_, rfl, in32_toInt _⟩
  obtain ⟨r, σ1, τ1, h_E, h_M, h_S⟩ := HN k σ τ a1 a2 a3 hk hR hR9 hS i_a1 i_a2 i_a3
  refine lv_aload_n C0.1 C0.2.1 dL_law_1647 rfl (lv_at hl 1 rfl) ?_
  refine lv_aload_n C0.1 C0.2.1 dL_law_1648 rfl (lv_at hl 0 rfl) ?_
  refine lv_iload C0.1 C0.2.1 dL_law_1649 (lv_at hl 4 rfl) ?_
  refine lv_iconst (v := I 1) C0.1 C0.2.1 dL_law_1651 rfl ?_
  refine x_add (v := i + 1) C0 rfl dL_law_1652 ?_
  refine x_sld hC hE (by omega) (by omega) e_a1 dL_law_1653 ?_
  refine lv_aload_n C0.1 C0.2.1 dL_law_1654 rfl (lv_at hl 0 rfl) ?_
  refine lv_iload C0.1 C0.2.1 dL_law_1655 (lv_at hl 4 rfl) ?_
  refine lv_iconst (v := I 2) C0.1 C0.2.1 dL_law_1657 rfl ?_
  refine x_add (v := i + 2) C0 rfl dL_law_1658 ?_
  refine x_sld hC hE (by omega) (by omega) e_a2 dL_law_1659 ?_
  refine lv_aload_n C0.1 C0.2.1 dL_law_1660 rfl (lv_at hl 0 rfl) ?_
  refine lv_iload C0.1 C0.2.1 dL_law_1661 (lv_at hl 4 rfl) ?_
  refine lv_iconst (v := I 3) C0.1 C0.2.1 dL_law_1663 rfl ?_
  refine x_add (v := i + 3) C0 rfl dL_law_1664 ?_
  refine x_sld hC hE (by omega) (by omega) e_a3 dL_law_1665 ?_
  refine lawE_i (rest := []) (σ' := σ1) C0 hC.2.1 hE (c_E_push l D g hR i_a1 i_a2 i_a3 h_E) kw_L_149 ⟨Nat.le_of_ble_eq_true rfl, Nat.le_of_ble_eq_true rfl⟩ rfl hl.1 rfl (Nat.le_of_ble_eq_true rfl) dL_law_1666 hc (fun H locs hE ⟨i_r, hR⟩ => ?_)
  refine lv_aload_n C0.1 C0.2.1 dL_law_1669 rfl (lv_at hl 2 rfl) ?_
  refine lv_aload_n C0.1 C0.2.1 dL_law_1670 rfl (lv_at hl 0 rfl) ?_
  refine lv_iload C0.1 C0.2.1 dL_law_1671 (lv_at hl 4 rfl) ?_
  refine lv_iconst (v := I 1) C0.1 C0.2.1 dL_law_1673 rfl ?_
  refine x_add (v := i + 1) C0 rfl dL_law_1674 ?_
  refine x_sld hC hE (by omega) (by omega) e_a1 dL_law_1675 ?_
  refine lv_aload_n C0.1 C0.2.1 dL_law_1676 rfl (lv_at hl 0 rfl) ?_
  refine lv_iload C0.1 C0.2.1 dL_law_1677 (lv_at hl 4 rfl) ?_
  refine lv_iconst (v := I 2) C0.1 C0.2.1 dL_law_1679 rfl ?_
  refine x_add (v := i + 2) C0 rfl dL_law_1680 ?_
  refine x_sld hC hE (by omega) (by omega) e_a2 dL_law_1681 ?_
  refine lv_aload_n C0.1 C0.2.1 dL_law_1682 rfl (lv_at hl 0 rfl) ?_
  refine lv_iload C0.1 C0.2.1 dL_law_1683 (lv_at hl 4 rfl) ?_
  refine lv_iconst (v := I 3) C0.1 C0.2.1 dL_law_1685 rfl ?_
  refine x_add (v := i + 3) C0 rfl dL_law_1686 ?_
  refine x_sld hC hE (by omega) (by omega) e_a3 dL_law_1687 ?_
  refine lawM_i (rest := [.int (I r)]) (τ' := τ1) C0 hC.2.1 hE (c_M_push l D g hR9 i_a1 i_a2 i_a3 h_M) kw_L_152 ⟨Nat.le_of_ble_eq_true rfl, Nat.le_of_ble_eq_true rfl⟩ rfl hl.1 rfl (Nat.le_of_ble_eq_true rfl) dL_law_1688 hc (fun H locs hE ⟨i_r9, hR9⟩ => ?_)
  refine x_icmp_eq C0 i_r i_r9 dL_law_1691 (tgt := 2401) (by decide) (fun _ => ?_) (fun c9 => absurd rfl c9)
  exact next σ1 τ1 H locs ls hR hR9 h_S hE hl
def HS_32 (S : Nat → St → St → Prop) : Prop := ∀ (k : Nat) (σ τ : St) (z0 : Int) (z1 : Int), k < 512 → R32 σ → R32 τ → S k σ τ → in32 z0 → in32 z1 → ∃ (r : Int) (σ1 τ1 : St), E_pop σ z0 z1 = some (r, σ1) ∧ M_pop τ z0 z1 = some (r, τ1) ∧ S (k + 1) σ1 τ1
set_option maxRecDepth 100000 in
set_option maxHeartbeats 4000000 in
theorem law_c32 {p : Program} {l : Launch} {e : Env} {s : State} {m : MethodId} {below : List Frame} {meth : Method} {c : Code} {Q : State → Prop} {D : va_G} {g : Ad} {b L : Nat} {xs : Nat → Int32} {S : Nat → St → St → Prop} (HN : HS_32 S) (hC : LC p s m meth c b L xs D g) {k : Nat} {σ τ : St} {v i : Int} (hk : k < 512) (hR : R32 σ) (hR9 : R32 τ) (hS : S k σ τ) (h0 : 0 ≤ i) (hiL : i + 6 ≤ L) {H : Heap} {locs : List Loc} {cells slots : Nat} {ls : Array Slot} (hc : cells ≤ room_1.cells ∧ slots ≤ room_1.slots) (hE : EW D (aL s) s.heap (wL g σ τ v) H locs) (hl : lv_has ls 8 (lvL g b i))
    (next : ∀ (σ1 τ1 : St) (H : Heap) (locs : List Loc) (ls : Array Slot), R32 σ1 → R32 τ1 → S (k + 1) σ1 τ1 → EW D (aL s) s.heap (wL g σ1 τ1 v) H locs → lv_has ls 8 (lvL g b i) → W p l e room_1 s m #[Value.ref b] below meth c H locs cells slots Q (F0 m 2401 ls [])) : W p l e room_1 s m #[Value.ref b] below meth c H locs cells slots Q (F0 m 1696 ls []) := by
  have C0 := hC.1
  obtain ⟨a1, e_a1, i_a1⟩ : ∃ a, a = (xs (i + 1).toNat).toInt ∧ in32 a := ⟨_, rfl, in32_toInt _⟩
  obtain ⟨a2, e_a2, i_a2⟩ : ∃ a, a = (xs (i + 2).toNat).toInt ∧ in32 a := ⟨_, rfl, in32_toInt _⟩
  obtain ⟨r, σ1, τ1, h_E, h_M, h_S⟩ := HN k σ τ a1 a2 hk hR hR9 hS i_a1 i_a2
  refine lv_aload_n C0.1 C0.2.1 dL_law_1696 rfl (lv_at hl 1 rfl) ?_
  refine lv_aload_n C0.1 C0.2.1 dL_law_1697 rfl (lv_at hl 0 rfl) ?_
  refine lv_iload C0.1 C0.2.1 dL_law_1698 (lv_at hl 4 rfl) ?_
  refine lv_iconst (v := I 1) C0.1 C0.2.1 dL_law_1700 rfl ?_
  refine x_add (v := i + 1) C0 rfl dL_law_1701 ?_
  refine x_sld hC hE (by omega) (by omega) e_a1 dL_law_1702 ?_
  refine lv_aload_n C0.1 C0.2.1 dL_law_1703 rfl (lv_at hl 0 rfl) ?_
  refine lv_iload C0.1 C0.2.1 dL_law_1704 (lv_at hl 4 rfl) ?_
  refine lv_iconst (v := I 2) C0.1 C0.2.1 dL_law_1706 rfl ?_
  refine x_add (v := i + 2) C0 rfl dL_law_1707 ?_
  refine x_sld hC hE (by omega) (by omega) e_a2 dL_law_1708 ?_
  refine lawE_i (rest := []) (σ' := σ1) C0 hC.2.1 hE (c_E_pop l D g hR i_a1 i_a2 h_E) kw_L_153 ⟨Nat.le_of_ble_eq_true rfl, Nat.le_of_ble_eq_true rfl⟩ rfl hl.1 rfl (Nat.le_of_ble_eq_true rfl) dL_law_1709 hc (fun H locs hE ⟨i_r, hR⟩ => ?_)
  refine lv_aload_n C0.1 C0.2.1 dL_law_1712 rfl (lv_at hl 2 rfl) ?_
  refine lv_aload_n C0.1 C0.2.1 dL_law_1713 rfl (lv_at hl 0 rfl) ?_
  refine lv_iload C0.1 C0.2.1 dL_law_1714 (lv_at hl 4 rfl) ?_
  refine lv_iconst (v := I 1) C0.1 C0.2.1 dL_law_1716 rfl ?_
  refine x_add (v := i + 1) C0 rfl dL_law_1717 ?_
  refine x_sld hC hE (by omega) (by omega) e_a1 dL_law_1718 ?_
  refine lv_aload_n C0.1 C0.2.1 dL_law_1719 rfl (lv_at hl 0 rfl) ?_
  refine lv_iload C0.1 C0.2.1 dL_law_1720 (lv_at hl 4 rfl) ?_
  refine lv_iconst (v := I 2) C0.1 C0.2.1 dL_law_1722 rfl ?_
  refine x_add (v := i + 2) C0 rfl dL_law_1723 ?_
  refine x_sld hC hE (by omega) (by omega) e_a2 dL_law_1724 ?_
  refine lawM_i (rest := [.int (I r)]) (τ' := τ1) C0 hC.2.1 hE (c_M_pop l D g hR9 i_a1 i_a2 h_M) kw_L_156 ⟨Nat.le_of_ble_eq_true rfl, Nat.le_of_ble_eq_true rfl⟩ rfl hl.1 rfl (Nat.le_of_ble_eq_true rfl) dL_law_1725 hc (fun H locs hE ⟨i_r9, hR9⟩ => ?_)
  refine x_icmp_eq C0 i_r i_r9 dL_law_1728 (tgt := 2401) (by decide) (fun _ => ?_) (fun c9 => absurd rfl c9)
  exact next σ1 τ1 H locs ls hR hR9 h_S hE hl
def HS_33 (S : Nat → St → St → Prop) : Prop := ∀ (k : Nat) (σ τ : St) (z0 : Int) (z1 : Int), k < 512 → R32 σ → R32 τ → S k σ τ → in32 z0 → in32 z1 → ∃ (r : Int) (σ1 τ1 : St), E_heaps σ z0 z1 = some (r, σ1) ∧ M_heaps τ z0 z1 = some (r, τ1) ∧ S (k + 1) σ1 τ1
set_option maxRecDepth 100000 in
set_option maxHeartbeats 4000000 in
theorem law_c33 {p : Program} {l : Launch} {e : Env} {s : State} {m : MethodId} {below : List Frame} {meth : Method} {c : Code} {Q : State → Prop} {D : va_G} {g : Ad} {b L : Nat} {xs : Nat → Int32} {S : Nat → St → St → Prop} (HN : HS_33 S) (hC : LC p s m meth c b L xs D g) {k : Nat} {σ τ : St} {v i : Int} (hk : k < 512) (hR : R32 σ) (hR9 : R32 τ) (hS : S k σ τ) (h0 : 0 ≤ i) (hiL : i + 6 ≤ L) {H : Heap} {locs : List Loc} {cells slots : Nat} {ls : Array Slot} (hc : cells ≤ room_1.cells ∧ slots ≤ room_1.slots) (hE : EW D (aL s) s.heap (wL g σ τ v) H locs) (hl : lv_has ls 8 (lvL g b i))
    (next : ∀ (σ1 τ1 : St) (H : Heap) (locs : List Loc) (ls : Array Slot), R32 σ1 → R32 τ1 → S (k + 1) σ1 τ1 → EW D (aL s) s.heap (wL g σ1 τ1 v) H locs → lv_has ls 8 (lvL g b i) → W p l e room_1 s m #[Value.ref b] below meth c H locs cells slots Q (F0 m 2401 ls [])) : W p l e room_1 s m #[Value.ref b] below meth c H locs cells slots Q (F0 m 1733 ls []) := by
  have C0 := hC.1
  obtain ⟨a1, e_a1, i_a1⟩ : ∃ a, a = (xs (i + 1).toNat).toInt ∧ in32 a := ⟨_, rfl, in32_toInt _⟩
  obtain ⟨a2, e_a2, i_a2⟩ : ∃ a, a = (xs (i + 2).toNat).toInt ∧ in32 a := ⟨_, rfl, in32_toInt _⟩
  obtain ⟨r, σ1, τ1, h_E, h_M, h_S⟩ := HN k σ τ a1 a2 hk hR hR9 hS i_a1 i_a2
  refine lv_aload_n C0.1 C0.2.1 dL_law_1733 rfl (lv_at hl 1 rfl) ?_
  refine lv_aload_n C0.1 C0.2.1 dL_law_1734 rfl (lv_at hl 0 rfl) ?_
  refine lv_iload C0.1 C0.2.1 dL_law_1735 (lv_at hl 4 rfl) ?_
  refine lv_iconst (v := I 1) C0.1 C0.2.1 dL_law_1737 rfl ?_
  refine x_add (v := i + 1) C0 rfl dL_law_1738 ?_
  refine x_sld hC hE (by omega) (by omega) e_a1 dL_law_1739 ?_
  refine lv_aload_n C0.1 C0.2.1 dL_law_1740 rfl (lv_at hl 0 rfl) ?_
  refine lv_iload C0.1 C0.2.1 dL_law_1741 (lv_at hl 4 rfl) ?_
  refine lv_iconst (v := I 2) C0.1 C0.2.1 dL_law_1743 rfl ?_
  refine x_add (v := i + 2) C0 rfl dL_law_1744 ?_
  refine x_sld hC hE (by omega) (by omega) e_a2 dL_law_1745 ?_
  refine lawE_i (rest := []) (σ' := σ1) C0 hC.2.1 hE (c_E_heaps l D g hR i_a1 i_a2 h_E) kw_L_157 ⟨Nat.le_of_ble_eq_true rfl, Nat.le_of_ble_eq_true rfl⟩ rfl hl.1 rfl (Nat.le_of_ble_eq_true rfl) dL_law_1746 hc (fun H locs hE ⟨i_r, hR⟩ => ?_)
  refine lv_aload_n C0.1 C0.2.1 dL_law_1749 rfl (lv_at hl 2 rfl) ?_
  refine lv_aload_n C0.1 C0.2.1 dL_law_1750 rfl (lv_at hl 0 rfl) ?_
  refine lv_iload C0.1 C0.2.1 dL_law_1751 (lv_at hl 4 rfl) ?_
  refine lv_iconst (v := I 1) C0.1 C0.2.1 dL_law_1753 rfl ?_
  refine x_add (v := i + 1) C0 rfl dL_law_1754 ?_
  refine x_sld hC hE (by omega) (by omega) e_a1 dL_law_1755 ?_
  refine lv_aload_n C0.1 C0.2.1 dL_law_1756 rfl (lv_at hl 0 rfl) ?_
  refine lv_iload C0.1 C0.2.1 dL_law_1757 (lv_at hl 4 rfl) ?_
  refine lv_iconst (v := I 2) C0.1 C0.2.1 dL_law_1759 rfl ?_
  refine x_add (v := i + 2) C0 rfl dL_law_1760 ?_
  refine x_sld hC hE (by omega) (by omega) e_a2 dL_law_1761 ?_
  refine lawM_i (rest := [.int (I r)]) (τ' := τ1) C0 hC.2.1 hE (c_M_heaps l D g hR9 i_a1 i_a2 h_M) kw_L_160 ⟨Nat.le_of_ble_eq_true rfl, Nat.le_of_ble_eq_true rfl⟩ rfl hl.1 rfl (Nat.le_of_ble_eq_true rfl) dL_law_1762 hc (fun H locs hE ⟨i_r9, hR9⟩ => ?_)
  refine x_icmp_eq C0 i_r i_r9 dL_law_1765 (tgt := 2401) (by decide) (fun _ => ?_) (fun c9 => absurd rfl c9)
  exact next σ1 τ1 H locs ls hR hR9 h_S hE hl
def HS_34 (S : Nat → St → St → Prop) : Prop := ∀ (k : Nat) (σ τ : St) (z0 : Int) (z1 : Int), k < 512 → R32 σ → R32 τ → S k σ τ → in32 z0 → in32 z1 → ∃ (r : Int) (σ1 τ1 : St), E_numbers σ z0 z1 = some (r, σ1) ∧ M_numbers τ z0 z1 = some (r, τ1) ∧ S (k + 1) σ1 τ1
set_option maxRecDepth 100000 in
set_option maxHeartbeats 4000000 in
theorem law_c34 {p : Program} {l : Launch} {e : Env} {s : State} {m : MethodId} {below : List Frame} {meth : Method} {c : Code} {Q : State → Prop} {D : va_G} {g : Ad} {b L : Nat} {xs : Nat → Int32} {S : Nat → St → St → Prop} (HN : HS_34 S) (hC : LC p s m meth c b L xs D g) {k : Nat} {σ τ : St} {v i : Int} (hk : k < 512) (hR : R32 σ) (hR9 : R32 τ) (hS : S k σ τ) (h0 : 0 ≤ i) (hiL : i + 6 ≤ L) {H : Heap} {locs : List Loc} {cells slots : Nat} {ls : Array Slot} (hc : cells ≤ room_1.cells ∧ slots ≤ room_1.slots) (hE : EW D (aL s) s.heap (wL g σ τ v) H locs) (hl : lv_has ls 8 (lvL g b i))
    (next : ∀ (σ1 τ1 : St) (H : Heap) (locs : List Loc) (ls : Array Slot), R32 σ1 → R32 τ1 → S (k + 1) σ1 τ1 → EW D (aL s) s.heap (wL g σ1 τ1 v) H locs → lv_has ls 8 (lvL g b i) → W p l e room_1 s m #[Value.ref b] below meth c H locs cells slots Q (F0 m 2401 ls [])) : W p l e room_1 s m #[Value.ref b] below meth c H locs cells slots Q (F0 m 1770 ls []) := by
  have C0 := hC.1
  obtain ⟨a1, e_a1, i_a1⟩ : ∃ a, a = (xs (i + 1).toNat).toInt ∧ in32 a := ⟨_, rfl, in32_toInt _⟩
  obtain ⟨a2, e_a2, i_a2⟩ : ∃ a, a = (xs (i + 2).toNat).toInt ∧ in32 a := ⟨_, rfl, in32_toInt _⟩
  obtain ⟨r, σ1, τ1, h_E, h_M, h_S⟩ := HN k σ τ a1 a2 hk hR hR9 hS i_a1 i_a2
  refine lv_aload_n C0.1 C0.2.1 dL_law_1770 rfl (lv_at hl 1 rfl) ?_
  refine lv_aload_n C0.1 C0.2.1 dL_law_1771 rfl (lv_at hl 0 rfl) ?_
  refine lv_iload C0.1 C0.2.1 dL_law_1772 (lv_at hl 4 rfl) ?_
  refine lv_iconst (v := I 1) C0.1 C0.2.1 dL_law_1774 rfl ?_
  refine x_add (v := i + 1) C0 rfl dL_law_1775 ?_
  refine x_sld hC hE (by omega) (by omega) e_a1 dL_law_1776 ?_
  refine lv_aload_n C0.1 C0.2.1 dL_law_1777 rfl (lv_at hl 0 rfl) ?_
  refine lv_iload C0.1 C0.2.1 dL_law_1778 (lv_at hl 4 rfl) ?_
  refine lv_iconst (v := I 2) C0.1 C0.2.1 dL_law_1780 rfl ?_
  refine x_add (v := i + 2) C0 rfl dL_law_1781 ?_
  refine x_sld hC hE (by omega) (by omega) e_a2 dL_law_1782 ?_
  refine lawE_i (rest := []) (σ' := σ1) C0 hC.2.1 hE (c_E_numbers l D g hR i_a1 i_a2 h_E) kw_L_161 ⟨Nat.le_of_ble_eq_true rfl, Nat.le_of_ble_eq_true rfl⟩ rfl hl.1 rfl (Nat.le_of_ble_eq_true rfl) dL_law_1783 hc (fun H locs hE ⟨i_r, hR⟩ => ?_)
  refine lv_aload_n C0.1 C0.2.1 dL_law_1786 rfl (lv_at hl 2 rfl) ?_
  refine lv_aload_n C0.1 C0.2.1 dL_law_1787 rfl (lv_at hl 0 rfl) ?_
  refine lv_iload C0.1 C0.2.1 dL_law_1788 (lv_at hl 4 rfl) ?_
  refine lv_iconst (v := I 1) C0.1 C0.2.1 dL_law_1790 rfl ?_
  refine x_add (v := i + 1) C0 rfl dL_law_1791 ?_
  refine x_sld hC hE (by omega) (by omega) e_a1 dL_law_1792 ?_
  refine lv_aload_n C0.1 C0.2.1 dL_law_1793 rfl (lv_at hl 0 rfl) ?_
  refine lv_iload C0.1 C0.2.1 dL_law_1794 (lv_at hl 4 rfl) ?_
  refine lv_iconst (v := I 2) C0.1 C0.2.1 dL_law_1796 rfl ?_
  refine x_add (v := i + 2) C0 rfl dL_law_1797 ?_
  refine x_sld hC hE (by omega) (by omega) e_a2 dL_law_1798 ?_
  refine lawM_i (rest := [.int (I r)]) (τ' := τ1) C0 hC.2.1 hE (c_M_numbers l D g hR9 i_a1 i_a2 h_M) kw_L_164 ⟨Nat.le_of_ble_eq_true rfl, Nat.le_of_ble_eq_true rfl⟩ rfl hl.1 rfl (Nat.le_of_ble_eq_true rfl) dL_law_1799 hc (fun H locs hE ⟨i_r9, hR9⟩ => ?_)
  refine x_icmp_eq C0 i_r i_r9 dL_law_1802 (tgt := 2401) (by decide) (fun _ => ?_) (fun c9 => absurd rfl c9)
  exact next σ1 τ1 H locs ls hR hR9 h_S hE hl
def HS_35 (S : Nat → St → St → Prop) : Prop := ∀ (k : Nat) (σ τ : St) (z0 : Int) (z1 : Int) (z2 : Int), k < 512 → R32 σ → R32 τ → S k σ τ → in32 z0 → in32 z1 → in32 z2 → ∃ (r : Int) (σ1 τ1 : St), E_sum σ z0 z1 z2 = some (r, σ1) ∧ M_sum τ z0 z1 z2 = some (r, τ1) ∧ S (k + 1) σ1 τ1
set_option maxRecDepth 100000 in
set_option maxHeartbeats 4000000 in
theorem law_c35 {p : Program} {l : Launch} {e : Env} {s : State} {m : MethodId} {below : List Frame} {meth : Method} {c : Code} {Q : State → Prop} {D : va_G} {g : Ad} {b L : Nat} {xs : Nat → Int32} {S : Nat → St → St → Prop} (HN : HS_35 S) (hC : LC p s m meth c b L xs D g) {k : Nat} {σ τ : St} {v i : Int} (hk : k < 512) (hR : R32 σ) (hR9 : R32 τ) (hS : S k σ τ) (h0 : 0 ≤ i) (hiL : i + 6 ≤ L) {H : Heap} {locs : List Loc} {cells slots : Nat} {ls : Array Slot} (hc : cells ≤ room_1.cells ∧ slots ≤ room_1.slots) (hE : EW D (aL s) s.heap (wL g σ τ v) H locs) (hl : lv_has ls 8 (lvL g b i))
    (next : ∀ (σ1 τ1 : St) (H : Heap) (locs : List Loc) (ls : Array Slot), R32 σ1 → R32 τ1 → S (k + 1) σ1 τ1 → EW D (aL s) s.heap (wL g σ1 τ1 v) H locs → lv_has ls 8 (lvL g b i) → W p l e room_1 s m #[Value.ref b] below meth c H locs cells slots Q (F0 m 2401 ls [])) : W p l e room_1 s m #[Value.ref b] below meth c H locs cells slots Q (F0 m 1807 ls []) := by
  have C0 := hC.1
  obtain ⟨a1, e_a1, i_a1⟩ : ∃ a, a = (xs (i + 1).toNat).toInt ∧ in32 a := ⟨_, rfl, in32_toInt _⟩
  obtain ⟨a2, e_a2, i_a2⟩ : ∃ a, a = (xs (i + 2).toNat).toInt ∧ in32 a := ⟨_, rfl, in32_toInt _⟩
  obtain ⟨a3, e_a3, i_a3⟩ : ∃ a, a = (xs (i + 3).toNat).toInt ∧ in32 a := ⟨_, rfl, in32_toInt _⟩
  obtain ⟨r, σ1, τ1, h_E, h_M, h_S⟩ := HN k σ τ a1 a2 a3 hk hR hR9 hS i_a1 i_a2 i_a3
  refine lv_aload_n C0.1 C0.2.1 dL_law_1807 rfl (lv_at hl 1 rfl) ?_
  refine lv_aload_n C0.1 C0.2.1 dL_law_1808 rfl (lv_at hl 0 rfl) ?_
  refine lv_iload C0.1 C0.2.1 dL_law_1809 (lv_at hl 4 rfl) ?_
  refine lv_iconst (v := I 1) C0.1 C0.2.1 dL_law_1811 rfl ?_
  refine x_add (v := i + 1) C0 rfl dL_law_1812 ?_
  refine x_sld hC hE (by omega) (by omega) e_a1 dL_law_1813 ?_
  refine lv_aload_n C0.1 C0.2.1 dL_law_1814 rfl (lv_at hl 0 rfl) ?_
  refine lv_iload C0.1 C0.2.1 dL_law_1815 (lv_at hl 4 rfl) ?_
  refine lv_iconst (v := I 2) C0.1 C0.2.1 dL_law_1817 rfl ?_
  refine x_add (v := i + 2) C0 rfl dL_law_1818 ?_
  refine x_sld hC hE (by omega) (by omega) e_a2 dL_law_1819 ?_
  refine lv_aload_n C0.1 C0.2.1 dL_law_1820 rfl (lv_at hl 0 rfl) ?_
  refine lv_iload C0.1 C0.2.1 dL_law_1821 (lv_at hl 4 rfl) ?_
  refine lv_iconst (v := I 3) C0.1 C0.2.1 dL_law_1823 rfl ?_
  refine x_add (v := i + 3) C0 rfl dL_law_1824 ?_
  refine x_sld hC hE (by omega) (by omega) e_a3 dL_law_1825 ?_
  refine lawE_i (rest := []) (σ' := σ1) C0 hC.2.1 hE (c_E_sum l D g hR i_a1 i_a2 i_a3 h_E) kw_L_165 ⟨Nat.le_of_ble_eq_true rfl, Nat.le_of_ble_eq_true rfl⟩ rfl hl.1 rfl (Nat.le_of_ble_eq_true rfl) dL_law_1826 hc (fun H locs hE ⟨i_r, hR⟩ => ?_)
  refine lv_aload_n C0.1 C0.2.1 dL_law_1829 rfl (lv_at hl 2 rfl) ?_
  refine lv_aload_n C0.1 C0.2.1 dL_law_1830 rfl (lv_at hl 0 rfl) ?_
  refine lv_iload C0.1 C0.2.1 dL_law_1831 (lv_at hl 4 rfl) ?_
  refine lv_iconst (v := I 1) C0.1 C0.2.1 dL_law_1833 rfl ?_
  refine x_add (v := i + 1) C0 rfl dL_law_1834 ?_
  refine x_sld hC hE (by omega) (by omega) e_a1 dL_law_1835 ?_
  refine lv_aload_n C0.1 C0.2.1 dL_law_1836 rfl (lv_at hl 0 rfl) ?_
  refine lv_iload C0.1 C0.2.1 dL_law_1837 (lv_at hl 4 rfl) ?_
  refine lv_iconst (v := I 2) C0.1 C0.2.1 dL_law_1839 rfl ?_
  refine x_add (v := i + 2) C0 rfl dL_law_1840 ?_
  refine x_sld hC hE (by omega) (by omega) e_a2 dL_law_1841 ?_
  refine lv_aload_n C0.1 C0.2.1 dL_law_1842 rfl (lv_at hl 0 rfl) ?_
  refine lv_iload C0.1 C0.2.1 dL_law_1843 (lv_at hl 4 rfl) ?_
  refine lv_iconst (v := I 3) C0.1 C0.2.1 dL_law_1845 rfl ?_
  refine x_add (v := i + 3) C0 rfl dL_law_1846 ?_
  refine x_sld hC hE (by omega) (by omega) e_a3 dL_law_1847 ?_
  refine lawM_i (rest := [.int (I r)]) (τ' := τ1) C0 hC.2.1 hE (c_M_sum l D g hR9 i_a1 i_a2 i_a3 h_M) kw_L_168 ⟨Nat.le_of_ble_eq_true rfl, Nat.le_of_ble_eq_true rfl⟩ rfl hl.1 rfl (Nat.le_of_ble_eq_true rfl) dL_law_1848 hc (fun H locs hE ⟨i_r9, hR9⟩ => ?_)
  refine x_icmp_eq C0 i_r i_r9 dL_law_1851 (tgt := 2401) (by decide) (fun _ => ?_) (fun c9 => absurd rfl c9)
  exact next σ1 τ1 H locs ls hR hR9 h_S hE hl
def HS_36 (S : Nat → St → St → Prop) : Prop := ∀ (k : Nat) (σ τ : St) (z0 : Int) (z1 : Int), k < 512 → R32 σ → R32 τ → S k σ τ → in32 z0 → in32 z1 → ∃ (r : Int) (σ1 τ1 : St), E_finds σ z0 z1 = some (r, σ1) ∧ M_finds τ z0 z1 = some (r, τ1) ∧ S (k + 1) σ1 τ1
set_option maxRecDepth 100000 in
set_option maxHeartbeats 4000000 in
theorem law_c36 {p : Program} {l : Launch} {e : Env} {s : State} {m : MethodId} {below : List Frame} {meth : Method} {c : Code} {Q : State → Prop} {D : va_G} {g : Ad} {b L : Nat} {xs : Nat → Int32} {S : Nat → St → St → Prop} (HN : HS_36 S) (hC : LC p s m meth c b L xs D g) {k : Nat} {σ τ : St} {v i : Int} (hk : k < 512) (hR : R32 σ) (hR9 : R32 τ) (hS : S k σ τ) (h0 : 0 ≤ i) (hiL : i + 6 ≤ L) {H : Heap} {locs : List Loc} {cells slots : Nat} {ls : Array Slot} (hc : cells ≤ room_1.cells ∧ slots ≤ room_1.slots) (hE : EW D (aL s) s.heap (wL g σ τ v) H locs) (hl : lv_has ls 8 (lvL g b i))
    (next : ∀ (σ1 τ1 : St) (H : Heap) (locs : List Loc) (ls : Array Slot), R32 σ1 → R32 τ1 → S (k + 1) σ1 τ1 → EW D (aL s) s.heap (wL g σ1 τ1 v) H locs → lv_has ls 8 (lvL g b i) → W p l e room_1 s m #[Value.ref b] below meth c H locs cells slots Q (F0 m 2401 ls [])) : W p l e room_1 s m #[Value.ref b] below meth c H locs cells slots Q (F0 m 1856 ls []) := by
  have C0 := hC.1
  obtain ⟨a1, e_a1, i_a1⟩ : ∃ a, a = (xs (i + 1).toNat).toInt ∧ in32 a := ⟨_, rfl, in32_toInt _⟩
  obtain ⟨a2, e_a2, i_a2⟩ : ∃ a, a = (xs (i + 2).toNat).toInt ∧ in32 a := ⟨_, rfl, in32_toInt _⟩
  obtain ⟨r, σ1, τ1, h_E, h_M, h_S⟩ := HN k σ τ a1 a2 hk hR hR9 hS i_a1 i_a2
  refine lv_aload_n C0.1 C0.2.1 dL_law_1856 rfl (lv_at hl 1 rfl) ?_
  refine lv_aload_n C0.1 C0.2.1 dL_law_1857 rfl (lv_at hl 0 rfl) ?_
  refine lv_iload C0.1 C0.2.1 dL_law_1858 (lv_at hl 4 rfl) ?_
  refine lv_iconst (v := I 1) C0.1 C0.2.1 dL_law_1860 rfl ?_
  refine x_add (v := i + 1) C0 rfl dL_law_1861 ?_
  refine x_sld hC hE (by omega) (by omega) e_a1 dL_law_1862 ?_
  refine lv_aload_n C0.1 C0.2.1 dL_law_1863 rfl (lv_at hl 0 rfl) ?_
  refine lv_iload C0.1 C0.2.1 dL_law_1864 (lv_at hl 4 rfl) ?_
  refine lv_iconst (v := I 2) C0.1 C0.2.1 dL_law_1866 rfl ?_
  refine x_add (v := i + 2) C0 rfl dL_law_1867 ?_
  refine x_sld hC hE (by omega) (by omega) e_a2 dL_law_1868 ?_
  refine lawE_i (rest := []) (σ' := σ1) C0 hC.2.1 hE (c_E_finds l D g hR i_a1 i_a2 h_E) kw_L_169 ⟨Nat.le_of_ble_eq_true rfl, Nat.le_of_ble_eq_true rfl⟩ rfl hl.1 rfl (Nat.le_of_ble_eq_true rfl) dL_law_1869 hc (fun H locs hE ⟨i_r, hR⟩ => ?_)
  refine lv_aload_n C0.1 C0.2.1 dL_law_1872 rfl (lv_at hl 2 rfl) ?_
  refine lv_aload_n C0.1 C0.2.1 dL_law_1873 rfl (lv_at hl 0 rfl) ?_
  refine lv_iload C0.1 C0.2.1 dL_law_1874 (lv_at hl 4 rfl) ?_
  refine lv_iconst (v := I 1) C0.1 C0.2.1 dL_law_1876 rfl ?_
  refine x_add (v := i + 1) C0 rfl dL_law_1877 ?_
  refine x_sld hC hE (by omega) (by omega) e_a1 dL_law_1878 ?_
  refine lv_aload_n C0.1 C0.2.1 dL_law_1879 rfl (lv_at hl 0 rfl) ?_
  refine lv_iload C0.1 C0.2.1 dL_law_1880 (lv_at hl 4 rfl) ?_
  refine lv_iconst (v := I 2) C0.1 C0.2.1 dL_law_1882 rfl ?_
  refine x_add (v := i + 2) C0 rfl dL_law_1883 ?_
  refine x_sld hC hE (by omega) (by omega) e_a2 dL_law_1884 ?_
  refine lawM_i (rest := [.int (I r)]) (τ' := τ1) C0 hC.2.1 hE (c_M_finds l D g hR9 i_a1 i_a2 h_M) kw_L_172 ⟨Nat.le_of_ble_eq_true rfl, Nat.le_of_ble_eq_true rfl⟩ rfl hl.1 rfl (Nat.le_of_ble_eq_true rfl) dL_law_1885 hc (fun H locs hE ⟨i_r9, hR9⟩ => ?_)
  refine x_icmp_eq C0 i_r i_r9 dL_law_1888 (tgt := 2401) (by decide) (fun _ => ?_) (fun c9 => absurd rfl c9)
  exact next σ1 τ1 H locs ls hR hR9 h_S hE hl
def HS_37 (S : Nat → St → St → Prop) : Prop := ∀ (k : Nat) (σ τ : St) (z0 : Int) (z1 : Int), k < 512 → R32 σ → R32 τ → S k σ τ → in32 z0 → in32 z1 → ∃ (r : Int) (σ1 τ1 : St), E_same σ z0 z1 = some (r, σ1) ∧ M_same τ z0 z1 = some (r, τ1) ∧ S (k + 1) σ1 τ1
set_option maxRecDepth 100000 in
set_option maxHeartbeats 4000000 in
theorem law_c37 {p : Program} {l : Launch} {e : Env} {s : State} {m : MethodId} {below : List Frame} {meth : Method} {c : Code} {Q : State → Prop} {D : va_G} {g : Ad} {b L : Nat} {xs : Nat → Int32} {S : Nat → St → St → Prop} (HN : HS_37 S) (hC : LC p s m meth c b L xs D g) {k : Nat} {σ τ : St} {v i : Int} (hk : k < 512) (hR : R32 σ) (hR9 : R32 τ) (hS : S k σ τ) (h0 : 0 ≤ i) (hiL : i + 6 ≤ L) {H : Heap} {locs : List Loc} {cells slots : Nat} {ls : Array Slot} (hc : cells ≤ room_1.cells ∧ slots ≤ room_1.slots) (hE : EW D (aL s) s.heap (wL g σ τ v) H locs) (hl : lv_has ls 8 (lvL g b i))
    (next : ∀ (σ1 τ1 : St) (H : Heap) (locs : List Loc) (ls : Array Slot), R32 σ1 → R32 τ1 → S (k + 1) σ1 τ1 → EW D (aL s) s.heap (wL g σ1 τ1 v) H locs → lv_has ls 8 (lvL g b i) → W p l e room_1 s m #[Value.ref b] below meth c H locs cells slots Q (F0 m 2401 ls [])) : W p l e room_1 s m #[Value.ref b] below meth c H locs cells slots Q (F0 m 1893 ls []) := by
  have C0 := hC.1
  obtain ⟨a1, e_a1, i_a1⟩ : ∃ a, a = (xs (i + 1).toNat).toInt ∧ in32 a := ⟨_, rfl, in32_toInt _⟩
  obtain ⟨a2, e_a2, i_a2⟩ : ∃ a, a = (xs (i + 2).toNat).toInt ∧ in32 a := ⟨_, rfl, in32_toInt _⟩
  obtain ⟨r, σ1, τ1, h_E, h_M, h_S⟩ := HN k σ τ a1 a2 hk hR hR9 hS i_a1 i_a2
  refine lv_aload_n C0.1 C0.2.1 dL_law_1893 rfl (lv_at hl 1 rfl) ?_
  refine lv_aload_n C0.1 C0.2.1 dL_law_1894 rfl (lv_at hl 0 rfl) ?_
  refine lv_iload C0.1 C0.2.1 dL_law_1895 (lv_at hl 4 rfl) ?_
  refine lv_iconst (v := I 1) C0.1 C0.2.1 dL_law_1897 rfl ?_
  refine x_add (v := i + 1) C0 rfl dL_law_1898 ?_
  refine x_sld hC hE (by omega) (by omega) e_a1 dL_law_1899 ?_
  refine lv_aload_n C0.1 C0.2.1 dL_law_1900 rfl (lv_at hl 0 rfl) ?_
  refine lv_iload C0.1 C0.2.1 dL_law_1901 (lv_at hl 4 rfl) ?_
  refine lv_iconst (v := I 2) C0.1 C0.2.1 dL_law_1903 rfl ?_
  refine x_add (v := i + 2) C0 rfl dL_law_1904 ?_
  refine x_sld hC hE (by omega) (by omega) e_a2 dL_law_1905 ?_
  refine lawE_i (rest := []) (σ' := σ1) C0 hC.2.1 hE (c_E_same l D g hR i_a1 i_a2 h_E) kw_L_173 ⟨Nat.le_of_ble_eq_true rfl, Nat.le_of_ble_eq_true rfl⟩ rfl hl.1 rfl (Nat.le_of_ble_eq_true rfl) dL_law_1906 hc (fun H locs hE ⟨i_r, hR⟩ => ?_)
  refine lv_aload_n C0.1 C0.2.1 dL_law_1909 rfl (lv_at hl 2 rfl) ?_
  refine lv_aload_n C0.1 C0.2.1 dL_law_1910 rfl (lv_at hl 0 rfl) ?_
  refine lv_iload C0.1 C0.2.1 dL_law_1911 (lv_at hl 4 rfl) ?_
  refine lv_iconst (v := I 1) C0.1 C0.2.1 dL_law_1913 rfl ?_
  refine x_add (v := i + 1) C0 rfl dL_law_1914 ?_
  refine x_sld hC hE (by omega) (by omega) e_a1 dL_law_1915 ?_
  refine lv_aload_n C0.1 C0.2.1 dL_law_1916 rfl (lv_at hl 0 rfl) ?_
  refine lv_iload C0.1 C0.2.1 dL_law_1917 (lv_at hl 4 rfl) ?_
  refine lv_iconst (v := I 2) C0.1 C0.2.1 dL_law_1919 rfl ?_
  refine x_add (v := i + 2) C0 rfl dL_law_1920 ?_
  refine x_sld hC hE (by omega) (by omega) e_a2 dL_law_1921 ?_
  refine lawM_i (rest := [.int (I r)]) (τ' := τ1) C0 hC.2.1 hE (c_M_same l D g hR9 i_a1 i_a2 h_M) kw_L_176 ⟨Nat.le_of_ble_eq_true rfl, Nat.le_of_ble_eq_true rfl⟩ rfl hl.1 rfl (Nat.le_of_ble_eq_true rfl) dL_law_1922 hc (fun H locs hE ⟨i_r9, hR9⟩ => ?_)
  refine x_icmp_eq C0 i_r i_r9 dL_law_1925 (tgt := 2401) (by decide) (fun _ => ?_) (fun c9 => absurd rfl c9)
  exact next σ1 τ1 H locs ls hR hR9 h_S hE hl
def HS_38 (S : Nat → St → St → Prop) : Prop := ∀ (k : Nat) (σ τ : St) (z0 : Int) (z1 : Int), k < 512 → R32 σ → R32 τ → S k σ τ → in32 z0 → in32 z1 → ∃ (r : Int) (σ1 τ1 : St), E_search σ z0 z1 = some (r, σ1) ∧ M_search τ z0 z1 = some (r, τ1) ∧ S (k + 1) σ1 τ1
set_option maxRecDepth 100000 in
set_option maxHeartbeats 4000000 in
theorem law_c38 {p : Program} {l : Launch} {e : Env} {s : State} {m : MethodId} {below : List Frame} {meth : Method} {c : Code} {Q : State → Prop} {D : va_G} {g : Ad} {b L : Nat} {xs : Nat → Int32} {S : Nat → St → St → Prop} (HN : HS_38 S) (hC : LC p s m meth c b L xs D g) {k : Nat} {σ τ : St} {v i : Int} (hk : k < 512) (hR : R32 σ) (hR9 : R32 τ) (hS : S k σ τ) (h0 : 0 ≤ i) (hiL : i + 6 ≤ L) {H : Heap} {locs : List Loc} {cells slots : Nat} {ls : Array Slot} (hc : cells ≤ room_1.cells ∧ slots ≤ room_1.slots) (hE : EW D (aL s) s.heap (wL g σ τ v) H locs) (hl : lv_has ls 8 (lvL g b i))
    (next : ∀ (σ1 τ1 : St) (H : Heap) (locs : List Loc) (ls : Array Slot), R32 σ1 → R32 τ1 → S (k + 1) σ1 τ1 → EW D (aL s) s.heap (wL g σ1 τ1 v) H locs → lv_has ls 8 (lvL g b i) → W p l e room_1 s m #[Value.ref b] below meth c H locs cells slots Q (F0 m 2401 ls [])) : W p l e room_1 s m #[Value.ref b] below meth c H locs cells slots Q (F0 m 1930 ls []) := by
  have C0 := hC.1
  obtain ⟨a1, e_a1, i_a1⟩ : ∃ a, a = (xs (i + 1).toNat).toInt ∧ in32 a := ⟨_, rfl, in32_toInt _⟩
  obtain ⟨a2, e_a2, i_a2⟩ : ∃ a, a = (xs (i + 2).toNat).toInt ∧ in32 a := ⟨_, rfl, in32_toInt _⟩
  obtain ⟨r, σ1, τ1, h_E, h_M, h_S⟩ := HN k σ τ a1 a2 hk hR hR9 hS i_a1 i_a2
  refine lv_aload_n C0.1 C0.2.1 dL_law_1930 rfl (lv_at hl 1 rfl) ?_
  refine lv_aload_n C0.1 C0.2.1 dL_law_1931 rfl (lv_at hl 0 rfl) ?_
  refine lv_iload C0.1 C0.2.1 dL_law_1932 (lv_at hl 4 rfl) ?_
  refine lv_iconst (v := I 1) C0.1 C0.2.1 dL_law_1934 rfl ?_
  refine x_add (v := i + 1) C0 rfl dL_law_1935 ?_
  refine x_sld hC hE (by omega) (by omega) e_a1 dL_law_1936 ?_
  refine lv_aload_n C0.1 C0.2.1 dL_law_1937 rfl (lv_at hl 0 rfl) ?_
  refine lv_iload C0.1 C0.2.1 dL_law_1938 (lv_at hl 4 rfl) ?_
  refine lv_iconst (v := I 2) C0.1 C0.2.1 dL_law_1940 rfl ?_
  refine x_add (v := i + 2) C0 rfl dL_law_1941 ?_
  refine x_sld hC hE (by omega) (by omega) e_a2 dL_law_1942 ?_
  refine lawE_i (rest := []) (σ' := σ1) C0 hC.2.1 hE (c_E_search l D g hR i_a1 i_a2 h_E) kw_L_177 ⟨Nat.le_of_ble_eq_true rfl, Nat.le_of_ble_eq_true rfl⟩ rfl hl.1 rfl (Nat.le_of_ble_eq_true rfl) dL_law_1943 hc (fun H locs hE ⟨i_r, hR⟩ => ?_)
  refine lv_aload_n C0.1 C0.2.1 dL_law_1946 rfl (lv_at hl 2 rfl) ?_
  refine lv_aload_n C0.1 C0.2.1 dL_law_1947 rfl (lv_at hl 0 rfl) ?_
  refine lv_iload C0.1 C0.2.1 dL_law_1948 (lv_at hl 4 rfl) ?_
  refine lv_iconst (v := I 1) C0.1 C0.2.1 dL_law_1950 rfl ?_
  refine x_add (v := i + 1) C0 rfl dL_law_1951 ?_
  refine x_sld hC hE (by omega) (by omega) e_a1 dL_law_1952 ?_
  refine lv_aload_n C0.1 C0.2.1 dL_law_1953 rfl (lv_at hl 0 rfl) ?_
  refine lv_iload C0.1 C0.2.1 dL_law_1954 (lv_at hl 4 rfl) ?_
  refine lv_iconst (v := I 2) C0.1 C0.2.1 dL_law_1956 rfl ?_
  refine x_add (v := i + 2) C0 rfl dL_law_1957 ?_
  refine x_sld hC hE (by omega) (by omega) e_a2 dL_law_1958 ?_
  refine lawM_i (rest := [.int (I r)]) (τ' := τ1) C0 hC.2.1 hE (c_M_search l D g hR9 i_a1 i_a2 h_M) kw_L_180 ⟨Nat.le_of_ble_eq_true rfl, Nat.le_of_ble_eq_true rfl⟩ rfl hl.1 rfl (Nat.le_of_ble_eq_true rfl) dL_law_1959 hc (fun H locs hE ⟨i_r9, hR9⟩ => ?_)
  refine x_icmp_eq C0 i_r i_r9 dL_law_1962 (tgt := 2401) (by decide) (fun _ => ?_) (fun c9 => absurd rfl c9)
  exact next σ1 τ1 H locs ls hR hR9 h_S hE hl
def HS_39 (S : Nat → St → St → Prop) : Prop := ∀ (k : Nat) (σ τ : St) (z0 : Int) (z1 : Int), k < 512 → R32 σ → R32 τ → S k σ τ → in32 z0 → in32 z1 → ∃ (r : Int) (σ1 τ1 : St), E_reaches σ z0 z1 = some (r, σ1) ∧ M_reaches τ z0 z1 = some (r, τ1) ∧ S (k + 1) σ1 τ1
set_option maxRecDepth 100000 in
set_option maxHeartbeats 4000000 in
theorem law_c39 {p : Program} {l : Launch} {e : Env} {s : State} {m : MethodId} {below : List Frame} {meth : Method} {c : Code} {Q : State → Prop} {D : va_G} {g : Ad} {b L : Nat} {xs : Nat → Int32} {S : Nat → St → St → Prop} (HN : HS_39 S) (hC : LC p s m meth c b L xs D g) {k : Nat} {σ τ : St} {v i : Int} (hk : k < 512) (hR : R32 σ) (hR9 : R32 τ) (hS : S k σ τ) (h0 : 0 ≤ i) (hiL : i + 6 ≤ L) {H : Heap} {locs : List Loc} {cells slots : Nat} {ls : Array Slot} (hc : cells ≤ room_1.cells ∧ slots ≤ room_1.slots) (hE : EW D (aL s) s.heap (wL g σ τ v) H locs) (hl : lv_has ls 8 (lvL g b i))
    (next : ∀ (σ1 τ1 : St) (H : Heap) (locs : List Loc) (ls : Array Slot), R32 σ1 → R32 τ1 → S (k + 1) σ1 τ1 → EW D (aL s) s.heap (wL g σ1 τ1 v) H locs → lv_has ls 8 (lvL g b i) → W p l e room_1 s m #[Value.ref b] below meth c H locs cells slots Q (F0 m 2401 ls [])) : W p l e room_1 s m #[Value.ref b] below meth c H locs cells slots Q (F0 m 1967 ls []) := by
  have C0 := hC.1
  obtain ⟨a1, e_a1, i_a1⟩ : ∃ a, a = (xs (i + 1).toNat).toInt ∧ in32 a := ⟨_, rfl, in32_toInt _⟩
  obtain ⟨a2, e_a2, i_a2⟩ : ∃ a, a = (xs (i + 2).toNat).toInt ∧ in32 a := ⟨_, rfl, in32_toInt _⟩
  obtain ⟨r, σ1, τ1, h_E, h_M, h_S⟩ := HN k σ τ a1 a2 hk hR hR9 hS i_a1 i_a2
  refine lv_aload_n C0.1 C0.2.1 dL_law_1967 rfl (lv_at hl 1 rfl) ?_
  refine lv_aload_n C0.1 C0.2.1 dL_law_1968 rfl (lv_at hl 0 rfl) ?_
  refine lv_iload C0.1 C0.2.1 dL_law_1969 (lv_at hl 4 rfl) ?_
  refine lv_iconst (v := I 1) C0.1 C0.2.1 dL_law_1971 rfl ?_
  refine x_add (v := i + 1) C0 rfl dL_law_1972 ?_
  refine x_sld hC hE (by omega) (by omega) e_a1 dL_law_1973 ?_
  refine lv_aload_n C0.1 C0.2.1 dL_law_1974 rfl (lv_at hl 0 rfl) ?_
  refine lv_iload C0.1 C0.2.1 dL_law_1975 (lv_at hl 4 rfl) ?_
  refine lv_iconst (v := I 2) C0.1 C0.2.1 dL_law_1977 rfl ?_
  refine x_add (v := i + 2) C0 rfl dL_law_1978 ?_
  refine x_sld hC hE (by omega) (by omega) e_a2 dL_law_1979 ?_
  refine lawE_i (rest := []) (σ' := σ1) C0 hC.2.1 hE (c_E_reaches l D g hR i_a1 i_a2 h_E) kw_L_181 ⟨Nat.le_of_ble_eq_true rfl, Nat.le_of_ble_eq_true rfl⟩ rfl hl.1 rfl (Nat.le_of_ble_eq_true rfl) dL_law_1980 hc (fun H locs hE ⟨i_r, hR⟩ => ?_)
  refine lv_aload_n C0.1 C0.2.1 dL_law_1983 rfl (lv_at hl 2 rfl) ?_
  refine lv_aload_n C0.1 C0.2.1 dL_law_1984 rfl (lv_at hl 0 rfl) ?_
  refine lv_iload C0.1 C0.2.1 dL_law_1985 (lv_at hl 4 rfl) ?_
  refine lv_iconst (v := I 1) C0.1 C0.2.1 dL_law_1987 rfl ?_
  refine x_add (v := i + 1) C0 rfl dL_law_1988 ?_
  refine x_sld hC hE (by omega) (by omega) e_a1 dL_law_1989 ?_
  refine lv_aload_n C0.1 C0.2.1 dL_law_1990 rfl (lv_at hl 0 rfl) ?_
  refine lv_iload C0.1 C0.2.1 dL_law_1991 (lv_at hl 4 rfl) ?_
  refine lv_iconst (v := I 2) C0.1 C0.2.1 dL_law_1993 rfl ?_
  refine x_add (v := i + 2) C0 rfl dL_law_1994 ?_
  refine x_sld hC hE (by omega) (by omega) e_a2 dL_law_1995 ?_
  refine lawM_i (rest := [.int (I r)]) (τ' := τ1) C0 hC.2.1 hE (c_M_reaches l D g hR9 i_a1 i_a2 h_M) kw_L_184 ⟨Nat.le_of_ble_eq_true rfl, Nat.le_of_ble_eq_true rfl⟩ rfl hl.1 rfl (Nat.le_of_ble_eq_true rfl) dL_law_1996 hc (fun H locs hE ⟨i_r9, hR9⟩ => ?_)
  refine x_icmp_eq C0 i_r i_r9 dL_law_1999 (tgt := 2401) (by decide) (fun _ => ?_) (fun c9 => absurd rfl c9)
  exact next σ1 τ1 H locs ls hR hR9 h_S hE hl
def HS_40 (S : Nat → St → St → Prop) : Prop := ∀ (k : Nat) (σ τ : St) (z0 : Int) (z1 : Int), k < 512 → R32 σ → R32 τ → S k σ τ → in32 z0 → in32 z1 → ∃ (r : Int) (σ1 τ1 : St), E_occurs σ z0 z1 = some (r, σ1) ∧ M_occurs τ z0 z1 = some (r, τ1) ∧ S (k + 1) σ1 τ1
set_option maxRecDepth 100000 in
set_option maxHeartbeats 4000000 in
theorem law_c40 {p : Program} {l : Launch} {e : Env} {s : State} {m : MethodId} {below : List Frame} {meth : Method} {c : Code} {Q : State → Prop} {D : va_G} {g : Ad} {b L : Nat} {xs : Nat → Int32} {S : Nat → St → St → Prop} (HN : HS_40 S) (hC : LC p s m meth c b L xs D g) {k : Nat} {σ τ : St} {v i : Int} (hk : k < 512) (hR : R32 σ) (hR9 : R32 τ) (hS : S k σ τ) (h0 : 0 ≤ i) (hiL : i + 6 ≤ L) {H : Heap} {locs : List Loc} {cells slots : Nat} {ls : Array Slot} (hc : cells ≤ room_1.cells ∧ slots ≤ room_1.slots) (hE : EW D (aL s) s.heap (wL g σ τ v) H locs) (hl : lv_has ls 8 (lvL g b i))
    (next : ∀ (σ1 τ1 : St) (H : Heap) (locs : List Loc) (ls : Array Slot), R32 σ1 → R32 τ1 → S (k + 1) σ1 τ1 → EW D (aL s) s.heap (wL g σ1 τ1 v) H locs → lv_has ls 8 (lvL g b i) → W p l e room_1 s m #[Value.ref b] below meth c H locs cells slots Q (F0 m 2401 ls [])) : W p l e room_1 s m #[Value.ref b] below meth c H locs cells slots Q (F0 m 2004 ls []) := by
  have C0 := hC.1
  obtain ⟨a1, e_a1, i_a1⟩ : ∃ a, a = (xs (i + 1).toNat).toInt ∧ in32 a := ⟨_, rfl, in32_toInt _⟩
  obtain ⟨a2, e_a2, i_a2⟩ : ∃ a, a = (xs (i + 2).toNat).toInt ∧ in32 a := ⟨_, rfl, in32_toInt _⟩
  obtain ⟨r, σ1, τ1, h_E, h_M, h_S⟩ := HN k σ τ a1 a2 hk hR hR9 hS i_a1 i_a2
  refine lv_aload_n C0.1 C0.2.1 dL_law_2004 rfl (lv_at hl 1 rfl) ?_
  refine lv_aload_n C0.1 C0.2.1 dL_law_2005 rfl (lv_at hl 0 rfl) ?_
  refine lv_iload C0.1 C0.2.1 dL_law_2006 (lv_at hl 4 rfl) ?_
  refine lv_iconst (v := I 1) C0.1 C0.2.1 dL_law_2008 rfl ?_
  refine x_add (v := i + 1) C0 rfl dL_law_2009 ?_
  refine x_sld hC hE (by omega) (by omega) e_a1 dL_law_2010 ?_
  refine lv_aload_n C0.1 C0.2.1 dL_law_2011 rfl (lv_at hl 0 rfl) ?_
  refine lv_iload C0.1 C0.2.1 dL_law_2012 (lv_at hl 4 rfl) ?_
  refine lv_iconst (v := I 2) C0.1 C0.2.1 dL_law_2014 rfl ?_
  refine x_add (v := i + 2) C0 rfl dL_law_2015 ?_
  refine x_sld hC hE (by omega) (by omega) e_a2 dL_law_2016 ?_
  refine lawE_i (rest := []) (σ' := σ1) C0 hC.2.1 hE (c_E_occurs l D g hR i_a1 i_a2 h_E) kw_L_185 ⟨Nat.le_of_ble_eq_true rfl, Nat.le_of_ble_eq_true rfl⟩ rfl hl.1 rfl (Nat.le_of_ble_eq_true rfl) dL_law_2017 hc (fun H locs hE ⟨i_r, hR⟩ => ?_)
  refine lv_aload_n C0.1 C0.2.1 dL_law_2020 rfl (lv_at hl 2 rfl) ?_
  refine lv_aload_n C0.1 C0.2.1 dL_law_2021 rfl (lv_at hl 0 rfl) ?_
  refine lv_iload C0.1 C0.2.1 dL_law_2022 (lv_at hl 4 rfl) ?_
  refine lv_iconst (v := I 1) C0.1 C0.2.1 dL_law_2024 rfl ?_
  refine x_add (v := i + 1) C0 rfl dL_law_2025 ?_
  refine x_sld hC hE (by omega) (by omega) e_a1 dL_law_2026 ?_
  refine lv_aload_n C0.1 C0.2.1 dL_law_2027 rfl (lv_at hl 0 rfl) ?_
  refine lv_iload C0.1 C0.2.1 dL_law_2028 (lv_at hl 4 rfl) ?_
  refine lv_iconst (v := I 2) C0.1 C0.2.1 dL_law_2030 rfl ?_
  refine x_add (v := i + 2) C0 rfl dL_law_2031 ?_
  refine x_sld hC hE (by omega) (by omega) e_a2 dL_law_2032 ?_
  refine lawM_i (rest := [.int (I r)]) (τ' := τ1) C0 hC.2.1 hE (c_M_occurs l D g hR9 i_a1 i_a2 h_M) kw_L_188 ⟨Nat.le_of_ble_eq_true rfl, Nat.le_of_ble_eq_true rfl⟩ rfl hl.1 rfl (Nat.le_of_ble_eq_true rfl) dL_law_2033 hc (fun H locs hE ⟨i_r9, hR9⟩ => ?_)
  refine x_icmp_eq C0 i_r i_r9 dL_law_2036 (tgt := 2401) (by decide) (fun _ => ?_) (fun c9 => absurd rfl c9)
  exact next σ1 τ1 H locs ls hR hR9 h_S hE hl
def HS_41 (S : Nat → St → St → Prop) : Prop := ∀ (k : Nat) (σ τ : St) (z0 : Int) (z1 : Int), k < 512 → R32 σ → R32 τ → S k σ τ → in32 z0 → in32 z1 → ∃ (r : Int) (σ1 τ1 : St), E_differs σ z0 z1 = some (r, σ1) ∧ M_differs τ z0 z1 = some (r, τ1) ∧ S (k + 1) σ1 τ1
set_option maxRecDepth 100000 in
set_option maxHeartbeats 4000000 in
theorem law_c41 {p : Program} {l : Launch} {e : Env} {s : State} {m : MethodId} {below : List Frame} {meth : Method} {c : Code} {Q : State → Prop} {D : va_G} {g : Ad} {b L : Nat} {xs : Nat → Int32} {S : Nat → St → St → Prop} (HN : HS_41 S) (hC : LC p s m meth c b L xs D g) {k : Nat} {σ τ : St} {v i : Int} (hk : k < 512) (hR : R32 σ) (hR9 : R32 τ) (hS : S k σ τ) (h0 : 0 ≤ i) (hiL : i + 6 ≤ L) {H : Heap} {locs : List Loc} {cells slots : Nat} {ls : Array Slot} (hc : cells ≤ room_1.cells ∧ slots ≤ room_1.slots) (hE : EW D (aL s) s.heap (wL g σ τ v) H locs) (hl : lv_has ls 8 (lvL g b i))
    (next : ∀ (σ1 τ1 : St) (H : Heap) (locs : List Loc) (ls : Array Slot), R32 σ1 → R32 τ1 → S (k + 1) σ1 τ1 → EW D (aL s) s.heap (wL g σ1 τ1 v) H locs → lv_has ls 8 (lvL g b i) → W p l e room_1 s m #[Value.ref b] below meth c H locs cells slots Q (F0 m 2401 ls [])) : W p l e room_1 s m #[Value.ref b] below meth c H locs cells slots Q (F0 m 2041 ls []) := by
  have C0 := hC.1
  obtain ⟨a1, e_a1, i_a1⟩ : ∃ a, a = (xs (i + 1).toNat).toInt ∧ in32 a := ⟨_, rfl, in32_toInt _⟩
  obtain ⟨a2, e_a2, i_a2⟩ : ∃ a, a = (xs (i + 2).toNat).toInt ∧ in32 a := ⟨_, rfl, in32_toInt _⟩
  obtain ⟨r, σ1, τ1, h_E, h_M, h_S⟩ := HN k σ τ a1 a2 hk hR hR9 hS i_a1 i_a2
  refine lv_aload_n C0.1 C0.2.1 dL_law_2041 rfl (lv_at hl 1 rfl) ?_
  refine lv_aload_n C0.1 C0.2.1 dL_law_2042 rfl (lv_at hl 0 rfl) ?_
  refine lv_iload C0.1 C0.2.1 dL_law_2043 (lv_at hl 4 rfl) ?_
  refine lv_iconst (v := I 1) C0.1 C0.2.1 dL_law_2045 rfl ?_
  refine x_add (v := i + 1) C0 rfl dL_law_2046 ?_
  refine x_sld hC hE (by omega) (by omega) e_a1 dL_law_2047 ?_
  refine lv_aload_n C0.1 C0.2.1 dL_law_2048 rfl (lv_at hl 0 rfl) ?_
  refine lv_iload C0.1 C0.2.1 dL_law_2049 (lv_at hl 4 rfl) ?_
  refine lv_iconst (v := I 2) C0.1 C0.2.1 dL_law_2051 rfl ?_
  refine x_add (v := i + 2) C0 rfl dL_law_2052 ?_
  refine x_sld hC hE (by omega) (by omega) e_a2 dL_law_2053 ?_
  refine lawE_i (rest := []) (σ' := σ1) C0 hC.2.1 hE (c_E_differs l D g hR i_a1 i_a2 h_E) kw_L_189 ⟨Nat.le_of_ble_eq_true rfl, Nat.le_of_ble_eq_true rfl⟩ rfl hl.1 rfl (Nat.le_of_ble_eq_true rfl) dL_law_2054 hc (fun H locs hE ⟨i_r, hR⟩ => ?_)
  refine lv_aload_n C0.1 C0.2.1 dL_law_2057 rfl (lv_at hl 2 rfl) ?_
  refine lv_aload_n C0.1 C0.2.1 dL_law_2058 rfl (lv_at hl 0 rfl) ?_
  refine lv_iload C0.1 C0.2.1 dL_law_2059 (lv_at hl 4 rfl) ?_
  refine lv_iconst (v := I 1) C0.1 C0.2.1 dL_law_2061 rfl ?_
  refine x_add (v := i + 1) C0 rfl dL_law_2062 ?_
  refine x_sld hC hE (by omega) (by omega) e_a1 dL_law_2063 ?_
  refine lv_aload_n C0.1 C0.2.1 dL_law_2064 rfl (lv_at hl 0 rfl) ?_
  refine lv_iload C0.1 C0.2.1 dL_law_2065 (lv_at hl 4 rfl) ?_
  refine lv_iconst (v := I 2) C0.1 C0.2.1 dL_law_2067 rfl ?_
  refine x_add (v := i + 2) C0 rfl dL_law_2068 ?_
  refine x_sld hC hE (by omega) (by omega) e_a2 dL_law_2069 ?_
  refine lawM_i (rest := [.int (I r)]) (τ' := τ1) C0 hC.2.1 hE (c_M_differs l D g hR9 i_a1 i_a2 h_M) kw_L_192 ⟨Nat.le_of_ble_eq_true rfl, Nat.le_of_ble_eq_true rfl⟩ rfl hl.1 rfl (Nat.le_of_ble_eq_true rfl) dL_law_2070 hc (fun H locs hE ⟨i_r9, hR9⟩ => ?_)
  refine x_icmp_eq C0 i_r i_r9 dL_law_2073 (tgt := 2401) (by decide) (fun _ => ?_) (fun c9 => absurd rfl c9)
  exact next σ1 τ1 H locs ls hR hR9 h_S hE hl
def HS_42 (S : Nat → St → St → Prop) : Prop := ∀ (k : Nat) (σ τ : St) (z0 : Int) (z1 : Int), k < 512 → R32 σ → R32 τ → S k σ τ → in32 z0 → in32 z1 → ∃ (r : Int) (σ1 τ1 : St), E_written σ z0 z1 = some (r, σ1) ∧ M_written τ z0 z1 = some (r, τ1) ∧ S (k + 1) σ1 τ1
set_option maxRecDepth 100000 in
set_option maxHeartbeats 4000000 in
theorem law_c42 {p : Program} {l : Launch} {e : Env} {s : State} {m : MethodId} {below : List Frame} {meth : Method} {c : Code} {Q : State → Prop} {D : va_G} {g : Ad} {b L : Nat} {xs : Nat → Int32} {S : Nat → St → St → Prop} (HN : HS_42 S) (hC : LC p s m meth c b L xs D g) {k : Nat} {σ τ : St} {v i : Int} (hk : k < 512) (hR : R32 σ) (hR9 : R32 τ) (hS : S k σ τ) (h0 : 0 ≤ i) (hiL : i + 6 ≤ L) {H : Heap} {locs : List Loc} {cells slots : Nat} {ls : Array Slot} (hc : cells ≤ room_1.cells ∧ slots ≤ room_1.slots) (hE : EW D (aL s) s.heap (wL g σ τ v) H locs) (hl : lv_has ls 8 (lvL g b i))
    (next : ∀ (σ1 τ1 : St) (H : Heap) (locs : List Loc) (ls : Array Slot), R32 σ1 → R32 τ1 → S (k + 1) σ1 τ1 → EW D (aL s) s.heap (wL g σ1 τ1 v) H locs → lv_has ls 8 (lvL g b i) → W p l e room_1 s m #[Value.ref b] below meth c H locs cells slots Q (F0 m 2401 ls [])) : W p l e room_1 s m #[Value.ref b] below meth c H locs cells slots Q (F0 m 2078 ls []) := by
  have C0 := hC.1
  obtain ⟨a1, e_a1, i_a1⟩ : ∃ a, a = (xs (i + 1).toNat).toInt ∧ in32 a := ⟨_, rfl, in32_toInt _⟩
  obtain ⟨a2, e_a2, i_a2⟩ : ∃ a, a = (xs (i + 2).toNat).toInt ∧ in32 a := ⟨_, rfl, in32_toInt _⟩
  obtain ⟨r, σ1, τ1, h_E, h_M, h_S⟩ := HN k σ τ a1 a2 hk hR hR9 hS i_a1 i_a2
  refine lv_aload_n C0.1 C0.2.1 dL_law_2078 rfl (lv_at hl 1 rfl) ?_
  refine lv_aload_n C0.1 C0.2.1 dL_law_2079 rfl (lv_at hl 0 rfl) ?_
  refine lv_iload C0.1 C0.2.1 dL_law_2080 (lv_at hl 4 rfl) ?_
  refine lv_iconst (v := I 1) C0.1 C0.2.1 dL_law_2082 rfl ?_
  refine x_add (v := i + 1) C0 rfl dL_law_2083 ?_
  refine x_sld hC hE (by omega) (by omega) e_a1 dL_law_2084 ?_
  refine lv_aload_n C0.1 C0.2.1 dL_law_2085 rfl (lv_at hl 0 rfl) ?_
  refine lv_iload C0.1 C0.2.1 dL_law_2086 (lv_at hl 4 rfl) ?_
  refine lv_iconst (v := I 2) C0.1 C0.2.1 dL_law_2088 rfl ?_
  refine x_add (v := i + 2) C0 rfl dL_law_2089 ?_
  refine x_sld hC hE (by omega) (by omega) e_a2 dL_law_2090 ?_
  refine lawE_i (rest := []) (σ' := σ1) C0 hC.2.1 hE (c_E_written l D g hR i_a1 i_a2 h_E) kw_L_193 ⟨Nat.le_of_ble_eq_true rfl, Nat.le_of_ble_eq_true rfl⟩ rfl hl.1 rfl (Nat.le_of_ble_eq_true rfl) dL_law_2091 hc (fun H locs hE ⟨i_r, hR⟩ => ?_)
  refine lv_aload_n C0.1 C0.2.1 dL_law_2094 rfl (lv_at hl 2 rfl) ?_
  refine lv_aload_n C0.1 C0.2.1 dL_law_2095 rfl (lv_at hl 0 rfl) ?_
  refine lv_iload C0.1 C0.2.1 dL_law_2096 (lv_at hl 4 rfl) ?_
  refine lv_iconst (v := I 1) C0.1 C0.2.1 dL_law_2098 rfl ?_
  refine x_add (v := i + 1) C0 rfl dL_law_2099 ?_
  refine x_sld hC hE (by omega) (by omega) e_a1 dL_law_2100 ?_
  refine lv_aload_n C0.1 C0.2.1 dL_law_2101 rfl (lv_at hl 0 rfl) ?_
  refine lv_iload C0.1 C0.2.1 dL_law_2102 (lv_at hl 4 rfl) ?_
  refine lv_iconst (v := I 2) C0.1 C0.2.1 dL_law_2104 rfl ?_
  refine x_add (v := i + 2) C0 rfl dL_law_2105 ?_
  refine x_sld hC hE (by omega) (by omega) e_a2 dL_law_2106 ?_
  refine lawM_i (rest := [.int (I r)]) (τ' := τ1) C0 hC.2.1 hE (c_M_written l D g hR9 i_a1 i_a2 h_M) kw_L_196 ⟨Nat.le_of_ble_eq_true rfl, Nat.le_of_ble_eq_true rfl⟩ rfl hl.1 rfl (Nat.le_of_ble_eq_true rfl) dL_law_2107 hc (fun H locs hE ⟨i_r9, hR9⟩ => ?_)
  refine x_icmp_eq C0 i_r i_r9 dL_law_2110 (tgt := 2401) (by decide) (fun _ => ?_) (fun c9 => absurd rfl c9)
  exact next σ1 τ1 H locs ls hR hR9 h_S hE hl
def HS_43 (S : Nat → St → St → Prop) : Prop := ∀ (k : Nat) (σ τ : St) (z0 : Int) (z1 : Int), k < 512 → R32 σ → R32 τ → S k σ τ → in32 z0 → in32 z1 → ∃ (r : Int) (τ1 : St), E_costs z0 z1 = some r ∧ M_costs τ z0 z1 = some (r, τ1) ∧ S (k + 1) σ τ1
set_option maxRecDepth 100000 in
set_option maxHeartbeats 4000000 in
theorem law_c43 {p : Program} {l : Launch} {e : Env} {s : State} {m : MethodId} {below : List Frame} {meth : Method} {c : Code} {Q : State → Prop} {D : va_G} {g : Ad} {b L : Nat} {xs : Nat → Int32} {S : Nat → St → St → Prop} (HN : HS_43 S) (hC : LC p s m meth c b L xs D g) {k : Nat} {σ τ : St} {v i : Int} (hk : k < 512) (hR : R32 σ) (hR9 : R32 τ) (hS : S k σ τ) (h0 : 0 ≤ i) (hiL : i + 6 ≤ L) {H : Heap} {locs : List Loc} {cells slots : Nat} {ls : Array Slot} (hc : cells ≤ room_1.cells ∧ slots ≤ room_1.slots) (hE : EW D (aL s) s.heap (wL g σ τ v) H locs) (hl : lv_has ls 8 (lvL g b i))
    (next : ∀ (σ1 τ1 : St) (H : Heap) (locs : List Loc) (ls : Array Slot), R32 σ1 → R32 τ1 → S (k + 1) σ1 τ1 → EW D (aL s) s.heap (wL g σ1 τ1 v) H locs → lv_has ls 8 (lvL g b i) → W p l e room_1 s m #[Value.ref b] below meth c H locs cells slots Q (F0 m 2401 ls [])) : W p l e room_1 s m #[Value.ref b] below meth c H locs cells slots Q (F0 m 2115 ls []) := by
  have C0 := hC.1
  obtain ⟨a1, e_a1, i_a1⟩ : ∃ a, a = (xs (i + 1).toNat).toInt ∧ in32 a := ⟨_, rfl, in32_toInt _⟩
  obtain ⟨a2, e_a2, i_a2⟩ : ∃ a, a = (xs (i + 2).toNat).toInt ∧ in32 a := ⟨_, rfl, in32_toInt _⟩
  obtain ⟨r, τ1, h_E, h_M, h_S⟩ := HN k σ τ a1 a2 hk hR hR9 hS i_a1 i_a2
  refine lv_aload_n C0.1 C0.2.1 dL_law_2115 rfl (lv_at hl 1 rfl) ?_
  refine lv_aload_n C0.1 C0.2.1 dL_law_2116 rfl (lv_at hl 0 rfl) ?_
  refine lv_iload C0.1 C0.2.1 dL_law_2117 (lv_at hl 4 rfl) ?_
  refine lv_iconst (v := I 1) C0.1 C0.2.1 dL_law_2119 rfl ?_
  refine x_add (v := i + 1) C0 rfl dL_law_2120 ?_
  refine x_sld hC hE (by omega) (by omega) e_a1 dL_law_2121 ?_
  refine lv_aload_n C0.1 C0.2.1 dL_law_2122 rfl (lv_at hl 0 rfl) ?_
  refine lv_iload C0.1 C0.2.1 dL_law_2123 (lv_at hl 4 rfl) ?_
  refine lv_iconst (v := I 2) C0.1 C0.2.1 dL_law_2125 rfl ?_
  refine x_add (v := i + 2) C0 rfl dL_law_2126 ?_
  refine x_sld hC hE (by omega) (by omega) e_a2 dL_law_2127 ?_
  refine lawE_i (rest := []) (σ' := σ) C0 hC.2.1 hE (c_E_costs l D g (σ := σ) i_a1 i_a2 h_E) kw_L_197 ⟨Nat.le_of_ble_eq_true rfl, Nat.le_of_ble_eq_true rfl⟩ rfl hl.1 rfl (Nat.le_of_ble_eq_true rfl) dL_law_2128 hc (fun H locs hE i_r => ?_)
  refine lv_aload_n C0.1 C0.2.1 dL_law_2131 rfl (lv_at hl 2 rfl) ?_
  refine lv_aload_n C0.1 C0.2.1 dL_law_2132 rfl (lv_at hl 0 rfl) ?_
  refine lv_iload C0.1 C0.2.1 dL_law_2133 (lv_at hl 4 rfl) ?_
  refine lv_iconst (v := I 1) C0.1 C0.2.1 dL_law_2135 rfl ?_
  refine x_add (v := i + 1) C0 rfl dL_law_2136 ?_
  refine x_sld hC hE (by omega) (by omega) e_a1 dL_law_2137 ?_
  refine lv_aload_n C0.1 C0.2.1 dL_law_2138 rfl (lv_at hl 0 rfl) ?_
  refine lv_iload C0.1 C0.2.1 dL_law_2139 (lv_at hl 4 rfl) ?_
  refine lv_iconst (v := I 2) C0.1 C0.2.1 dL_law_2141 rfl ?_
  refine x_add (v := i + 2) C0 rfl dL_law_2142 ?_
  refine x_sld hC hE (by omega) (by omega) e_a2 dL_law_2143 ?_
  refine lawM_i (rest := [.int (I r)]) (τ' := τ1) C0 hC.2.1 hE (c_M_costs l D g hR9 i_a1 i_a2 h_M) kw_L_200 ⟨Nat.le_of_ble_eq_true rfl, Nat.le_of_ble_eq_true rfl⟩ rfl hl.1 rfl (Nat.le_of_ble_eq_true rfl) dL_law_2144 hc (fun H locs hE ⟨i_r9, hR9⟩ => ?_)
  refine x_icmp_eq C0 i_r i_r9 dL_law_2147 (tgt := 2401) (by decide) (fun _ => ?_) (fun c9 => absurd rfl c9)
  exact next σ τ1 H locs ls hR hR9 h_S hE hl
def HS_44 (S : Nat → St → St → Prop) : Prop := ∀ (k : Nat) (σ τ : St) (z0 : Int), k < 512 → R32 σ → R32 τ → S k σ τ → in32 z0 → ∃ (r : Int) (σ1 τ1 : St), E_twins σ z0 = some (r, σ1) ∧ M_twins τ z0 = some (r, τ1) ∧ S (k + 1) σ1 τ1
set_option maxRecDepth 100000 in
set_option maxHeartbeats 4000000 in
theorem law_c44 {p : Program} {l : Launch} {e : Env} {s : State} {m : MethodId} {below : List Frame} {meth : Method} {c : Code} {Q : State → Prop} {D : va_G} {g : Ad} {b L : Nat} {xs : Nat → Int32} {S : Nat → St → St → Prop} (HN : HS_44 S) (hC : LC p s m meth c b L xs D g) {k : Nat} {σ τ : St} {v i : Int} (hk : k < 512) (hR : R32 σ) (hR9 : R32 τ) (hS : S k σ τ) (h0 : 0 ≤ i) (hiL : i + 6 ≤ L) {H : Heap} {locs : List Loc} {cells slots : Nat} {ls : Array Slot} (hc : cells ≤ room_1.cells ∧ slots ≤ room_1.slots) (hE : EW D (aL s) s.heap (wL g σ τ v) H locs) (hl : lv_has ls 8 (lvL g b i))
    (next : ∀ (σ1 τ1 : St) (H : Heap) (locs : List Loc) (ls : Array Slot), R32 σ1 → R32 τ1 → S (k + 1) σ1 τ1 → EW D (aL s) s.heap (wL g σ1 τ1 v) H locs → lv_has ls 8 (lvL g b i) → W p l e room_1 s m #[Value.ref b] below meth c H locs cells slots Q (F0 m 2401 ls [])) : W p l e room_1 s m #[Value.ref b] below meth c H locs cells slots Q (F0 m 2152 ls []) := by
  have C0 := hC.1
  obtain ⟨a1, e_a1, i_a1⟩ : ∃ a, a = (xs (i + 1).toNat).toInt ∧ in32 a := ⟨_, rfl, in32_toInt _⟩
  obtain ⟨r, σ1, τ1, h_E, h_M, h_S⟩ := HN k σ τ a1 hk hR hR9 hS i_a1
  refine lv_aload_n C0.1 C0.2.1 dL_law_2152 rfl (lv_at hl 1 rfl) ?_
  refine lv_aload_n C0.1 C0.2.1 dL_law_2153 rfl (lv_at hl 0 rfl) ?_
  refine lv_iload C0.1 C0.2.1 dL_law_2154 (lv_at hl 4 rfl) ?_
  refine lv_iconst (v := I 1) C0.1 C0.2.1 dL_law_2156 rfl ?_
  refine x_add (v := i + 1) C0 rfl dL_law_2157 ?_
  refine x_sld hC hE (by omega) (by omega) e_a1 dL_law_2158 ?_
  refine lawE_i (rest := []) (σ' := σ1) C0 hC.2.1 hE (c_E_twins l D g hR i_a1 h_E) kw_L_201 ⟨Nat.le_of_ble_eq_true rfl, Nat.le_of_ble_eq_true rfl⟩ rfl hl.1 rfl (Nat.le_of_ble_eq_true rfl) dL_law_2159 hc (fun H locs hE ⟨i_r, hR⟩ => ?_)
  refine lv_aload_n C0.1 C0.2.1 dL_law_2162 rfl (lv_at hl 2 rfl) ?_
  refine lv_aload_n C0.1 C0.2.1 dL_law_2163 rfl (lv_at hl 0 rfl) ?_
  refine lv_iload C0.1 C0.2.1 dL_law_2164 (lv_at hl 4 rfl) ?_
  refine lv_iconst (v := I 1) C0.1 C0.2.1 dL_law_2166 rfl ?_
  refine x_add (v := i + 1) C0 rfl dL_law_2167 ?_
  refine x_sld hC hE (by omega) (by omega) e_a1 dL_law_2168 ?_
  refine lawM_i (rest := [.int (I r)]) (τ' := τ1) C0 hC.2.1 hE (c_M_twins l D g hR9 i_a1 h_M) kw_L_204 ⟨Nat.le_of_ble_eq_true rfl, Nat.le_of_ble_eq_true rfl⟩ rfl hl.1 rfl (Nat.le_of_ble_eq_true rfl) dL_law_2169 hc (fun H locs hE ⟨i_r9, hR9⟩ => ?_)
  refine x_icmp_eq C0 i_r i_r9 dL_law_2172 (tgt := 2401) (by decide) (fun _ => ?_) (fun c9 => absurd rfl c9)
  exact next σ1 τ1 H locs ls hR hR9 h_S hE hl
def HS_45 (S : Nat → St → St → Prop) : Prop := ∀ (k : Nat) (σ τ : St), k < 512 → R32 σ → R32 τ → S k σ τ → ∃ (r : Int) (σ1 τ1 : St), E_nodes σ = some (r, σ1) ∧ M_nodes τ = some (r, τ1) ∧ S (k + 1) σ1 τ1
set_option maxRecDepth 100000 in
set_option maxHeartbeats 4000000 in
theorem law_c45 {p : Program} {l : Launch} {e : Env} {s : State} {m : MethodId} {below : List Frame} {meth : Method} {c : Code} {Q : State → Prop} {D : va_G} {g : Ad} {b L : Nat} {xs : Nat → Int32} {S : Nat → St → St → Prop} (HN : HS_45 S) (hC : LC p s m meth c b L xs D g) {k : Nat} {σ τ : St} {v i : Int} (hk : k < 512) (hR : R32 σ) (hR9 : R32 τ) (hS : S k σ τ) (h0 : 0 ≤ i) (hiL : i + 6 ≤ L) {H : Heap} {locs : List Loc} {cells slots : Nat} {ls : Array Slot} (hc : cells ≤ room_1.cells ∧ slots ≤ room_1.slots) (hE : EW D (aL s) s.heap (wL g σ τ v) H locs) (hl : lv_has ls 8 (lvL g b i))
    (next : ∀ (σ1 τ1 : St) (H : Heap) (locs : List Loc) (ls : Array Slot), R32 σ1 → R32 τ1 → S (k + 1) σ1 τ1 → EW D (aL s) s.heap (wL g σ1 τ1 v) H locs → lv_has ls 8 (lvL g b i) → W p l e room_1 s m #[Value.ref b] below meth c H locs cells slots Q (F0 m 2401 ls [])) : W p l e room_1 s m #[Value.ref b] below meth c H locs cells slots Q (F0 m 2177 ls []) := by
  have C0 := hC.1
  obtain ⟨r, σ1, τ1, h_E, h_M, h_S⟩ := HN k σ τ hk hR hR9 hS
  refine lv_aload_n C0.1 C0.2.1 dL_law_2177 rfl (lv_at hl 1 rfl) ?_
  refine lawE_i (rest := []) (σ' := σ1) C0 hC.2.1 hE (c_E_nodes l D g hR h_E) kw_L_205 ⟨Nat.le_of_ble_eq_true rfl, Nat.le_of_ble_eq_true rfl⟩ rfl hl.1 rfl (Nat.le_of_ble_eq_true rfl) dL_law_2178 hc (fun H locs hE ⟨i_r, hR⟩ => ?_)
  refine lv_aload_n C0.1 C0.2.1 dL_law_2181 rfl (lv_at hl 2 rfl) ?_
  refine lawM_i (rest := [.int (I r)]) (τ' := τ1) C0 hC.2.1 hE (c_M_nodes l D g hR9 h_M) kw_L_209 ⟨Nat.le_of_ble_eq_true rfl, Nat.le_of_ble_eq_true rfl⟩ rfl hl.1 rfl (Nat.le_of_ble_eq_true rfl) dL_law_2182 hc (fun H locs hE ⟨i_r9, hR9⟩ => ?_)
  refine x_icmp_eq C0 i_r i_r9 dL_law_2185 (tgt := 2401) (by decide) (fun _ => ?_) (fun c9 => absurd rfl c9)
  exact next σ1 τ1 H locs ls hR hR9 h_S hE hl
def HS_46 (S : Nat → St → St → Prop) : Prop := ∀ (k : Nat) (σ τ : St) (z0 : Int), k < 512 → R32 σ → R32 τ → S k σ τ → in32 z0 → ∃ (r : Int) (σ1 τ1 : St), E_own σ z0 = some (r, σ1) ∧ M_own τ z0 = some (r, τ1) ∧ S (k + 1) σ1 τ1
set_option maxRecDepth 100000 in
set_option maxHeartbeats 4000000 in
theorem law_c46 {p : Program} {l : Launch} {e : Env} {s : State} {m : MethodId} {below : List Frame} {meth : Method} {c : Code} {Q : State → Prop} {D : va_G} {g : Ad} {b L : Nat} {xs : Nat → Int32} {S : Nat → St → St → Prop} (HN : HS_46 S) (hC : LC p s m meth c b L xs D g) {k : Nat} {σ τ : St} {v i : Int} (hk : k < 512) (hR : R32 σ) (hR9 : R32 τ) (hS : S k σ τ) (h0 : 0 ≤ i) (hiL : i + 6 ≤ L) {H : Heap} {locs : List Loc} {cells slots : Nat} {ls : Array Slot} (hc : cells ≤ room_1.cells ∧ slots ≤ room_1.slots) (hE : EW D (aL s) s.heap (wL g σ τ v) H locs) (hl : lv_has ls 8 (lvL g b i))
    (next : ∀ (σ1 τ1 : St) (H : Heap) (locs : List Loc) (ls : Array Slot), R32 σ1 → R32 τ1 → S (k + 1) σ1 τ1 → EW D (aL s) s.heap (wL g σ1 τ1 v) H locs → lv_has ls 8 (lvL g b i) → W p l e room_1 s m #[Value.ref b] below meth c H locs cells slots Q (F0 m 2401 ls [])) : W p l e room_1 s m #[Value.ref b] below meth c H locs cells slots Q (F0 m 2190 ls []) := by
  have C0 := hC.1
  obtain ⟨a1, e_a1, i_a1⟩ : ∃ a, a = (xs (i + 1).toNat).toInt ∧ in32 a := ⟨_, rfl, in32_toInt _⟩
  obtain ⟨r, σ1, τ1, h_E, h_M, h_S⟩ := HN k σ τ a1 hk hR hR9 hS i_a1
  refine lv_aload_n C0.1 C0.2.1 dL_law_2190 rfl (lv_at hl 1 rfl) ?_
  refine lv_aload_n C0.1 C0.2.1 dL_law_2191 rfl (lv_at hl 0 rfl) ?_
  refine lv_iload C0.1 C0.2.1 dL_law_2192 (lv_at hl 4 rfl) ?_
  refine lv_iconst (v := I 1) C0.1 C0.2.1 dL_law_2194 rfl ?_
  refine x_add (v := i + 1) C0 rfl dL_law_2195 ?_
  refine x_sld hC hE (by omega) (by omega) e_a1 dL_law_2196 ?_
  refine lawE_i (rest := []) (σ' := σ1) C0 hC.2.1 hE (c_E_own l D g hR i_a1 h_E) kw_L_210 ⟨Nat.le_of_ble_eq_true rfl, Nat.le_of_ble_eq_true rfl⟩ rfl hl.1 rfl (Nat.le_of_ble_eq_true rfl) dL_law_2197 hc (fun H locs hE ⟨i_r, hR⟩ => ?_)
  refine lv_aload_n C0.1 C0.2.1 dL_law_2200 rfl (lv_at hl 2 rfl) ?_
  refine lv_aload_n C0.1 C0.2.1 dL_law_2201 rfl (lv_at hl 0 rfl) ?_
  refine lv_iload C0.1 C0.2.1 dL_law_2202 (lv_at hl 4 rfl) ?_
  refine lv_iconst (v := I 1) C0.1 C0.2.1 dL_law_2204 rfl ?_
  refine x_add (v := i + 1) C0 rfl dL_law_2205 ?_
  refine x_sld hC hE (by omega) (by omega) e_a1 dL_law_2206 ?_
  refine lawM_i (rest := [.int (I r)]) (τ' := τ1) C0 hC.2.1 hE (c_M_own l D g hR9 i_a1 h_M) kw_L_213 ⟨Nat.le_of_ble_eq_true rfl, Nat.le_of_ble_eq_true rfl⟩ rfl hl.1 rfl (Nat.le_of_ble_eq_true rfl) dL_law_2207 hc (fun H locs hE ⟨i_r9, hR9⟩ => ?_)
  refine x_icmp_eq C0 i_r i_r9 dL_law_2210 (tgt := 2401) (by decide) (fun _ => ?_) (fun c9 => absurd rfl c9)
  exact next σ1 τ1 H locs ls hR hR9 h_S hE hl
def HS_47 (S : Nat → St → St → Prop) : Prop := ∀ (k : Nat) (σ τ : St) (z0 : Int) (z1 : Int), k < 512 → R32 σ → R32 τ → S k σ τ → in32 z0 → in32 z1 → ∃ (r : Int) (σ1 τ1 : St), E_level σ z0 z1 = some (r, σ1) ∧ M_level τ z0 z1 = some (r, τ1) ∧ S (k + 1) σ1 τ1
set_option maxRecDepth 100000 in
set_option maxHeartbeats 4000000 in
theorem law_c47 {p : Program} {l : Launch} {e : Env} {s : State} {m : MethodId} {below : List Frame} {meth : Method} {c : Code} {Q : State → Prop} {D : va_G} {g : Ad} {b L : Nat} {xs : Nat → Int32} {S : Nat → St → St → Prop} (HN : HS_47 S) (hC : LC p s m meth c b L xs D g) {k : Nat} {σ τ : St} {v i : Int} (hk : k < 512) (hR : R32 σ) (hR9 : R32 τ) (hS : S k σ τ) (h0 : 0 ≤ i) (hiL : i + 6 ≤ L) {H : Heap} {locs : List Loc} {cells slots : Nat} {ls : Array Slot} (hc : cells ≤ room_1.cells ∧ slots ≤ room_1.slots) (hE : EW D (aL s) s.heap (wL g σ τ v) H locs) (hl : lv_has ls 8 (lvL g b i))
    (next : ∀ (σ1 τ1 : St) (H : Heap) (locs : List Loc) (ls : Array Slot), R32 σ1 → R32 τ1 → S (k + 1) σ1 τ1 → EW D (aL s) s.heap (wL g σ1 τ1 v) H locs → lv_has ls 8 (lvL g b i) → W p l e room_1 s m #[Value.ref b] below meth c H locs cells slots Q (F0 m 2401 ls [])) : W p l e room_1 s m #[Value.ref b] below meth c H locs cells slots Q (F0 m 2215 ls []) := by
  have C0 := hC.1
  obtain ⟨a1, e_a1, i_a1⟩ : ∃ a, a = (xs (i + 1).toNat).toInt ∧ in32 a := ⟨_, rfl, in32_toInt _⟩
  obtain ⟨a2, e_a2, i_a2⟩ : ∃ a, a = (xs (i + 2).toNat).toInt ∧ in32 a := ⟨_, rfl, in32_toInt _⟩
  obtain ⟨r, σ1, τ1, h_E, h_M, h_S⟩ := HN k σ τ a1 a2 hk hR hR9 hS i_a1 i_a2
  refine lv_aload_n C0.1 C0.2.1 dL_law_2215 rfl (lv_at hl 1 rfl) ?_
  refine lv_aload_n C0.1 C0.2.1 dL_law_2216 rfl (lv_at hl 0 rfl) ?_
  refine lv_iload C0.1 C0.2.1 dL_law_2217 (lv_at hl 4 rfl) ?_
  refine lv_iconst (v := I 1) C0.1 C0.2.1 dL_law_2219 rfl ?_
  refine x_add (v := i + 1) C0 rfl dL_law_2220 ?_
  refine x_sld hC hE (by omega) (by omega) e_a1 dL_law_2221 ?_
  refine lv_aload_n C0.1 C0.2.1 dL_law_2222 rfl (lv_at hl 0 rfl) ?_
  refine lv_iload C0.1 C0.2.1 dL_law_2223 (lv_at hl 4 rfl) ?_
  refine lv_iconst (v := I 2) C0.1 C0.2.1 dL_law_2225 rfl ?_
  refine x_add (v := i + 2) C0 rfl dL_law_2226 ?_
  refine x_sld hC hE (by omega) (by omega) e_a2 dL_law_2227 ?_
  refine lawE_i (rest := []) (σ' := σ1) C0 hC.2.1 hE (c_E_level l D g hR i_a1 i_a2 h_E) kw_L_214 ⟨Nat.le_of_ble_eq_true rfl, Nat.le_of_ble_eq_true rfl⟩ rfl hl.1 rfl (Nat.le_of_ble_eq_true rfl) dL_law_2228 hc (fun H locs hE ⟨i_r, hR⟩ => ?_)
  refine lv_aload_n C0.1 C0.2.1 dL_law_2231 rfl (lv_at hl 2 rfl) ?_
  refine lv_aload_n C0.1 C0.2.1 dL_law_2232 rfl (lv_at hl 0 rfl) ?_
  refine lv_iload C0.1 C0.2.1 dL_law_2233 (lv_at hl 4 rfl) ?_
  refine lv_iconst (v := I 1) C0.1 C0.2.1 dL_law_2235 rfl ?_
  refine x_add (v := i + 1) C0 rfl dL_law_2236 ?_
  refine x_sld hC hE (by omega) (by omega) e_a1 dL_law_2237 ?_
  refine lv_aload_n C0.1 C0.2.1 dL_law_2238 rfl (lv_at hl 0 rfl) ?_
  refine lv_iload C0.1 C0.2.1 dL_law_2239 (lv_at hl 4 rfl) ?_
  refine lv_iconst (v := I 2) C0.1 C0.2.1 dL_law_2241 rfl ?_
  refine x_add (v := i + 2) C0 rfl dL_law_2242 ?_
  refine x_sld hC hE (by omega) (by omega) e_a2 dL_law_2243 ?_
  refine lawM_i (rest := [.int (I r)]) (τ' := τ1) C0 hC.2.1 hE (c_M_level l D g hR9 i_a1 i_a2 h_M) kw_L_217 ⟨Nat.le_of_ble_eq_true rfl, Nat.le_of_ble_eq_true rfl⟩ rfl hl.1 rfl (Nat.le_of_ble_eq_true rfl) dL_law_2244 hc (fun H locs hE ⟨i_r9, hR9⟩ => ?_)
  refine x_icmp_eq C0 i_r i_r9 dL_law_2247 (tgt := 2401) (by decide) (fun _ => ?_) (fun c9 => absurd rfl c9)
  exact next σ1 τ1 H locs ls hR hR9 h_S hE hl
def HS_48 (S : Nat → St → St → Prop) : Prop := ∀ (k : Nat) (σ τ : St) (z0 : Int) (z1 : Int), k < 512 → R32 σ → R32 τ → S k σ τ → in32 z0 → in64 z1 → ∃ (r : Int) (σ1 τ1 : St), E_ways σ z0 z1 = some (r, σ1) ∧ M_ways τ z0 z1 = some (r, τ1) ∧ S (k + 1) σ1 τ1
set_option maxRecDepth 100000 in
set_option maxHeartbeats 4000000 in
theorem law_c48 {p : Program} {l : Launch} {e : Env} {s : State} {m : MethodId} {below : List Frame} {meth : Method} {c : Code} {Q : State → Prop} {D : va_G} {g : Ad} {b L : Nat} {xs : Nat → Int32} {S : Nat → St → St → Prop} (HN : HS_48 S) (hC : LC p s m meth c b L xs D g) {k : Nat} {σ τ : St} {v i : Int} (hk : k < 512) (hR : R32 σ) (hR9 : R32 τ) (hS : S k σ τ) (h0 : 0 ≤ i) (hiL : i + 6 ≤ L) {H : Heap} {locs : List Loc} {cells slots : Nat} {ls : Array Slot} (hc : cells ≤ room_1.cells ∧ slots ≤ room_1.slots) (hE : EW D (aL s) s.heap (wL g σ τ v) H locs) (hl : lv_has ls 8 (lvL g b i))
    (next : ∀ (σ1 τ1 : St) (H : Heap) (locs : List Loc) (ls : Array Slot), R32 σ1 → R32 τ1 → S (k + 1) σ1 τ1 → EW D (aL s) s.heap (wL g σ1 τ1 v) H locs → lv_has ls 8 (lvL g b i) → W p l e room_1 s m #[Value.ref b] below meth c H locs cells slots Q (F0 m 2401 ls [])) : W p l e room_1 s m #[Value.ref b] below meth c H locs cells slots Q (F0 m 2252 ls []) := by
  have C0 := hC.1
  obtain ⟨a1, e_a1, i_a1⟩ : ∃ a, a = (xs (i + 1).toNat).toInt ∧ in32 a := ⟨_, rfl, in32_toInt _⟩
  obtain ⟨a2, e_a2, i_a2⟩ : ∃ a, a = (xs (i + 2).toNat).toInt ∧ in32 a := ⟨_, rfl, in32_toInt _⟩
  obtain ⟨a3, e_a3, i_a3⟩ : ∃ a, a = (xs (i + 3).toNat).toInt ∧ in32 a := ⟨_, rfl, in32_toInt _⟩
  obtain ⟨r, σ1, τ1, h_E, h_M, h_S⟩ := HN k σ τ a1 (llor (llshl a2 32) (lland a3 4294967295)) hk hR hR9 hS i_a1 (llor_in _ _)
  refine lv_aload_n C0.1 C0.2.1 dL_law_2252 rfl (lv_at hl 1 rfl) ?_
  refine lv_aload_n C0.1 C0.2.1 dL_law_2253 rfl (lv_at hl 0 rfl) ?_
  refine lv_iload C0.1 C0.2.1 dL_law_2254 (lv_at hl 4 rfl) ?_
  refine lv_iconst (v := I 1) C0.1 C0.2.1 dL_law_2256 rfl ?_
  refine x_add (v := i + 1) C0 rfl dL_law_2257 ?_
  refine x_sld hC hE (by omega) (by omega) e_a1 dL_law_2258 ?_
  refine lv_aload_n C0.1 C0.2.1 dL_law_2259 rfl (lv_at hl 0 rfl) ?_
  refine lv_iload C0.1 C0.2.1 dL_law_2260 (lv_at hl 4 rfl) ?_
  refine lv_iconst (v := I 2) C0.1 C0.2.1 dL_law_2262 rfl ?_
  refine x_add (v := i + 2) C0 rfl dL_law_2263 ?_
  refine x_sld hC hE (by omega) (by omega) e_a2 dL_law_2264 ?_
  refine x_i2l C0 i_a2 dL_law_2265 ?_
  refine lv_bipush (v := I 32) C0.1 C0.2.1 dL_law_2266 (by decide +kernel) ?_
  refine x_lshl (v := llshl a2 32) C0 rfl dL_law_2268 ?_
  refine lv_aload_n C0.1 C0.2.1 dL_law_2269 rfl (lv_at hl 0 rfl) ?_
  refine lv_iload C0.1 C0.2.1 dL_law_2270 (lv_at hl 4 rfl) ?_
  refine lv_iconst (v := I 3) C0.1 C0.2.1 dL_law_2272 rfl ?_
  refine x_add (v := i + 3) C0 rfl dL_law_2273 ?_
  refine x_sld hC hE (by omega) (by omega) e_a3 dL_law_2274 ?_
  refine x_i2l C0 i_a3 dL_law_2275 ?_
  refine x_ldc2 (v := 4294967295) C0 ck_L_218 (by decide +kernel) dL_law_2276 ?_
  refine x_land (v := lland a3 4294967295) C0 rfl dL_law_2279 ?_
  refine x_lor (v := llor (llshl a2 32) (lland a3 4294967295)) C0 rfl dL_law_2280 ?_
  refine lawE_i (rest := []) (σ' := σ1) C0 hC.2.1 hE (c_E_ways l D g hR i_a1 (llor_in _ _) h_E) kw_L_220 ⟨Nat.le_of_ble_eq_true rfl, Nat.le_of_ble_eq_true rfl⟩ rfl hl.1 rfl (Nat.le_of_ble_eq_true rfl) dL_law_2281 hc (fun H locs hE ⟨i_r, hR⟩ => ?_)
  refine lv_aload_n C0.1 C0.2.1 dL_law_2284 rfl (lv_at hl 2 rfl) ?_
  refine lv_aload_n C0.1 C0.2.1 dL_law_2285 rfl (lv_at hl 0 rfl) ?_
  refine lv_iload C0.1 C0.2.1 dL_law_2286 (lv_at hl 4 rfl) ?_
  refine lv_iconst (v := I 1) C0.1 C0.2.1 dL_law_2288 rfl ?_
  refine x_add (v := i + 1) C0 rfl dL_law_2289 ?_
  refine x_sld hC hE (by omega) (by omega) e_a1 dL_law_2290 ?_
  refine lv_aload_n C0.1 C0.2.1 dL_law_2291 rfl (lv_at hl 0 rfl) ?_
  refine lv_iload C0.1 C0.2.1 dL_law_2292 (lv_at hl 4 rfl) ?_
  refine lv_iconst (v := I 2) C0.1 C0.2.1 dL_law_2294 rfl ?_
  refine x_add (v := i + 2) C0 rfl dL_law_2295 ?_
  refine x_sld hC hE (by omega) (by omega) e_a2 dL_law_2296 ?_
  refine x_i2l C0 i_a2 dL_law_2297 ?_
  refine lv_bipush (v := I 32) C0.1 C0.2.1 dL_law_2298 (by decide +kernel) ?_
  refine x_lshl (v := llshl a2 32) C0 rfl dL_law_2300 ?_
  refine lv_aload_n C0.1 C0.2.1 dL_law_2301 rfl (lv_at hl 0 rfl) ?_
  refine lv_iload C0.1 C0.2.1 dL_law_2302 (lv_at hl 4 rfl) ?_
  refine lv_iconst (v := I 3) C0.1 C0.2.1 dL_law_2304 rfl ?_
  refine x_add (v := i + 3) C0 rfl dL_law_2305 ?_
  refine x_sld hC hE (by omega) (by omega) e_a3 dL_law_2306 ?_
  refine x_i2l C0 i_a3 dL_law_2307 ?_
  refine x_ldc2 (v := 4294967295) C0 ck_L_218 (by decide +kernel) dL_law_2308 ?_
  refine x_land (v := lland a3 4294967295) C0 rfl dL_law_2311 ?_
  refine x_lor (v := llor (llshl a2 32) (lland a3 4294967295)) C0 rfl dL_law_2312 ?_
  refine lawM_i (rest := [.int (I r)]) (τ' := τ1) C0 hC.2.1 hE (c_M_ways l D g hR9 i_a1 (llor_in _ _) h_M) kw_L_224 ⟨Nat.le_of_ble_eq_true rfl, Nat.le_of_ble_eq_true rfl⟩ rfl hl.1 rfl (Nat.le_of_ble_eq_true rfl) dL_law_2313 hc (fun H locs hE ⟨i_r9, hR9⟩ => ?_)
  refine x_icmp_eq C0 i_r i_r9 dL_law_2316 (tgt := 2401) (by decide) (fun _ => ?_) (fun c9 => absurd rfl c9)
  exact next σ1 τ1 H locs ls hR hR9 h_S hE hl
def HS_49 (S : Nat → St → St → Prop) : Prop := ∀ (k : Nat) (σ τ : St) (z0 : Int), k < 512 → R32 σ → R32 τ → S k σ τ → in32 z0 → ∃ (r : Int) (τ1 : St), E_count σ z0 = some r ∧ M_count τ z0 = some (r, τ1) ∧ S (k + 1) σ τ1
set_option maxRecDepth 100000 in
set_option maxHeartbeats 4000000 in
theorem law_c49 {p : Program} {l : Launch} {e : Env} {s : State} {m : MethodId} {below : List Frame} {meth : Method} {c : Code} {Q : State → Prop} {D : va_G} {g : Ad} {b L : Nat} {xs : Nat → Int32} {S : Nat → St → St → Prop} (HN : HS_49 S) (hC : LC p s m meth c b L xs D g) {k : Nat} {σ τ : St} {v i : Int} (hk : k < 512) (hR : R32 σ) (hR9 : R32 τ) (hS : S k σ τ) (h0 : 0 ≤ i) (hiL : i + 6 ≤ L) {H : Heap} {locs : List Loc} {cells slots : Nat} {ls : Array Slot} (hc : cells ≤ room_1.cells ∧ slots ≤ room_1.slots) (hE : EW D (aL s) s.heap (wL g σ τ v) H locs) (hl : lv_has ls 8 (lvL g b i))
    (next : ∀ (σ1 τ1 : St) (H : Heap) (locs : List Loc) (ls : Array Slot), R32 σ1 → R32 τ1 → S (k + 1) σ1 τ1 → EW D (aL s) s.heap (wL g σ1 τ1 v) H locs → lv_has ls 8 (lvL g b i) → W p l e room_1 s m #[Value.ref b] below meth c H locs cells slots Q (F0 m 2401 ls [])) : W p l e room_1 s m #[Value.ref b] below meth c H locs cells slots Q (F0 m 2321 ls []) := by
  have C0 := hC.1
  obtain ⟨a1, e_a1, i_a1⟩ : ∃ a, a = (xs (i + 1).toNat).toInt ∧ in32 a := ⟨_, rfl, in32_toInt _⟩
  obtain ⟨r, τ1, h_E, h_M, h_S⟩ := HN k σ τ a1 hk hR hR9 hS i_a1
  refine lv_aload_n C0.1 C0.2.1 dL_law_2321 rfl (lv_at hl 1 rfl) ?_
  refine lv_aload_n C0.1 C0.2.1 dL_law_2322 rfl (lv_at hl 0 rfl) ?_
  refine lv_iload C0.1 C0.2.1 dL_law_2323 (lv_at hl 4 rfl) ?_
  refine lv_iconst (v := I 1) C0.1 C0.2.1 dL_law_2325 rfl ?_
  refine x_add (v := i + 1) C0 rfl dL_law_2326 ?_
  refine x_sld hC hE (by omega) (by omega) e_a1 dL_law_2327 ?_
  refine lawE_i (rest := []) (σ' := σ) C0 hC.2.1 hE (c_E_count l D g hR i_a1 h_E) kw_L_225 ⟨Nat.le_of_ble_eq_true rfl, Nat.le_of_ble_eq_true rfl⟩ rfl hl.1 rfl (Nat.le_of_ble_eq_true rfl) dL_law_2328 hc (fun H locs hE i_r => ?_)
  refine lv_aload_n C0.1 C0.2.1 dL_law_2331 rfl (lv_at hl 2 rfl) ?_
  refine lv_aload_n C0.1 C0.2.1 dL_law_2332 rfl (lv_at hl 0 rfl) ?_
  refine lv_iload C0.1 C0.2.1 dL_law_2333 (lv_at hl 4 rfl) ?_
  refine lv_iconst (v := I 1) C0.1 C0.2.1 dL_law_2335 rfl ?_
  refine x_add (v := i + 1) C0 rfl dL_law_2336 ?_
  refine x_sld hC hE (by omega) (by omega) e_a1 dL_law_2337 ?_
  refine lawM_i (rest := [.int (I r)]) (τ' := τ1) C0 hC.2.1 hE (c_M_count l D g hR9 i_a1 h_M) kw_L_228 ⟨Nat.le_of_ble_eq_true rfl, Nat.le_of_ble_eq_true rfl⟩ rfl hl.1 rfl (Nat.le_of_ble_eq_true rfl) dL_law_2338 hc (fun H locs hE ⟨i_r9, hR9⟩ => ?_)
  refine x_icmp_eq C0 i_r i_r9 dL_law_2341 (tgt := 2401) (by decide) (fun _ => ?_) (fun c9 => absurd rfl c9)
  exact next σ τ1 H locs ls hR hR9 h_S hE hl
