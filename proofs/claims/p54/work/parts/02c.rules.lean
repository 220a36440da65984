-- RULES: what holds in a method's run, contracts, calls, ends
abbrev Ad : Type := (Nat → ClassId) × (Nat → Nat)
def tyA (g : Ad) : List (ClassId × FieldType) := [(g.1 0, .int), (g.1 1, .long)]
def nestW : Cond → Prop
  | .fieldLinkNest .. => True
  | .methodLinkNest .. => True
  | _ => False
theorem nest_warm {w : Cond} (hn : nestW w) {s U : State} (hW : s.WarmedH U.vm) (h : va_Nw w s) : va_Nw w U := by
  cases w <;> first | exact va_Nw.warmF hW h | exact va_Nw.warmM hW h | exact absurd hn (fun q => q)
theorem nest_same {w : Cond} (hn : nestW w) {s U : State} (hv : s.vm = U.vm) (h : va_Nw w s) : va_Nw w U := by
  cases w <;> first | exact va_Nw.same rfl hv h | exact absurd hn (fun q => q)
theorem NW_nest : ∀ w ∈ NW, nestW w := by
  intro w hw
  simp only [NW, List.mem_cons, List.not_mem_nil, or_false] at hw
  rcases hw with rfl | rfl | rfl | rfl | rfl | rfl | rfl | rfl | rfl | rfl | rfl <;> exact trivial
def KX (D : va_G) (g : Ad) (U : State) : Prop := va_K D vwCl (tyA g) U ∧ ∀ w ∈ NW, va_Nw w U
theorem KX.warm {D : va_G} {g : Ad} {s U : State} (hW : s.WarmedH U.vm) (h : KX D g s) : KX D g U := ⟨va_K.moved hW.alike h.1, fun w hw => nest_warm (NW_nest w hw) hW (h.2 w hw)⟩
theorem KX.call {D : va_G} {g : Ad} {U : State} {gg : JFrame} {mk : MethodId} {a : Array Value} (h : KX D g U) : KX D g (U.calling gg mk a) :=
  ⟨va_K.moved (u := U) (U := U.calling gg mk a) (Vm.Alike.refl U.vm) h.1, fun w hw => nest_same (s := U) (U := U.calling gg mk a) (NW_nest w hw) rfl (h.2 w hw)⟩
def CX (p : Program) (c : Code) (cc : ByteArray) (m : MethodId) (s : State) (args : Array Value) (D : va_G) (g : Ad) (own : String) : Prop :=
  p.tables.exec = Jvm.exec ∧ c.code = cc ∧ s.vm.findClass own = some m.cls ∧ (∀ w ∈ WT, w.before args s = true) ∧ KX D g s
def EW (D : va_G) (A : Nat → Prop) (H0 : Heap) (w : va_W) (H : Heap) (locs : List Loc) : Prop := va_P D vwCl w H ∧ va_D A w ∧ va_S A H0 H locs ∧ ∀ q : Nat, H0.size ≤ q → A q
theorem EW.free {D : va_G} {A : Nat → Prop} {H0 H : Heap} {w : va_W} {locs : List Loc} (h : EW D A H0 w H locs) : ∀ q, va_A w H.size q → A q := by
  intro q hq
  rcases hq with ⟨k, e, hk⟩ | hq
  · exact h.2.1.2 k (q, e) hk
  · exact h.2.2.2 q (Nat.le_trans h.2.2.1.1 hq)
def rmk (k : Nat) : Room := { frames := k, cells := 0, slots := 0, locals := 40 * k }
def PC (D : va_G) (g : Ad) (w : va_W) (av : List Value) (sz : Nat) : Array Value → State → Prop := va_Pc av (fun U => U.heap.size = sz ∧ va_P D vwCl w U.heap ∧ KX D g U ∧ va_D (fun _ => True) w)
def BW (D : va_G) (w' : va_W) (A : Nat → Prop) (t : State) : Prop := va_P D vwCl w' t.heap ∧ va_D A w'
def QCi (D : va_G) (w' : va_W) (r : Int) (R' : Prop) (A : Nat → Prop) : Array Value → State → Outcome → State → Prop := va_Qi (fun (x : Int32) (_ : Unit) => x = I r ∧ R') (fun _ t => BW D w' A t) A
def QCl (D : va_G) (w' : va_W) (r : Int) (R' : Prop) (A : Nat → Prop) : Array Value → State → Outcome → State → Prop := va_Ql (fun (x : Int64) (_ : Unit) => x = J r ∧ R') (fun _ t => BW D w' A t) A
def QCv (D : va_G) (w' : va_W) (R' : Prop) (A : Nat → Prop) : Array Value → State → Outcome → State → Prop := va_Qv (fun (_ : Unit) => R') (fun _ t => BW D w' A t) A
def CtI (l : Launch) (D : va_G) (g : Ad) (y : MethodName) (b : ByteArray) (nl : Nat) (rt : Option FieldType) (k : Nat) (w w' : va_W) (av : List Value) (r : Int) (R' : Prop) : Prop :=
  ∀ sz : Nat, Met l y (.code y b nl rt :: WT) (rmk k) (PC D g w av sz) (QCi D w' r R' (va_A w sz)) 0 0 (va_A w sz)
def CtL (l : Launch) (D : va_G) (g : Ad) (y : MethodName) (b : ByteArray) (nl : Nat) (rt : Option FieldType) (k : Nat) (w w' : va_W) (av : List Value) (r : Int) (R' : Prop) : Prop :=
  ∀ sz : Nat, Met l y (.code y b nl rt :: WT) (rmk k) (PC D g w av sz) (QCl D w' r R' (va_A w sz)) 0 0 (va_A w sz)
def CtV (l : Launch) (D : va_G) (g : Ad) (y : MethodName) (b : ByteArray) (nl : Nat) (rt : Option FieldType) (k : Nat) (w w' : va_W) (av : List Value) (R' : Prop) : Prop :=
  ∀ sz : Nat, Met l y (.code y b nl rt :: WT) (rmk k) (PC D g w av sz) (QCv D w' R' (va_A w sz)) 0 0 (va_A w sz)
theorem met_of {l : Launch} {D : va_G} {g : Ad} {y : MethodName} {b : ByteArray} {nl : Nat} {rt : Option FieldType} {k : Nat} {w : va_W} {av : List Value} {sz : Nat} {Qc : Array Value → State → Outcome → State → Prop} (hy : plainName y.cls = true) (hav : (lg_sl av).length ≤ nl)
    (body : ∀ (p : Program) (e : Env) (s : State) (m : MethodId) (args : Array Value) (below : List Frame) (meth : Method) (c : Code) (ls : Array Slot) (H : Heap) (locs : List Loc), CX p c b m s args D g y.cls → c.maxLocals = nl → meth.sig.returnType = rt → meth.locks = false → EW D (va_A w sz) s.heap w H locs → lv_has ls nl (lv_args 0 av) →
      W p l e (rmk k) s m args below meth c H locs 0 0 (MQ below Qc args s 0 0 (va_A w sz)) (F0 m 0 ls [])) :
    Met l y (.code y b nl rt :: WT) (rmk k) (PC D g w av sz) Qc 0 0 (va_A w sz) := by
  refine Met.ofW (cc := b) (maxL := nl) (ret := rt) hy rfl ?_
  intro p e s m args below meth c s₁ B hml hv
  obtain ⟨rfl, hsz, hP, hK, hD0⟩ := hv
  have hts := atoms_spec (ws := .code y b nl rt :: WT) B.pre
  have hown : s.vm.findClass y.cls = some m.cls := findClass_of_methodNamed B.named
  subst hsz
  have hD := hD0.self (sz := s.heap.size)
  have hl := lv_entry av (n := nl) hav
  rw [lg_entry_eq]
  exact body p e s m _ below meth c _ s.heap [] ⟨B.exec, B.bytes, hown, fun w hw => hts w (List.mem_cons_of_mem _ hw), hK⟩ hml B.returns B.notSynchronized ⟨hP, hD, va_S.rf, fun q h => Or.inr h⟩ hl
section RL
variable {p : Program} {l : Launch} {e : Env} {R : Room} {s : State} {m : MethodId} {args : Array Value} {below : List Frame} {meth : Method} {c : Code} {H : Heap} {locs : List Loc} {cells slots : Nat} {Q : State → Prop}
variable {cc : ByteArray} {pc : Nat} {ls : Array Slot} {rest : List Value} {D : va_G} {g : Ad} {own : String} {A : Nat → Prop} {H0 : Heap}
theorem x_add (C0 : CX p c cc m s args D g own) {a b v : Int} (e9 : v = a + b) (hd : decode cc pc = .ok (.iadd, 1)) (k : W p l e R s m args below meth c H locs cells slots Q (F0 m (pc + 1) ls (.int (I v) :: rest))) : W p l e R s m args below meth c H locs cells slots Q (F0 m pc ls (.int (I b) :: .int (I a) :: rest)) := by
  subst e9; exact lv_iadd C0.1 C0.2.1 hd (by rw [← Int32.ofInt_add]; exact k)
theorem x_sub (C0 : CX p c cc m s args D g own) {a b v : Int} (e9 : v = a - b) (hd : decode cc pc = .ok (.isub, 1)) (k : W p l e R s m args below meth c H locs cells slots Q (F0 m (pc + 1) ls (.int (I v) :: rest))) : W p l e R s m args below meth c H locs cells slots Q (F0 m pc ls (.int (I b) :: .int (I a) :: rest)) := by
  subst e9; exact lv_isub C0.1 C0.2.1 hd (by rw [← Int32.ofInt_sub]; exact k)
theorem x_mul (C0 : CX p c cc m s args D g own) {a b v : Int} (e9 : v = a * b) (hd : decode cc pc = .ok (.imul, 1)) (k : W p l e R s m args below meth c H locs cells slots Q (F0 m (pc + 1) ls (.int (I v) :: rest))) : W p l e R s m args below meth c H locs cells slots Q (F0 m pc ls (.int (I b) :: .int (I a) :: rest)) := by
  subst e9; exact lv_imul C0.1 C0.2.1 hd (by rw [← Int32.ofInt_mul]; exact k)
theorem x_neg (C0 : CX p c cc m s args D g own) {a v : Int} (e9 : v = -a) (hd : decode cc pc = .ok (.ineg, 1)) (k : W p l e R s m args below meth c H locs cells slots Q (F0 m (pc + 1) ls (.int (I v) :: rest))) : W p l e R s m args below meth c H locs cells slots Q (F0 m pc ls (.int (I a) :: rest)) := by
  subst e9; exact lv_ineg C0.1 C0.2.1 hd (by rw [← Int32.ofInt_neg]; exact k)
theorem I_div {a b : Int} (ha : in32 a) (hb : in32 b) (h0 : 0 ≤ a) (h1 : 0 < b) : I a / I b = I (a / b) := by
  rw [← Int32.toInt_inj, Int32.toInt_div_of_ne_right _ _ (fun h => by
    have h2 := congrArg Int32.toInt h
    rw [I_toInt hb] at h2
    have h3 : (-1 : Int32).toInt = -1 := by decide
    omega), I_toInt ha, I_toInt hb, I_toInt (div_in ha h0 h1).2, Int.tdiv_eq_ediv_of_nonneg h0]
theorem I_mod {a b : Int} (ha : in32 a) (hb : in32 b) (h0 : 0 ≤ a) (h1 : 0 < b) : I a % I b = I (a % b) := by
  have h3 := Int.emod_nonneg a (show b ≠ 0 by omega)
  have h4 := Int.emod_lt_of_pos a h1
  rw [← Int32.toInt_inj, Int32.toInt_mod, I_toInt ha, I_toInt hb, I_toInt (by omega), Int.tmod_eq_emod_of_nonneg h0]
theorem I_ne0 {b : Int} (hb : in32 b) (h1 : 0 < b) : ¬ I b = 0 := by
  intro h
  have h2 := congrArg Int32.toInt h
  rw [I_toInt hb] at h2
  have h3 : (0 : Int32).toInt = 0 := by decide
  omega
theorem x_div (C0 : CX p c cc m s args D g own) {a b v : Int} (ha : in32 a) (hb : in32 b) (e9 : v = a / b ∧ 0 ≤ a ∧ 0 < b) (hd : decode cc pc = .ok (.idiv, 1)) (k : W p l e R s m args below meth c H locs cells slots Q (F0 m (pc + 1) ls (.int (I v) :: rest))) : W p l e R s m args below meth c H locs cells slots Q (F0 m pc ls (.int (I b) :: .int (I a) :: rest)) := by
  obtain ⟨rfl, h0, h1⟩ := e9
  exact lv_idiv C0.1 C0.2.1 hd (I_ne0 hb h1) (by rw [I_div ha hb h0 h1]; exact k)
theorem x_rem (C0 : CX p c cc m s args D g own) {a b v : Int} (ha : in32 a) (hb : in32 b) (e9 : v = a % b ∧ 0 ≤ a ∧ 0 < b) (hd : decode cc pc = .ok (.irem, 1)) (k : W p l e R s m args below meth c H locs cells slots Q (F0 m (pc + 1) ls (.int (I v) :: rest))) : W p l e R s m args below meth c H locs cells slots Q (F0 m pc ls (.int (I b) :: .int (I a) :: rest)) := by
  obtain ⟨rfl, h0, h1⟩ := e9
  exact lv_irem C0.1 C0.2.1 hd (I_ne0 hb h1) (by
    have h5 : I a % I b = I (a % b) := I_mod ha hb h0 h1
    first | (rw [h5]; exact k) | (rw [irem_eq_mod, h5]; exact k))
theorem x_shl (C0 : CX p c cc m s args D g own) {a b v : Int} (e9 : v = bshl a b) (hd : decode cc pc = .ok (.ishl, 1)) (k : W p l e R s m args below meth c H locs cells slots Q (F0 m (pc + 1) ls (.int (I v) :: rest))) : W p l e R s m args below meth c H locs cells slots Q (F0 m pc ls (.int (I b) :: .int (I a) :: rest)) := by
  subst e9; exact lv_ishl C0.1 C0.2.1 hd (by rw [show I a <<< (I b &&& 31) = I (bshl a b) from (Int32.ofInt_toInt _).symm]; exact k)
theorem x_shr (C0 : CX p c cc m s args D g own) {a b v : Int} (e9 : v = bshr a b) (hd : decode cc pc = .ok (.ishr, 1)) (k : W p l e R s m args below meth c H locs cells slots Q (F0 m (pc + 1) ls (.int (I v) :: rest))) : W p l e R s m args below meth c H locs cells slots Q (F0 m pc ls (.int (I b) :: .int (I a) :: rest)) := by
  subst e9; exact lv_ishr C0.1 C0.2.1 hd (by rw [show I a >>> (I b &&& 31) = I (bshr a b) from (Int32.ofInt_toInt _).symm]; exact k)
theorem x_ushr (C0 : CX p c cc m s args D g own) {a b v : Int} (e9 : v = bushr a b) (hd : decode cc pc = .ok (.iushr, 1)) (k : W p l e R s m args below meth c H locs cells slots Q (F0 m (pc + 1) ls (.int (I v) :: rest))) : W p l e R s m args below meth c H locs cells slots Q (F0 m pc ls (.int (I b) :: .int (I a) :: rest)) := by
  subst e9; exact lv_iushr (v := I (bushr a b)) C0.1 C0.2.1 hd (Int32.ofInt_toInt _).symm k
theorem x_and (C0 : CX p c cc m s args D g own) {a b v : Int} (e9 : v = band a b) (hd : decode cc pc = .ok (.iand, 1)) (k : W p l e R s m args below meth c H locs cells slots Q (F0 m (pc + 1) ls (.int (I v) :: rest))) : W p l e R s m args below meth c H locs cells slots Q (F0 m pc ls (.int (I b) :: .int (I a) :: rest)) := by
  subst e9; exact lv_iand C0.1 C0.2.1 hd (by rw [show I a &&& I b = I (band a b) from (Int32.ofInt_toInt _).symm]; exact k)
theorem x_or (C0 : CX p c cc m s args D g own) {a b v : Int} (e9 : v = bor a b) (hd : decode cc pc = .ok (.ior, 1)) (k : W p l e R s m args below meth c H locs cells slots Q (F0 m (pc + 1) ls (.int (I v) :: rest))) : W p l e R s m args below meth c H locs cells slots Q (F0 m pc ls (.int (I b) :: .int (I a) :: rest)) := by
  subst e9; exact lv_ior C0.1 C0.2.1 hd (by rw [show I a ||| I b = I (bor a b) from (Int32.ofInt_toInt _).symm]; exact k)
theorem x_i2b (C0 : CX p c cc m s args D g own) {a v : Int} (e9 : v = bi2b a) (hd : decode cc pc = .ok (.i2b, 1)) (k : W p l e R s m args below meth c H locs cells slots Q (F0 m (pc + 1) ls (.int (I v) :: rest))) : W p l e R s m args below meth c H locs cells slots Q (F0 m pc ls (.int (I a) :: rest)) := by
  subst e9; exact lv_i2b (v := I (bi2b a)) C0.1 C0.2.1 hd (Int32.ofInt_toInt _).symm k
theorem x_i2l (C0 : CX p c cc m s args D g own) {a : Int} (ha : in32 a) (hd : decode cc pc = .ok (.i2l, 1)) (k : W p l e R s m args below meth c H locs cells slots Q (F0 m (pc + 1) ls (.long (J a) :: rest))) : W p l e R s m args below meth c H locs cells slots Q (F0 m pc ls (.int (I a) :: rest)) :=
  lv_i2l (v := J a) C0.1 C0.2.1 hd (by rw [← Int64.toInt_inj, J_toInt (in64_of ha), Int32.toInt_toInt64, I_toInt ha]) k
theorem x_land (C0 : CX p c cc m s args D g own) {a b v : Int} (e9 : v = lland a b) (hd : decode cc pc = .ok (.land, 1)) (k : W p l e R s m args below meth c H locs cells slots Q (F0 m (pc + 1) ls (.long (J v) :: rest))) : W p l e R s m args below meth c H locs cells slots Q (F0 m pc ls (.long (J b) :: .long (J a) :: rest)) := by
  subst e9; exact lv_land C0.1 C0.2.1 hd (by rw [show J a &&& J b = J (lland a b) from (Int64.ofInt_toInt _).symm]; exact k)
theorem x_lor (C0 : CX p c cc m s args D g own) {a b v : Int} (e9 : v = llor a b) (hd : decode cc pc = .ok (.lor, 1)) (k : W p l e R s m args below meth c H locs cells slots Q (F0 m (pc + 1) ls (.long (J v) :: rest))) : W p l e R s m args below meth c H locs cells slots Q (F0 m pc ls (.long (J b) :: .long (J a) :: rest)) := by
  subst e9; exact lv_lor C0.1 C0.2.1 hd (by rw [show J a ||| J b = J (llor a b) from (Int64.ofInt_toInt _).symm]; exact k)
theorem x_lshl (C0 : CX p c cc m s args D g own) {a b v : Int} (e9 : v = llshl a b) (hd : decode cc pc = .ok (.lshl, 1)) (k : W p l e R s m args below meth c H locs cells slots Q (F0 m (pc + 1) ls (.long (J v) :: rest))) : W p l e R s m args below meth c H locs cells slots Q (F0 m pc ls (.int (I b) :: .long (J a) :: rest)) := by
  subst e9; exact lv_lshl (v := J (llshl a b)) C0.1 C0.2.1 hd (Int64.ofInt_toInt _).symm k
theorem x_lshr (C0 : CX p c cc m s args D g own) {a b v : Int} (e9 : v = llshr a b) (hd : decode cc pc = .ok (.lshr, 1)) (k : W p l e R s m args below meth c H locs cells slots Q (F0 m (pc + 1) ls (.long (J v) :: rest))) : W p l e R s m args below meth c H locs cells slots Q (F0 m pc ls (.int (I b) :: .long (J a) :: rest)) := by
  subst e9; exact lv_lshr (v := J (llshr a b)) C0.1 C0.2.1 hd (Int64.ofInt_toInt _).symm k
theorem x_lushr (C0 : CX p c cc m s args D g own) {a b v : Int} (e9 : v = llushr a b) (hd : decode cc pc = .ok (.lushr, 1)) (k : W p l e R s m args below meth c H locs cells slots Q (F0 m (pc + 1) ls (.long (J v) :: rest))) : W p l e R s m args below meth c H locs cells slots Q (F0 m pc ls (.int (I b) :: .long (J a) :: rest)) := by
  subst e9; exact lv_lushr (v := J (llushr a b)) C0.1 C0.2.1 hd (Int64.ofInt_toInt _).symm k
theorem J_cmp {a b : Int} (ha : in64 a) (hb : in64 b) : lg_cmp (J a) (J b) = I (lcmpv a b) := by
  have e1 : J a < J b ↔ a < b := by rw [Int64.lt_iff_toInt_lt, J_toInt ha, J_toInt hb]
  have e2 : J a = J b ↔ a = b := by rw [← Int64.toInt_inj, J_toInt ha, J_toInt hb]
  have e3 : J b < J a ↔ b < a := by rw [Int64.lt_iff_toInt_lt, J_toInt ha, J_toInt hb]
  unfold lg_cmp lcmpv
  by_cases h1 : a < b
  · have q1 : ¬ J b < J a := fun z => by have := e3.mp z; omega
    have q2 : ¬ J a = J b := fun z => by have := e2.mp z; omega
    rw [if_neg q1, if_neg q2, if_pos h1]; rfl
  · by_cases h2 : a = b
    · subst h2
      rw [if_neg (fun z => h1 (e1.mp z)), if_pos rfl, if_neg h1, if_pos rfl]; rfl
    · rw [if_pos (e3.mpr (by omega)), if_neg h1, if_neg h2]; rfl
theorem x_lcmp (C0 : CX p c cc m s args D g own) {a b v : Int} (ha : in64 a) (hb : in64 b) (e9 : v = lcmpv a b) (hd : decode cc pc = .ok (.lcmp, 1)) (k : W p l e R s m args below meth c H locs cells slots Q (F0 m (pc + 1) ls (.int (I v) :: rest))) : W p l e R s m args below meth c H locs cells slots Q (F0 m pc ls (.long (J b) :: .long (J a) :: rest)) := by
  subst e9; exact W.lcmp C0.1 C0.2.1 hd (by rw [J_cmp ha hb]; exact k)
theorem x_icmp_eq (C0 : CX p c cc m s args D g own) {a b : Int} (ha : in32 a) (hb : in32 b) {off : Int} {tgt : Nat} (hd : decode cc pc = .ok (.if_icmp .eq off, 3)) (ht : (pc : Int) + off = (tgt : Int)) (kt : a = b → W p l e R s m args below meth c H locs cells slots Q (F0 m tgt ls rest)) (kf : ¬ a = b → W p l e R s m args below meth c H locs cells slots Q (F0 m (pc + 3) ls rest)) : W p l e R s m args below meth c H locs cells slots Q (F0 m pc ls (.int (I b) :: .int (I a) :: rest)) := by
  refine lv_icmp_eq C0.1 C0.2.1 hd ht (fun q => kt ?_) (fun q => kf ?_)
  · exact (I_eq ha hb).mp q
  · exact fun z => q ((I_eq ha hb).mpr z)
theorem x_icmp_ne (C0 : CX p c cc m s args D g own) {a b : Int} (ha : in32 a) (hb : in32 b) {off : Int} {tgt : Nat} (hd : decode cc pc = .ok (.if_icmp .ne off, 3)) (ht : (pc : Int) + off = (tgt : Int)) (kt : ¬ a = b → W p l e R s m args below meth c H locs cells slots Q (F0 m tgt ls rest)) (kf : a = b → W p l e R s m args below meth c H locs cells slots Q (F0 m (pc + 3) ls rest)) : W p l e R s m args below meth c H locs cells slots Q (F0 m pc ls (.int (I b) :: .int (I a) :: rest)) := by
  refine lv_icmp_ne C0.1 C0.2.1 hd ht (fun q => kt ?_) (fun q => kf ?_)
  · exact fun z => q ((I_eq ha hb).mpr z)
  · exact (I_eq ha hb).mp q
theorem x_icmp_lt (C0 : CX p c cc m s args D g own) {a b : Int} (ha : in32 a) (hb : in32 b) {off : Int} {tgt : Nat} (hd : decode cc pc = .ok (.if_icmp .lt off, 3)) (ht : (pc : Int) + off = (tgt : Int)) (kt : a < b → W p l e R s m args below meth c H locs cells slots Q (F0 m tgt ls rest)) (kf : ¬ a < b → W p l e R s m args below meth c H locs cells slots Q (F0 m (pc + 3) ls rest)) : W p l e R s m args below meth c H locs cells slots Q (F0 m pc ls (.int (I b) :: .int (I a) :: rest)) := by
  refine lv_icmp_lt C0.1 C0.2.1 hd ht (fun q => kt ?_) (fun q => kf ?_)
  · exact (I_lt ha hb).mp q
  · exact fun z => q ((I_lt ha hb).mpr z)
theorem x_icmp_ge (C0 : CX p c cc m s args D g own) {a b : Int} (ha : in32 a) (hb : in32 b) {off : Int} {tgt : Nat} (hd : decode cc pc = .ok (.if_icmp .ge off, 3)) (ht : (pc : Int) + off = (tgt : Int)) (kt : ¬ a < b → W p l e R s m args below meth c H locs cells slots Q (F0 m tgt ls rest)) (kf : a < b → W p l e R s m args below meth c H locs cells slots Q (F0 m (pc + 3) ls rest)) : W p l e R s m args below meth c H locs cells slots Q (F0 m pc ls (.int (I b) :: .int (I a) :: rest)) := by
  refine lv_icmp_ge C0.1 C0.2.1 hd ht (fun q => kt ?_) (fun q => kf ?_)
  · exact fun z => by have := (I_le hb ha).mp q; omega
  · exact Int.not_le.mp (fun z => q ((I_le hb ha).mpr z))
theorem x_icmp_gt (C0 : CX p c cc m s args D g own) {a b : Int} (ha : in32 a) (hb : in32 b) {off : Int} {tgt : Nat} (hd : decode cc pc = .ok (.if_icmp .gt off, 3)) (ht : (pc : Int) + off = (tgt : Int)) (kt : b < a → W p l e R s m args below meth c H locs cells slots Q (F0 m tgt ls rest)) (kf : ¬ b < a → W p l e R s m args below meth c H locs cells slots Q (F0 m (pc + 3) ls rest)) : W p l e R s m args below meth c H locs cells slots Q (F0 m pc ls (.int (I b) :: .int (I a) :: rest)) := by
  refine lv_icmp_gt C0.1 C0.2.1 hd ht (fun q => kt ?_) (fun q => kf ?_)
  · exact (I_lt hb ha).mp q
  · exact fun z => q ((I_lt hb ha).mpr z)
theorem x_icmp_le (C0 : CX p c cc m s args D g own) {a b : Int} (ha : in32 a) (hb : in32 b) {off : Int} {tgt : Nat} (hd : decode cc pc = .ok (.if_icmp .le off, 3)) (ht : (pc : Int) + off = (tgt : Int)) (kt : ¬ b < a → W p l e R s m args below meth c H locs cells slots Q (F0 m tgt ls rest)) (kf : b < a → W p l e R s m args below meth c H locs cells slots Q (F0 m (pc + 3) ls rest)) : W p l e R s m args below meth c H locs cells slots Q (F0 m pc ls (.int (I b) :: .int (I a) :: rest)) := by
  refine lv_icmp_le C0.1 C0.2.1 hd ht (fun q => kt ?_) (fun q => kf ?_)
  · exact fun z => by have := (I_le ha hb).mp q; omega
  · exact Int.not_le.mp (fun z => q ((I_le ha hb).mpr z))
theorem x_if_eq (C0 : CX p c cc m s args D g own) {a : Int} (ha : in32 a) {off : Int} {tgt : Nat} (hd : decode cc pc = .ok (.ifCond .eq off, 3)) (ht : (pc : Int) + off = (tgt : Int)) (kt : a = 0 → W p l e R s m args below meth c H locs cells slots Q (F0 m tgt ls rest)) (kf : ¬ a = 0 → W p l e R s m args below meth c H locs cells slots Q (F0 m (pc + 3) ls rest)) : W p l e R s m args below meth c H locs cells slots Q (F0 m pc ls (.int (I a) :: rest)) := by
  have hb : in32 0 := by decide
  refine lv_if_eq C0.1 C0.2.1 hd ht (fun q => kt ?_) (fun q => kf ?_)
  · exact (I_eq ha hb).mp q
  · exact fun z => q ((I_eq ha hb).mpr z)
theorem x_if_ne (C0 : CX p c cc m s args D g own) {a : Int} (ha : in32 a) {off : Int} {tgt : Nat} (hd : decode cc pc = .ok (.ifCond .ne off, 3)) (ht : (pc : Int) + off = (tgt : Int)) (kt : ¬ a = 0 → W p l e R s m args below meth c H locs cells slots Q (F0 m tgt ls rest)) (kf : a = 0 → W p l e R s m args below meth c H locs cells slots Q (F0 m (pc + 3) ls rest)) : W p l e R s m args below meth c H locs cells slots Q (F0 m pc ls (.int (I a) :: rest)) := by
  have hb : in32 0 := by decide
  refine lv_if_ne C0.1 C0.2.1 hd ht (fun q => kt ?_) (fun q => kf ?_)
  · exact fun z => q ((I_eq ha hb).mpr z)
  · exact (I_eq ha hb).mp q
theorem x_if_lt (C0 : CX p c cc m s args D g own) {a : Int} (ha : in32 a) {off : Int} {tgt : Nat} (hd : decode cc pc = .ok (.ifCond .lt off, 3)) (ht : (pc : Int) + off = (tgt : Int)) (kt : a < 0 → W p l e R s m args below meth c H locs cells slots Q (F0 m tgt ls rest)) (kf : ¬ a < 0 → W p l e R s m args below meth c H locs cells slots Q (F0 m (pc + 3) ls rest)) : W p l e R s m args below meth c H locs cells slots Q (F0 m pc ls (.int (I a) :: rest)) := by
  have hb : in32 0 := by decide
  refine lv_if_lt C0.1 C0.2.1 hd ht (fun q => kt ?_) (fun q => kf ?_)
  · exact (I_lt ha hb).mp q
  · exact fun z => q ((I_lt ha hb).mpr z)
theorem x_if_ge (C0 : CX p c cc m s args D g own) {a : Int} (ha : in32 a) {off : Int} {tgt : Nat} (hd : decode cc pc = .ok (.ifCond .ge off, 3)) (ht : (pc : Int) + off = (tgt : Int)) (kt : ¬ a < 0 → W p l e R s m args below meth c H locs cells slots Q (F0 m tgt ls rest)) (kf : a < 0 → W p l e R s m args below meth c H locs cells slots Q (F0 m (pc + 3) ls rest)) : W p l e R s m args below meth c H locs cells slots Q (F0 m pc ls (.int (I a) :: rest)) := by
  have hb : in32 0 := by decide
  refine lv_if_ge C0.1 C0.2.1 hd ht (fun q => kt ?_) (fun q => kf ?_)
  · exact fun z => by have := (I_le hb ha).mp q; omega
  · exact Int.not_le.mp (fun z => q ((I_le hb ha).mpr z))
theorem x_if_gt (C0 : CX p c cc m s args D g own) {a : Int} (ha : in32 a) {off : Int} {tgt : Nat} (hd : decode cc pc = .ok (.ifCond .gt off, 3)) (ht : (pc : Int) + off = (tgt : Int)) (kt : 0 < a → W p l e R s m args below meth c H locs cells slots Q (F0 m tgt ls rest)) (kf : ¬ 0 < a → W p l e R s m args below meth c H locs cells slots Q (F0 m (pc + 3) ls rest)) : W p l e R s m args below meth c H locs cells slots Q (F0 m pc ls (.int (I a) :: rest)) := by
  have hb : in32 0 := by decide
  refine lv_if_gt C0.1 C0.2.1 hd ht (fun q => kt ?_) (fun q => kf ?_)
  · exact (I_lt hb ha).mp q
  · exact fun z => q ((I_lt hb ha).mpr z)
theorem x_if_le (C0 : CX p c cc m s args D g own) {a : Int} (ha : in32 a) {off : Int} {tgt : Nat} (hd : decode cc pc = .ok (.ifCond .le off, 3)) (ht : (pc : Int) + off = (tgt : Int)) (kt : ¬ 0 < a → W p l e R s m args below meth c H locs cells slots Q (F0 m tgt ls rest)) (kf : 0 < a → W p l e R s m args below meth c H locs cells slots Q (F0 m (pc + 3) ls rest)) : W p l e R s m args below meth c H locs cells slots Q (F0 m pc ls (.int (I a) :: rest)) := by
  have hb : in32 0 := by decide
  refine lv_if_le C0.1 C0.2.1 hd ht (fun q => kt ?_) (fun q => kf ?_)
  · exact fun z => by have := (I_le ha hb).mp q; omega
  · exact Int.not_le.mp (fun z => q ((I_le ha hb).mpr z))
theorem x_goto (C0 : CX p c cc m s args D g own) {off : Int} {tgt : Nat} (hd : decode cc pc = .ok (.goto off, 3)) (ht : (pc : Int) + off = (tgt : Int)) (k : W p l e R s m args below meth c H locs cells slots Q (F0 m tgt ls rest)) : W p l e R s m args below meth c H locs cells slots Q (F0 m pc ls rest) := lv_goto C0.1 C0.2.1 hd ht k
theorem x_ldcw (C0 : CX p c cc m s args D g own) {ix : Nat} {v : Int} {x : Int32} (hw : Cond.constant own ix x ∈ WT) (hv : x = I v) (hd : decode cc pc = .ok (.ldc_w ix, 3)) (k : W p l e R s m args below meth c H locs cells slots Q (F0 m (pc + 3) ls (.int (I v) :: rest))) : W p l e R s m args below meth c H locs cells slots Q (F0 m pc ls rest) := by
  subst hv; exact lv_ldcw C0.1 C0.2.1 C0.2.2.1 (C0.2.2.2.1 _ hw) hd k
theorem x_ldc (C0 : CX p c cc m s args D g own) {ix : Nat} {v : Int} {x : Int32} (hw : Cond.constant own ix x ∈ WT) (hv : x = I v) (hd : decode cc pc = .ok (.ldc ix, 2)) (k : W p l e R s m args below meth c H locs cells slots Q (F0 m (pc + 2) ls (.int (I v) :: rest))) : W p l e R s m args below meth c H locs cells slots Q (F0 m pc ls rest) := by
  subst hv; exact W.ldc (g := F0 m pc ls rest) C0.1 C0.2.1 C0.2.2.1 (C0.2.2.2.1 _ hw) rfl hd k
theorem x_ldc2 (C0 : CX p c cc m s args D g own) {ix : Nat} {v : Int} {x : Int64} (hw : Cond.constantLong own ix x ∈ WT) (hv : x = J v) (hd : decode cc pc = .ok (.ldc2_w ix, 3)) (k : W p l e R s m args below meth c H locs cells slots Q (F0 m (pc + 3) ls (.long (J v) :: rest))) : W p l e R s m args below meth c H locs cells slots Q (F0 m pc ls rest) := by
  subst hv; exact W.ldc2 (g := F0 m pc ls rest) C0.1 C0.2.1 C0.2.2.1 (C0.2.2.2.1 _ hw) rfl hd k
theorem wt_good {w : Cond} (h : w ∈ WT) : goodWord w = true := (List.mem_filter.mp h).2
theorem WT_cons {w : Cond} (h : w ∈ WT) : GoodIn WT (w :: WT) := fun q hq => (List.mem_cons.mp hq).elim (fun e => by rw [e]; exact ⟨h, good_of_word (wt_good h)⟩) (fun z => ⟨z, good_of_word (wt_good z)⟩)
theorem kwv {ix : Nat} {C : String} {y : MethodName} {b : ByteArray} {nl : Nat} {rt : Option FieldType} {n k : Nat} (K : KWV own ix C y b nl rt n) (C0 : CX p c cc m s args D g own) (hk : k + 1 ≤ R.frames ∧ 8 + (nl + 11) + 40 * k ≤ R.locals) : CallW R s args own C ix y b nl rt (.code y b nl rt :: WT) (rmk k) 0 0 n := by
  have ht := C0.2.2.2.1
  obtain ⟨h1, h2, h3, h4, h5, h6, h7⟩ := K
  exact ⟨callB_of n ht (WT_cons h5) rfl rfl rfl (by rw [h6]; exact ht _ h4) (ht _ h1) h7 hk, ht _ h2, ht _ h3⟩
theorem kws {ix : Nat} {y : MethodName} {b : ByteArray} {nl : Nat} {rt : Option FieldType} {n k : Nat} (K : KWS own ix y b nl rt n) (C0 : CX p c cc m s args D g own) (hk : k + 1 ≤ R.frames ∧ 8 + (nl + 11) + 40 * k ≤ R.locals) : CallB R s args own ix y b nl rt (.code y b nl rt :: WT) (rmk k) 0 0 n ∧ (Cond.static y).before args s = true := by
  have ht := C0.2.2.2.1
  obtain ⟨h1, h2, h3, h4, h7⟩ := K
  exact ⟨callB_of n ht (WT_cons h4) rfl rfl rfl (ht _ h3) (ht _ h1) h7 hk, ht _ h2⟩
theorem pc_blind {w : va_W} {av : List Value} {sz : Nat} : FrameBlind (PC D g w av sz) := fun a U gg mk q => by
  obtain ⟨q0, q1, qP, qK, qD⟩ := q
  exact ⟨q0, q1, qP, qK.call, qD⟩
def RC (s : State) (H : Heap) (C : String) (b : Addr) : Prop := ∃ cellB : Cell, H[b]? = some cellB ∧ cellB.vm.isStatics = false ∧ s.vm.findClass C = some cellB.cls
theorem pre_v {w : va_W} {C : String} {b : Nat} {As : List Value} (C0 : CX p c cc m s args D g own) (hE : EW D A H0 w H locs) (hrec : RC s H C b) : PreV s H C b (PC D g w (.ref b :: As) H.size) As :=
  ⟨pc_blind, hrec, fun U hU hW => ⟨rfl, by rw [hU], by rw [hU]; exact hE.1, C0.2.2.2.2.warm hW, hE.2.1.weaken (fun _ _ _ _ => trivial)⟩⟩
theorem pre_s {w : va_W} {As : List Value} (C0 : CX p c cc m s args D g own) (hE : EW D A H0 w H locs) : PreS s H (PC D g w As H.size) As :=
  ⟨pc_blind, fun U hU hW => ⟨rfl, by rw [hU], by rw [hU]; exact hE.1, C0.2.2.2.2.warm hW, hE.2.1.weaken (fun _ _ _ _ => trivial)⟩⟩
theorem ew_back {w w' : va_W} {t : State} {H1 : Heap} {locs1 : List Loc} (hE : EW D A H0 w H locs) (ht : t.heap = H1) (hB : BW D w' (va_A w H.size) t) (hS : va_S A H0 H1 locs1) : EW D A H0 w' H1 locs1 :=
  ⟨by rw [← ht]; exact hB.1, ⟨hB.2.1, fun k q hk => hE.free _ (hB.2.2 k q hk)⟩, hS, hE.2.2.2⟩
theorem callV_i {ix : Nat} {C : String} {y : MethodName} {b : ByteArray} {nl : Nat} {rt : Option FieldType} {n k nL : Nat} {w w' : va_W} {a : Nat} {As st0 : List Value} {r : Int} {R' : Prop} (C0 : CX p c cc m s args D g own) (hml : c.maxLocals = nL) (hE : EW D A H0 w H locs) (hrec : RC s H C a) (M : CtI l D g y b nl rt k w w' (.ref a :: As) r R') (K : KWV own ix C y b nl rt n)
    (hk : k + 1 ≤ R.frames ∧ 8 + (nl + 11) + 40 * k ≤ R.locals) (hn : As.length = n) (hls : ls.size = nL) (hst : st0 = As.reverse ++ .ref a :: rest) (hw : (rest.map fun v => v.category).sum ≤ 8) (hd : decode cc pc = .ok (.invokevirtual ix, 3)) (hc : cells ≤ R.cells ∧ slots ≤ R.slots)
    (kk : ∀ (H1 : Heap) (locs1 : List Loc), EW D A H0 w' H1 locs1 → R' → W p l e R s m args below meth c H1 locs1 cells slots Q (F0 m (pc + 3) ls (.int (I r) :: rest))) : W p l e R s m args below meth c H locs cells slots Q (F0 m pc ls st0) :=
  va_calli (va_runV ⟨C0.1, C0.2.1, hml, C0.2.2.1, C0.2.2.2.1⟩ (M H.size) (kwv K C0 hk) (pre_v C0 hE hrec) rfl hn hls hst (lv_room hw) hd hc) hE.2.2.1 (fun q _ h => hE.free q h) hE.free
    (fun x u t H1 locs1 ht hvm hp hB hz hq hS => by obtain ⟨rfl, hR⟩ := hp; exact kk H1 locs1 (ew_back hE ht hB hS) hR)
theorem callV_l {ix : Nat} {C : String} {y : MethodName} {b : ByteArray} {nl : Nat} {rt : Option FieldType} {n k nL : Nat} {w w' : va_W} {a : Nat} {As st0 : List Value} {r : Int} {R' : Prop} (C0 : CX p c cc m s args D g own) (hml : c.maxLocals = nL) (hE : EW D A H0 w H locs) (hrec : RC s H C a) (M : CtL l D g y b nl rt k w w' (.ref a :: As) r R') (K : KWV own ix C y b nl rt n)
    (hk : k + 1 ≤ R.frames ∧ 8 + (nl + 11) + 40 * k ≤ R.locals) (hn : As.length = n) (hls : ls.size = nL) (hst : st0 = As.reverse ++ .ref a :: rest) (hw : (rest.map fun v => v.category).sum ≤ 8) (hd : decode cc pc = .ok (.invokevirtual ix, 3)) (hc : cells ≤ R.cells ∧ slots ≤ R.slots)
    (kk : ∀ (H1 : Heap) (locs1 : List Loc), EW D A H0 w' H1 locs1 → R' → W p l e R s m args below meth c H1 locs1 cells slots Q (F0 m (pc + 3) ls (.long (J r) :: rest))) : W p l e R s m args below meth c H locs cells slots Q (F0 m pc ls st0) :=
  va_calll (va_runV ⟨C0.1, C0.2.1, hml, C0.2.2.1, C0.2.2.2.1⟩ (M H.size) (kwv K C0 hk) (pre_v C0 hE hrec) rfl hn hls hst (lv_room hw) hd hc) hE.2.2.1 (fun q _ h => hE.free q h) hE.free
    (fun x u t H1 locs1 ht hvm hp hB hz hq hS => by obtain ⟨rfl, hR⟩ := hp; exact kk H1 locs1 (ew_back hE ht hB hS) hR)
theorem callV_v {ix : Nat} {C : String} {y : MethodName} {b : ByteArray} {nl : Nat} {rt : Option FieldType} {n k nL : Nat} {w w' : va_W} {a : Nat} {As st0 : List Value} {R' : Prop} (C0 : CX p c cc m s args D g own) (hml : c.maxLocals = nL) (hE : EW D A H0 w H locs) (hrec : RC s H C a) (M : CtV l D g y b nl rt k w w' (.ref a :: As) R') (K : KWV own ix C y b nl rt n)
    (hk : k + 1 ≤ R.frames ∧ 8 + (nl + 11) + 40 * k ≤ R.locals) (hn : As.length = n) (hls : ls.size = nL) (hst : st0 = As.reverse ++ .ref a :: rest) (hw : (rest.map fun v => v.category).sum ≤ 8) (hd : decode cc pc = .ok (.invokevirtual ix, 3)) (hc : cells ≤ R.cells ∧ slots ≤ R.slots)
    (kk : ∀ (H1 : Heap) (locs1 : List Loc), EW D A H0 w' H1 locs1 → R' → W p l e R s m args below meth c H1 locs1 cells slots Q (F0 m (pc + 3) ls rest)) : W p l e R s m args below meth c H locs cells slots Q (F0 m pc ls st0) :=
  va_callv (va_runV ⟨C0.1, C0.2.1, hml, C0.2.2.1, C0.2.2.2.1⟩ (M H.size) (kwv K C0 hk) (pre_v C0 hE hrec) rfl hn hls hst (lv_room hw) hd hc) hE.2.2.1 (fun q _ h => hE.free q h) hE.free
    (fun u t H1 locs1 ht hvm hp hB hz hq hS => kk H1 locs1 (ew_back hE ht hB hS) hp)
theorem callS_i {ix : Nat} {y : MethodName} {b : ByteArray} {nl : Nat} {rt : Option FieldType} {n k nL : Nat} {w w' : va_W} {As st0 : List Value} {r : Int} {R' : Prop} (C0 : CX p c cc m s args D g own) (hml : c.maxLocals = nL) (hE : EW D A H0 w H locs) (M : CtI l D g y b nl rt k w w' As r R') (K : KWS own ix y b nl rt n)
    (hk : k + 1 ≤ R.frames ∧ 8 + (nl + 11) + 40 * k ≤ R.locals) (hn : As.length = n) (hls : ls.size = nL) (hst : st0 = As.reverse ++ rest) (hw : (rest.map fun v => v.category).sum ≤ 8) (hd : decode cc pc = .ok (.invokestatic ix, 3)) (hc : cells ≤ R.cells ∧ slots ≤ R.slots)
    (kk : ∀ (H1 : Heap) (locs1 : List Loc), EW D A H0 w' H1 locs1 → R' → W p l e R s m args below meth c H1 locs1 cells slots Q (F0 m (pc + 3) ls (.int (I r) :: rest))) : W p l e R s m args below meth c H locs cells slots Q (F0 m pc ls st0) :=
  va_calli (va_runS ⟨C0.1, C0.2.1, hml, C0.2.2.1, C0.2.2.2.1⟩ (M H.size) (kws K C0 hk) (pre_s C0 hE) rfl hn hls hst (lv_room hw) hd hc) hE.2.2.1 (fun q _ h => hE.free q h) hE.free
    (fun x u t H1 locs1 ht hvm hp hB hz hq hS => by obtain ⟨rfl, hR⟩ := hp; exact kk H1 locs1 (ew_back hE ht hB hS) hR)
theorem callS_v {ix : Nat} {y : MethodName} {b : ByteArray} {nl : Nat} {rt : Option FieldType} {n k nL : Nat} {w w' : va_W} {As st0 : List Value} {R' : Prop} (C0 : CX p c cc m s args D g own) (hml : c.maxLocals = nL) (hE : EW D A H0 w H locs) (M : CtV l D g y b nl rt k w w' As R') (K : KWS own ix y b nl rt n)
    (hk : k + 1 ≤ R.frames ∧ 8 + (nl + 11) + 40 * k ≤ R.locals) (hn : As.length = n) (hls : ls.size = nL) (hst : st0 = As.reverse ++ rest) (hw : (rest.map fun v => v.category).sum ≤ 8) (hd : decode cc pc = .ok (.invokestatic ix, 3)) (hc : cells ≤ R.cells ∧ slots ≤ R.slots)
    (kk : ∀ (H1 : Heap) (locs1 : List Loc), EW D A H0 w' H1 locs1 → R' → W p l e R s m args below meth c H1 locs1 cells slots Q (F0 m (pc + 3) ls rest)) : W p l e R s m args below meth c H locs cells slots Q (F0 m pc ls st0) :=
  va_callv (va_runS ⟨C0.1, C0.2.1, hml, C0.2.2.1, C0.2.2.2.1⟩ (M H.size) (kws K C0 hk) (pre_s C0 hE) rfl hn hls hst (lv_room hw) hd hc) hE.2.2.1 (fun q _ h => hE.free q h) hE.free
    (fun u t H1 locs1 ht hvm hp hB hz hq hS => kk H1 locs1 (ew_back hE ht hB hS) hp)
theorem callSN_v {ix : Nat} {host : String} {y : MethodName} {b : ByteArray} {nl : Nat} {rt : Option FieldType} {n k nL : Nat} {w w' : va_W} {As st0 : List Value} {R' : Prop} (C0 : CX p c cc m s args D g own) (hml : c.maxLocals = nL) (hE : EW D A H0 w H locs) (M : CtV l D g y b nl rt k w w' As R') (K : KWSN own ix host y b nl rt n)
    (hk : k + 1 ≤ R.frames ∧ 8 + (nl + 11) + 40 * k ≤ R.locals) (hn : As.length = n) (hls : ls.size = nL) (hst : st0 = As.reverse ++ rest) (hw : (rest.map fun v => v.category).sum ≤ 8) (hd : decode cc pc = .ok (.invokestatic ix, 3)) (hc : cells ≤ R.cells ∧ slots ≤ R.slots)
    (kk : ∀ (H1 : Heap) (locs1 : List Loc), EW D A H0 w' H1 locs1 → R' → W p l e R s m args below meth c H1 locs1 cells slots Q (F0 m (pc + 3) ls rest)) : W p l e R s m args below meth c H locs cells slots Q (F0 m pc ls st0) :=
  va_callv (va_runSN ⟨C0.1, C0.2.1, hml, C0.2.2.1, C0.2.2.2.1⟩ (M H.size) ⟨va_cnB n C0.2.2.2.1 (WT_cons K.2.2.2.1) rfl rfl rfl (C0.2.2.2.2.2 _ K.1) (C0.2.2.2.1 _ K.2.2.1) K.2.2.2.2 hk, C0.2.2.2.1 _ K.2.1, trivial⟩ (pre_s C0 hE) rfl hn hls hst (lv_room hw) hd hc) hE.2.2.1 (fun q _ h => hE.free q h) hE.free
    (fun u t H1 locs1 ht hvm hp hB hz hq hS => kk H1 locs1 (ew_back hE ht hB hS) hp)
theorem x_max {ix : Nat} {a b v : Int} (C0 : CX p c cc m s args D g own) (K : KWS own ix Lib.Math.max.name Lib.Math.max.code 2 (some .int) 2) (hml : c.maxLocals = ls.size) (ha : in32 a) (hb : in32 b) (e9 : v = imax a b) (hk : 1 ≤ R.frames ∧ (rest.map fun v => v.category).sum + 13 ≤ R.locals) (hc : cells ≤ R.cells ∧ slots ≤ R.slots) (hd : decode cc pc = .ok (.invokestatic ix, 3))
    (kk : W p l e R s m args below meth c H locs cells slots Q (F0 m (pc + 3) ls (.int (I v) :: rest))) : W p l e R s m args below meth c H locs cells slots Q (F0 m pc ls (.int (I b) :: .int (I a) :: rest)) :=
  va_mmax C0.1 C0.2.1 hml C0.2.2.1 (C0.2.2.2.1 _ K.1) (C0.2.2.2.1 _ K.2.1) (C0.2.2.2.1 _ K.2.2.1) (C0.2.2.2.1 _ K.2.2.2.1) hk.1 hk.2 hc.1 hc.2 hd (by
    rw [show (if I a < I b then I b else I a) = I v by
      rw [e9]; unfold imax
      by_cases h : a < b
      · rw [if_pos h, if_pos ((I_lt ha hb).mpr h)]
      · rw [if_neg h, if_neg (fun z => h ((I_lt ha hb).mp z))]]
    exact kk)
theorem x_min {ix : Nat} {a b v : Int} (C0 : CX p c cc m s args D g own) (K : KWS own ix Lib.Math.min.name Lib.Math.min.code 2 (some .int) 2) (hml : c.maxLocals = ls.size) (ha : in32 a) (hb : in32 b) (e9 : v = imin a b) (hk : 1 ≤ R.frames ∧ (rest.map fun v => v.category).sum + 13 ≤ R.locals) (hc : cells ≤ R.cells ∧ slots ≤ R.slots) (hd : decode cc pc = .ok (.invokestatic ix, 3))
    (kk : W p l e R s m args below meth c H locs cells slots Q (F0 m (pc + 3) ls (.int (I v) :: rest))) : W p l e R s m args below meth c H locs cells slots Q (F0 m pc ls (.int (I b) :: .int (I a) :: rest)) :=
  va_mmin C0.1 C0.2.1 hml C0.2.2.1 (C0.2.2.2.1 _ K.1) (C0.2.2.2.1 _ K.2.1) (C0.2.2.2.1 _ K.2.2.1) (C0.2.2.2.1 _ K.2.2.2.1) hk.1 hk.2 hc.1 hc.2 hd (by
    rw [show (if I b < I a then I b else I a) = I v by
      rw [e9]; unfold imin
      by_cases h : b < a
      · rw [if_pos h, if_pos ((I_lt hb ha).mpr h)]
      · rw [if_neg h, if_neg (fun z => h ((I_lt hb ha).mp z))]]
    exact kk)
theorem x_abs {ix : Nat} {a v : Int} (C0 : CX p c cc m s args D g own) (K : KWS own ix Lib.Math.abs.name Lib.Math.abs.code 1 (some .int) 1) (hml : c.maxLocals = ls.size) (ha : in32 a) (e9 : v = iabs a) (hk : 1 ≤ R.frames ∧ (rest.map fun v => v.category).sum + 13 ≤ R.locals) (hc : cells ≤ R.cells ∧ slots ≤ R.slots) (hd : decode cc pc = .ok (.invokestatic ix, 3))
    (kk : W p l e R s m args below meth c H locs cells slots Q (F0 m (pc + 3) ls (.int (I v) :: rest))) : W p l e R s m args below meth c H locs cells slots Q (F0 m pc ls (.int (I a) :: rest)) :=
  va_mabs C0.1 C0.2.1 hml C0.2.2.1 (C0.2.2.2.1 _ K.1) (C0.2.2.2.1 _ K.2.1) (C0.2.2.2.1 _ K.2.2.1) (C0.2.2.2.1 _ K.2.2.2.1) hk.1 hk.2 hc.1 hc.2 hd (by
    rw [show (if 0 ≤ I a then I a else 0 - I a) = I v by
      rw [e9]; unfold iabs
      by_cases h : a < 0
      · rw [if_pos h, if_neg (fun z => by have := (I_le (a := 0) (by decide) ha).mp z; omega), show -a = 0 - a by omega]; exact (Int32.ofInt_sub 0 a).symm
      · rw [if_neg h, if_pos (show (0 : Int32) ≤ I a from (I_le (a := 0) (by decide) ha).mpr (by omega))]]
    exact kk)
theorem ret_i {wf : St → va_W} {σ σr : St} {v r : Int} (C0 : CX p c cc m s args D g own) (hr : meth.sig.returnType = some .int) (hlk : meth.locks = false) (hE : EW D A s.heap (wf σ) H locs) (h : some (v, σ) = some (r, σr)) (iv : in32 v) (hR : R32 σ) (hd : decode cc pc = .ok (.ireturn, 1)) :
    W p l e R s m args below meth c H locs 0 0 (MQ below (QCi D (wf σr) r (in32 r ∧ R32 σr) A) args s 0 0 A) (F0 m pc ls [.int (I v)]) := by
  cases h
  exact W.iret (v := I v) C0.1 C0.2.1 hr (fun t ht hW => ⟨⟨I v, (), rfl, ⟨rfl, iv, hR⟩, by rw [ht]; exact hE.1, hE.2.1⟩, hE.2.2.1.F ht⟩) hE.2.2.1.2.2 hd hlk
theorem ret_z {wf : St → va_W} {σ σr : St} {v r : Int} (C0 : CX p c cc m s args D g own) (hr : meth.sig.returnType = some .boolean) (hlk : meth.locks = false) (hE : EW D A s.heap (wf σ) H locs) (hv : v = 0 ∨ v = 1) (h : some (v, σ) = some (r, σr)) (hR : R32 σ) (hd : decode cc pc = .ok (.ireturn, 1)) :
    W p l e R s m args below meth c H locs 0 0 (MQ below (QCi D (wf σr) r (in32 r ∧ R32 σr) A) args s 0 0 A) (F0 m pc ls [.int (I v)]) := by
  cases h
  exact W.zret (v := I v) C0.1 C0.2.1 hr (by rcases hv with rfl | rfl <;> decide) (fun t ht hW => ⟨⟨I v, (), rfl, ⟨rfl, by rcases hv with rfl | rfl <;> decide, hR⟩, by rw [ht]; exact hE.1, hE.2.1⟩, hE.2.2.1.F ht⟩) hE.2.2.1.2.2 hd hlk
theorem ret_l {wf : St → va_W} {σ σr : St} {v r : Int} (C0 : CX p c cc m s args D g own) (hr : meth.sig.returnType = some .long) (hlk : meth.locks = false) (hE : EW D A s.heap (wf σ) H locs) (h : some (v, σ) = some (r, σr)) (iv : in64 v) (hR : R32 σ) (hd : decode cc pc = .ok (.lreturn, 1)) :
    W p l e R s m args below meth c H locs 0 0 (MQ below (QCl D (wf σr) r (in64 r ∧ R32 σr) A) args s 0 0 A) (F0 m pc ls [.long (J v)]) := by
  cases h
  exact W.lret (v := J v) C0.1 C0.2.1 hr (fun t ht hW => ⟨⟨J v, (), rfl, ⟨rfl, iv, hR⟩, by rw [ht]; exact hE.1, hE.2.1⟩, hE.2.2.1.F ht⟩) hE.2.2.1.2.2 hd hlk
theorem ret_v {wf : St → va_W} {σ σr : St} {v r : Int} (C0 : CX p c cc m s args D g own) (hr : meth.sig.returnType = none) (hlk : meth.locks = false) (hE : EW D A s.heap (wf σ) H locs) (h : some (v, σ) = some (r, σr)) (hR : R32 σ) (hd : decode cc pc = .ok (.return_, 1)) :
    W p l e R s m args below meth c H locs 0 0 (MQ below (QCv D (wf σr) (R32 σr) A) args s 0 0 A) (F0 m pc ls []) := by
  cases h
  exact W.vret C0.1 C0.2.1 hr (fun t ht hW => ⟨⟨(), rfl, hR, by rw [ht]; exact hE.1, hE.2.1⟩, hE.2.2.1.F ht⟩) hE.2.2.1.2.2 hd hlk
-- array cells
theorem arr_upd {σ : St} {F : Nat} {i v : Int} (h0 : 0 ≤ i) (hi : in32 i) : upd (fun j : Nat => I (σ F (j : Int))) (I i).toNatClampNeg (I v) = fun j : Nat => I (us σ F i v F (j : Int)) := by
  funext j
  rw [I_clamp h0 hi]
  unfold upd us
  by_cases h : j = i.toNat
  · have : (j : Int) = i := by omega
    simp [h, Int.toNat_of_nonneg h0]
  · have : ¬ (j : Int) = i := by omega
    simp [h, this]
theorem arr_updL {σ : St} {F : Nat} {i v : Int} (h0 : 0 ≤ i) (hi : in32 i) : vp_updL (fun j : Nat => J (σ F (j : Int))) (I i).toNatClampNeg (J v) = fun j : Nat => J (us σ F i v F (j : Int)) := by
  funext j
  rw [I_clamp h0 hi]
  unfold vp_updL us
  by_cases h : j = i.toNat
  · have : (j : Int) = i := by omega
    simp [h, Int.toNat_of_nonneg h0]
  · have : ¬ (j : Int) = i := by omega
    simp [h, this]
theorem x_iald {w : va_W} {q0 N : Nat} {n : Int} {ad : Nat} {σ : St} {F : Nat} {i v : Int} (C0 : CX p c cc m s args D g own) (hE : EW D A H0 w H locs) (hw : w[q0]? = some (ad, .inl (g.1 0, N, .inl (fun j : Nat => I (σ F (j : Int)))))) (hn : n = (N : Int)) (hi : in32 i) (e9 : v = σ F i ∧ 0 ≤ i ∧ i < n) (hd : decode cc pc = .ok (.iaload, 1))
    (kk : W p l e R s m args below meth c H locs cells slots Q (F0 m (pc + 1) ls (.int (I v) :: rest))) : W p l e R s m args below meth c H locs cells slots Q (F0 m pc ls (.int (I i) :: .ref ad :: rest)) := by
  obtain ⟨rfl, h0, h1⟩ := e9
  refine va_iald C0.1 C0.2.1 C0.2.2.2.2.1 hE.1 q0 0 hw rfl (I_in h0 h1 hi hn) hd ?_
  rw [I_clamp h0 hi]
  simp only [Int.toNat_of_nonneg h0]
  exact kk
theorem x_lald {w : va_W} {q0 N : Nat} {n : Int} {ad : Nat} {σ : St} {F : Nat} {i v : Int} (C0 : CX p c cc m s args D g own) (hE : EW D A H0 w H locs) (hw : w[q0]? = some (ad, .inl (g.1 1, N, .inr (.inl (fun j : Nat => J (σ F (j : Int))))))) (hn : n = (N : Int)) (hi : in32 i) (e9 : v = σ F i ∧ 0 ≤ i ∧ i < n) (hd : decode cc pc = .ok (.laload, 1))
    (kk : W p l e R s m args below meth c H locs cells slots Q (F0 m (pc + 1) ls (.long (J v) :: rest))) : W p l e R s m args below meth c H locs cells slots Q (F0 m pc ls (.int (I i) :: .ref ad :: rest)) := by
  obtain ⟨rfl, h0, h1⟩ := e9
  refine va_lald C0.1 C0.2.1 C0.2.2.2.2.1 hE.1 q0 1 hw rfl (I_in h0 h1 hi hn) hd ?_
  rw [I_clamp h0 hi]
  simp only [Int.toNat_of_nonneg h0]
  exact kk
theorem x_iast {w w' : va_W} {q0 N : Nat} {n : Int} {ad : Nat} {σ : St} {F : Nat} {i v : Int} (C0 : CX p c cc m s args D g own) (hE : EW D A H0 w H locs) (hw : w[q0]? = some (ad, .inl (g.1 0, N, .inl (fun j : Nat => I (σ F (j : Int)))))) (hn : n = (N : Int)) (hi : in32 i) (h01 : 0 ≤ i ∧ i < n) (hw' : w.set q0 (ad, .inl (g.1 0, N, .inl (fun j : Nat => I (us σ F i v F (j : Int))))) = w') (hd : decode cc pc = .ok (.iastore, 1))
    (kk : ∀ (H1 : Heap) (locs1 : List Loc), EW D A H0 w' H1 locs1 → W p l e R s m args below meth c H1 locs1 cells slots Q (F0 m (pc + 1) ls rest)) : W p l e R s m args below meth c H locs cells slots Q (F0 m pc ls (.int (I v) :: .int (I i) :: .ref ad :: rest)) := by
  refine va_iast C0.1 C0.2.1 C0.2.2.2.2.1 hE.1 hE.2.1 hE.2.2.1 q0 0 hw rfl (I_in h01.1 h01.2 hi hn) hd (fun H1 locs1 hP hD hS => ?_)
  rw [arr_upd h01.1 hi, hw'] at hP hD
  exact kk H1 locs1 ⟨hP, hD, hS, hE.2.2.2⟩
theorem x_last {w w' : va_W} {q0 N : Nat} {n : Int} {ad : Nat} {σ : St} {F : Nat} {i v : Int} (C0 : CX p c cc m s args D g own) (hE : EW D A H0 w H locs) (hw : w[q0]? = some (ad, .inl (g.1 1, N, .inr (.inl (fun j : Nat => J (σ F (j : Int))))))) (hn : n = (N : Int)) (hi : in32 i) (h01 : 0 ≤ i ∧ i < n) (hw' : w.set q0 (ad, .inl (g.1 1, N, .inr (.inl (fun j : Nat => J (us σ F i v F (j : Int)))))) = w') (hd : decode cc pc = .ok (.lastore, 1))
    (kk : ∀ (H1 : Heap) (locs1 : List Loc), EW D A H0 w' H1 locs1 → W p l e R s m args below meth c H1 locs1 cells slots Q (F0 m (pc + 1) ls rest)) : W p l e R s m args below meth c H locs cells slots Q (F0 m pc ls (.long (J v) :: .int (I i) :: .ref ad :: rest)) := by
  refine va_last C0.1 C0.2.1 C0.2.2.2.2.1 hE.1 hE.2.1 hE.2.2.1 q0 1 hw rfl (I_in h01.1 h01.2 hi hn) hd (fun H1 locs1 hP hD hS => ?_)
  rw [arr_updL h01.1 hi, hw'] at hP hD
  exact kk H1 locs1 ⟨hP, hD, hS, hE.2.2.2⟩
theorem x_alen {w : va_W} {q0 t0 N : Nat} {n : Int} {ad : Nat} {cA : ClassId} {x : (Nat → Int32) ⊕ (Nat → Int64) ⊕ (Nat → UInt32) ⊕ (Nat → UInt64) ⊕ (Nat → Option Nat)} {ty : FieldType} (C0 : CX p c cc m s args D g own) (hE : EW D A H0 w H locs) (hw : w[q0]? = some (ad, .inl (cA, N, x))) (ht : (tyA g)[t0]? = some (cA, ty)) (hn : Int32.ofNat N = I n) (hd : decode cc pc = .ok (.arraylength, 1))
    (kk : W p l e R s m args below meth c H locs cells slots Q (F0 m (pc + 1) ls (.int (I n) :: rest))) : W p l e R s m args below meth c H locs cells slots Q (F0 m pc ls (.ref ad :: rest)) :=
  va_alen C0.1 C0.2.1 C0.2.2.2.2.1 hE.1 q0 t0 hw ht hn hd kk
theorem x_iinc (C0 : CX p c cc m s args D g own) {i nL k : Nat} {n x v : Int} {lv lv' : List (Nat × Value)} (hd : decode cc pc = .ok (.iinc i n, 3)) (h : lv_has ls nL lv) (hk : lv[k]? = some (i, .int (I x))) (e9 : v = x + n) (hn : i < nL) (hl : (i, Value.int (I v)) :: lv.filter (fun q => !(q.1 == i) && !(q.1 + 1 == i && q.2.category == 2)) = lv')
    (kk : ∀ ls' : Array Slot, lv_has ls' nL lv' → W p l e R s m args below meth c H locs cells slots Q (F0 m (pc + 3) ls' rest)) : W p l e R s m args below meth c H locs cells slots Q (F0 m pc ls rest) :=
  lv_iinc (v := I v) C0.1 C0.2.1 hd h hk (by rw [e9]; exact (Int32.ofInt_add _ _).symm) hn hl kk
theorem x_get {w : va_W} {q0 ci kf N ix ad : Nat} {ref C : String} {T : u_T} {fs : List Value} {v : Value} (C0 : CX p c cc m s args D g own) (hE : EW D A H0 w H locs) (hin : ∀ w ∈ u_ws C T N, w ∈ WT) (he : w[q0]? = some (ad, .inr (ci, fs))) (hc : vwCl[ci]? = some (C, T, N)) (hk : kf < N) (hl : Cond.fieldLink own ix ref (T kf).2.1 (T kf).2.2.1 ∈ WT) (hs : (T kf).1 = ref) (hv : fs[kf]? = some v) (hd : decode cc pc = .ok (.getfield ix, 3))
    (kk : W p l e R s m args below meth c H locs cells slots Q (F0 m (pc + 3) ls (v :: rest))) : W p l e R s m args below meth c H locs cells slots Q (F0 m pc ls (.ref ad :: rest)) :=
  va_get C0.1 C0.2.1 C0.2.2.2.1 hin C0.2.2.1 C0.2.2.2.2.1 hE.1 q0 he hc kf hk (C0.2.2.2.1 _ hl) (fun _ h9 => by rw [hs] at h9; exact h9) hv hd kk
theorem x_getN {w : va_W} {q0 ci kf N ix ad : Nat} {ref C host : String} {T : u_T} {fs : List Value} {v : Value} (C0 : CX p c cc m s args D g own) (hE : EW D A H0 w H locs) (hin : ∀ w ∈ u_ws C T N, w ∈ WT) (he : w[q0]? = some (ad, .inr (ci, fs))) (hc : vwCl[ci]? = some (C, T, N)) (hk : kf < N) (hl : Cond.fieldLinkNest own ix ref (T kf).2.1 (T kf).2.2.1 host ∈ NW) (hs : (T kf).1 = ref) (hv : fs[kf]? = some v) (hd : decode cc pc = .ok (.getfield ix, 3))
    (kk : W p l e R s m args below meth c H locs cells slots Q (F0 m (pc + 3) ls (v :: rest))) : W p l e R s m args below meth c H locs cells slots Q (F0 m pc ls (.ref ad :: rest)) :=
  va_getN C0.1 C0.2.1 C0.2.2.2.1 hin C0.2.2.1 C0.2.2.2.2.1 hE.1 q0 he hc kf hk (va_Nw.use rfl (C0.2.2.2.2.2 _ hl)) (fun _ h9 => by rw [hs] at h9; exact h9) hv hd kk
theorem x_put {w w' : va_W} {q0 ci kf N ix ad : Nat} {ref C : String} {T : u_T} {fs : List Value} {v : Value} {ty : FieldType} (C0 : CX p c cc m s args D g own) (hE : EW D A H0 w H locs) (hin : ∀ w ∈ u_ws C T N, w ∈ WT) (ty0 : Nat → FieldType) (hty : ∀ k, k < N → parseFieldDescriptor (T k).2.2.1 = some (ty0 k)) (hnm : ∀ a, a < N → ∀ b, b < N → a ≠ b → (T a).2.1 ≠ (T b).2.1)
    (he : w[q0]? = some (ad, .inr (ci, fs))) (hc : vwCl[ci]? = some (C, T, N)) (hk : kf < N) (hl : Cond.fieldLink own ix ref (T kf).2.1 (T kf).2.2.1 ∈ WT) (hs : (T kf).1 = ref) (hf : (T kf).2.2.2 = false) (hpd : parseFieldDescriptor (T kf).2.2.1 = some ty) (hna : narrow ty v = v) (hfi : fits ty v = true) (hlen : kf < fs.length) (hw' : w.set q0 (ad, .inr (ci, fs.set kf v)) = w') (hd : decode cc pc = .ok (.putfield ix, 3))
    (kk : ∀ (H1 : Heap) (locs1 : List Loc), EW D A H0 w' H1 locs1 → W p l e R s m args below meth c H1 locs1 cells slots Q (F0 m (pc + 3) ls rest)) : W p l e R s m args below meth c H locs cells slots Q (F0 m pc ls (v :: .ref ad :: rest)) :=
  va_put C0.1 C0.2.1 C0.2.2.2.1 hin ty0 hty hnm C0.2.2.1 C0.2.2.2.2.1 hE.1 hE.2.1 hE.2.2.1 q0 he hc kf hk (C0.2.2.2.1 _ hl) (fun _ h9 => by rw [hs] at h9; exact h9) hf hpd hna hfi hlen hd (fun H1 locs1 hP hD hS => by
    rw [hw'] at hP hD
    exact kk H1 locs1 ⟨hP, hD, hS, hE.2.2.2⟩)
theorem rec_of {w : va_W} {q0 ci ad : Nat} {q : vw_C} {fs : List Value} (C0 : CX p c cc m s args D g own) (hE : EW D A H0 w H locs) (hc : vwCl[ci]? = some q) (he : w[q0]? = some (ad, .inr (ci, fs))) : RC s H q.1 ad := va_recv C0.2.2.2.2.1 hE.1 hc he
theorem pret_i {w : va_W} {v r : Int} (C0 : CX p c cc m s args D g own) (hr : meth.sig.returnType = some .int) (hlk : meth.locks = false) (hE : EW D A s.heap w H locs) (h : some v = some r) (iv : in32 v) (hd : decode cc pc = .ok (.ireturn, 1)) :
    W p l e R s m args below meth c H locs 0 0 (MQ below (QCi D w r (in32 r) A) args s 0 0 A) (F0 m pc ls [.int (I v)]) := by
  cases h
  exact W.iret (v := I v) C0.1 C0.2.1 hr (fun t ht hW => ⟨⟨I v, (), rfl, ⟨rfl, iv⟩, by rw [ht]; exact hE.1, hE.2.1⟩, hE.2.2.1.F ht⟩) hE.2.2.1.2.2 hd hlk
theorem pret_z {w : va_W} {v r : Int} (C0 : CX p c cc m s args D g own) (hr : meth.sig.returnType = some .boolean) (hlk : meth.locks = false) (hE : EW D A s.heap w H locs) (hv : v = 0 ∨ v = 1) (h : some v = some r) (hd : decode cc pc = .ok (.ireturn, 1)) :
    W p l e R s m args below meth c H locs 0 0 (MQ below (QCi D w r (in32 r) A) args s 0 0 A) (F0 m pc ls [.int (I v)]) := by
  cases h
  exact W.zret (v := I v) C0.1 C0.2.1 hr (by rcases hv with rfl | rfl <;> decide) (fun t ht hW => ⟨⟨I v, (), rfl, ⟨rfl, by rcases hv with rfl | rfl <;> decide⟩, by rw [ht]; exact hE.1, hE.2.1⟩, hE.2.2.1.F ht⟩) hE.2.2.1.2.2 hd hlk
theorem pret_l {w : va_W} {v r : Int} (C0 : CX p c cc m s args D g own) (hr : meth.sig.returnType = some .long) (hlk : meth.locks = false) (hE : EW D A s.heap w H locs) (h : some v = some r) (iv : in64 v) (hd : decode cc pc = .ok (.lreturn, 1)) :
    W p l e R s m args below meth c H locs 0 0 (MQ below (QCl D w r (in64 r) A) args s 0 0 A) (F0 m pc ls [.long (J v)]) := by
  cases h
  exact W.lret (v := J v) C0.1 C0.2.1 hr (fun t ht hW => ⟨⟨J v, (), rfl, ⟨rfl, iv⟩, by rw [ht]; exact hE.1, hE.2.1⟩, hE.2.2.1.F ht⟩) hE.2.2.1.2.2 hd hlk
end RL
section SW
variable {p : Program} {l : Launch} {e : Env} {R : Room} {s : State} {m : MethodId} {args : Array Value} {below : List Frame} {meth : Method} {c : Code} {H : Heap} {locs : List Loc} {cells slots : Nat} {Q : State → Prop}
variable {cc : ByteArray} {pc : Nat} {ls : Array Slot} {rest : List Value} {D : va_G} {g : Ad} {own : String} {A : Nat → Prop} {H0 : Heap}
theorem x_tabIn (C0 : CX p c cc m s args D g own) {dflt lo hi a : Int} {offs : Array Int} {len : Nat} {off : Int} {tgt : Nat} (v : Int) (ia : in32 a) (hd : decode cc pc = .ok (.tableswitch dflt lo hi offs, len)) (e9 : a = v) (h1 : ¬ v < lo ∧ ¬ hi < v ∧ offs[(v - lo).toNat]? = some off) (ht : (pc : Int) + off = (tgt : Int))
    (k : W p l e R s m args below meth c H locs cells slots Q (F0 m tgt ls rest)) : W p l e R s m args below meth c H locs cells slots Q (F0 m pc ls (.int (I a) :: rest)) := by
  subst e9
  exact lv_tableIn C0.1 C0.2.1 hd (by rw [I_toInt ia]; exact h1.1) (by rw [I_toInt ia]; exact h1.2.1) (by rw [I_toInt ia]; exact h1.2.2) ht k
theorem x_tabOut (C0 : CX p c cc m s args D g own) {dflt lo hi a : Int} {offs : Array Int} {len : Nat} {tgt : Nat} (ia : in32 a) (hd : decode cc pc = .ok (.tableswitch dflt lo hi offs, len)) (h1 : a < lo ∨ hi < a) (ht : (pc : Int) + dflt = (tgt : Int))
    (k : W p l e R s m args below meth c H locs cells slots Q (F0 m tgt ls rest)) : W p l e R s m args below meth c H locs cells slots Q (F0 m pc ls (.int (I a) :: rest)) :=
  lv_tableOut C0.1 C0.2.1 hd (by rw [I_toInt ia]; exact h1) ht k
theorem x_look (C0 : CX p c cc m s args D g own) {dflt a : Int} {ps : Array (Int × Int)} {len : Nat} {off : Int} {tgt : Nat} (ia : in32 a) (hd : decode cc pc = .ok (.lookupswitch dflt ps, len)) (hp : (ps.toList.zip (ps.toList.drop 1)).all (fun (a, next) => a.1 < next.1) = true) (ho : Op.lookupswitch.offset ps.toList dflt a = off) (ht : (pc : Int) + off = (tgt : Int))
    (k : W p l e R s m args below meth c H locs cells slots Q (F0 m tgt ls rest)) : W p l e R s m args below meth c H locs cells slots Q (F0 m pc ls (.int (I a) :: rest)) :=
  lv_lookup C0.1 C0.2.1 hd hp (by rw [I_toInt ia]; exact ho) ht k
end SW
