-- WORDS
def NW : List Cond := [Cond.methodLinkNest RX7 9 yX0_init "EvenTrees", Cond.fieldLinkNest RX7 130 "EvenTrees$Pool" "made" "I" "EvenTrees", Cond.methodLinkNest RX7 18 yX2_init "EvenTrees", Cond.fieldLinkNest RX7 314 "EvenTrees$Row" "numbers" "[J" "EvenTrees", Cond.fieldLinkNest RX7 303 "EvenTrees$Row" "many" "I" "EvenTrees", Cond.methodLinkNest RX7 25 yX1_init "EvenTrees", Cond.methodLinkNest RX1 11 yX4_init "EvenTrees", Cond.fieldLinkNest RX1 60 "EvenTrees$Text" "many" "I" "EvenTrees", Cond.fieldLinkNest RX7 306 "EvenTrees$Text" "many" "I" "EvenTrees", Cond.fieldLinkNest RX7 30 "EvenTrees$Reader" "text" "LEvenTrees$Text;" "EvenTrees", Cond.fieldLinkNest RX7 101 "EvenTrees$Reader" "starts" "[I" "EvenTrees", Cond.fieldLinkNest RX7 104 "EvenTrees$Reader" "leftSizes" "[I" "EvenTrees", Cond.fieldLinkNest RX7 107 "EvenTrees$Reader" "rightSizes" "[I" "EvenTrees", Cond.fieldLinkNest RX7 82 "EvenTrees$Reader" "at" "I" "EvenTrees", Cond.methodLinkNest RX7 37 yX6_init "EvenTrees", Cond.fieldLinkNest RX7 271 "EvenTrees$Writer" "found" "I" "EvenTrees", Cond.fieldLinkNest RX7 268 "EvenTrees$Writer" "signs" "I" "EvenTrees", Cond.methodLinkNest RX7 44 yX5_init "EvenTrees", Cond.fieldLinkNest RX7 259 "EvenTrees$Ways" "total" "I" "EvenTrees", Cond.methodLinkNest RX7 264 yX6_writeTree "EvenTrees"]
def WT : List Cond := lw_tbl.filter goodWord
def KWV (own : String) (ix : Nat) (C : String) (y : MethodName) (b : ByteArray) (nl : Nat) (rt : Option FieldType) (n : Nat) : Prop :=
  Cond.methodLink own ix y ∈ WT ∧ Cond.instanceMethod y ∈ WT ∧ Cond.selects C y y ∈ WT ∧ Cond.initialized C ∈ WT ∧ Cond.code y b nl rt ∈ WT ∧ (y.cls = C ∧ y.cls ≠ "java/lang/invoke/MethodHandle" ∧ y.cls ≠ "java/lang/invoke/VarHandle" ∧ (parseMethodDescriptor y.desc).map (fun d => d.parameters.length) = some n)
def KWS (own : String) (ix : Nat) (y : MethodName) (b : ByteArray) (nl : Nat) (rt : Option FieldType) (n : Nat) : Prop :=
  Cond.methodLink own ix y ∈ WT ∧ Cond.static y ∈ WT ∧ Cond.initialized y.cls ∈ WT ∧ Cond.code y b nl rt ∈ WT ∧ (y.cls ≠ "java/lang/invoke/MethodHandle" ∧ y.cls ≠ "java/lang/invoke/VarHandle" ∧ (parseMethodDescriptor y.desc).map (fun d => d.parameters.length) = some n)
def KWSN (own : String) (ix : Nat) (host : String) (y : MethodName) (b : ByteArray) (nl : Nat) (rt : Option FieldType) (n : Nat) : Prop :=
  Cond.methodLinkNest own ix y host ∈ NW ∧ Cond.static y ∈ WT ∧ Cond.initialized y.cls ∈ WT ∧ Cond.code y b nl rt ∈ WT ∧ (y.cls ≠ "java/lang/invoke/MethodHandle" ∧ y.cls ≠ "java/lang/invoke/VarHandle" ∧ (parseMethodDescriptor y.desc).map (fun d => d.parameters.length) = some n)
set_option maxRecDepth 20000 in
theorem wt_of {w : Cond} (h : w ∈ lw_tbl) (g : goodWord w = true) : w ∈ WT := List.mem_filter.mpr ⟨h, g⟩
set_option maxRecDepth 20000 in
theorem wt0 {w : Cond} (i : Nat) (h : (k2_sels lw_privs)[i]? = some w) (g : goodWord w = true) : w ∈ WT := wt_of (List.mem_append_left _ (List.mem_of_getElem? h)) g
set_option maxRecDepth 20000 in
theorem wt1 {w : Cond} (i : Nat) (h : tables_1_1[i]? = some w) (g : goodWord w = true) : w ∈ WT := wt_of (List.mem_append_right _ (List.mem_append_left _ (List.mem_of_getElem? h))) g
set_option maxRecDepth 20000 in
theorem wt2 {w : Cond} (i : Nat) (h : tables_1_2[i]? = some w) (g : goodWord w = true) : w ∈ WT := wt_of (List.mem_append_right _ (List.mem_append_right _ (List.mem_append_left _ (List.mem_of_getElem? h)))) g
set_option maxRecDepth 20000 in
theorem wt3 {w : Cond} (i : Nat) (h : tables_1_3[i]? = some w) (g : goodWord w = true) : w ∈ WT := wt_of (List.mem_append_right _ (List.mem_append_right _ (List.mem_append_right _ (List.mem_append_left _ (List.mem_of_getElem? h))))) g
set_option maxRecDepth 20000 in
theorem wt4 {w : Cond} (i : Nat) (h : tables_1_4[i]? = some w) (g : goodWord w = true) : w ∈ WT := wt_of (List.mem_append_right _ (List.mem_append_right _ (List.mem_append_right _ (List.mem_append_right _ (List.mem_append_left _ (List.mem_of_getElem? h)))))) g
set_option maxRecDepth 20000 in
theorem wt5 {w : Cond} (i : Nat) (h : tables_1_5[i]? = some w) (g : goodWord w = true) : w ∈ WT := wt_of (List.mem_append_right _ (List.mem_append_right _ (List.mem_append_right _ (List.mem_append_right _ (List.mem_append_right _ (List.mem_append_left _ (List.mem_of_getElem? h))))))) g
set_option maxRecDepth 20000 in
theorem wt6 {w : Cond} (i : Nat) (h : tables_1_6[i]? = some w) (g : goodWord w = true) : w ∈ WT := wt_of (List.mem_append_right _ (List.mem_append_right _ (List.mem_append_right _ (List.mem_append_right _ (List.mem_append_right _ (List.mem_append_right _ (List.mem_append_left _ (List.mem_of_getElem? h)))))))) g
set_option maxRecDepth 20000 in
theorem wt7 {w : Cond} (i : Nat) (h : tables_1_7[i]? = some w) (g : goodWord w = true) : w ∈ WT := wt_of (List.mem_append_right _ (List.mem_append_right _ (List.mem_append_right _ (List.mem_append_right _ (List.mem_append_right _ (List.mem_append_right _ (List.mem_append_right _ ((List.mem_of_getElem? h))))))))) g
set_option maxRecDepth 20000 in
theorem inX0 : ∀ w ∈ u_ws RX0 TX0 10, w ∈ WT := List.forall_mem_cons.mpr ⟨(wt1 42 (by rfl) rfl), List.forall_mem_cons.mpr ⟨(wt1 44 (by rfl) rfl), List.forall_mem_cons.mpr ⟨(wt1 46 (by rfl) rfl), List.forall_mem_cons.mpr ⟨(wt1 48 (by rfl) rfl), List.forall_mem_cons.mpr ⟨(wt1 50 (by rfl) rfl), List.forall_mem_cons.mpr ⟨(wt1 52 (by rfl) rfl), List.forall_mem_cons.mpr ⟨(wt1 54 (by rfl) rfl), List.forall_mem_cons.mpr ⟨(wt1 56 (by rfl) rfl), List.forall_mem_cons.mpr ⟨(wt1 58 (by rfl) rfl), List.forall_mem_cons.mpr ⟨(wt1 60 (by rfl) rfl), fun _ h => absurd h List.not_mem_nil⟩⟩⟩⟩⟩⟩⟩⟩⟩⟩
set_option maxRecDepth 20000 in
theorem inX1 : ∀ w ∈ u_ws RX1 TX1 14, w ∈ WT := List.forall_mem_cons.mpr ⟨(wt1 120 (by rfl) rfl), List.forall_mem_cons.mpr ⟨(wt1 122 (by rfl) rfl), List.forall_mem_cons.mpr ⟨(wt1 124 (by rfl) rfl), List.forall_mem_cons.mpr ⟨(wt1 126 (by rfl) rfl), List.forall_mem_cons.mpr ⟨(wt1 128 (by rfl) rfl), List.forall_mem_cons.mpr ⟨(wt1 130 (by rfl) rfl), List.forall_mem_cons.mpr ⟨(wt1 132 (by rfl) rfl), List.forall_mem_cons.mpr ⟨(wt1 134 (by rfl) rfl), List.forall_mem_cons.mpr ⟨(wt1 136 (by rfl) rfl), List.forall_mem_cons.mpr ⟨(wt1 138 (by rfl) rfl), List.forall_mem_cons.mpr ⟨(wt1 140 (by rfl) rfl), List.forall_mem_cons.mpr ⟨(wt1 142 (by rfl) rfl), List.forall_mem_cons.mpr ⟨(wt1 144 (by rfl) rfl), List.forall_mem_cons.mpr ⟨(wt1 146 (by rfl) rfl), fun _ h => absurd h List.not_mem_nil⟩⟩⟩⟩⟩⟩⟩⟩⟩⟩⟩⟩⟩⟩
set_option maxRecDepth 20000 in
theorem inX2 : ∀ w ∈ u_ws RX2 TX2 2, w ∈ WT := List.forall_mem_cons.mpr ⟨(wt1 74 (by rfl) rfl), List.forall_mem_cons.mpr ⟨(wt1 76 (by rfl) rfl), fun _ h => absurd h List.not_mem_nil⟩⟩
set_option maxRecDepth 20000 in
theorem inX4 : ∀ w ∈ u_ws RX4 TX4 2, w ∈ WT := List.forall_mem_cons.mpr ⟨(wt1 96 (by rfl) rfl), List.forall_mem_cons.mpr ⟨(wt1 98 (by rfl) rfl), fun _ h => absurd h List.not_mem_nil⟩⟩
set_option maxRecDepth 20000 in
theorem inX5 : ∀ w ∈ u_ws RX5 TX5 2, w ∈ WT := List.forall_mem_cons.mpr ⟨(wt1 176 (by rfl) rfl), List.forall_mem_cons.mpr ⟨(wt1 178 (by rfl) rfl), fun _ h => absurd h List.not_mem_nil⟩⟩
set_option maxRecDepth 20000 in
theorem inX6 : ∀ w ∈ u_ws RX6 TX6 3, w ∈ WT := List.forall_mem_cons.mpr ⟨(wt1 160 (by rfl) rfl), List.forall_mem_cons.mpr ⟨(wt1 162 (by rfl) rfl), List.forall_mem_cons.mpr ⟨(wt1 164 (by rfl) rfl), fun _ h => absurd h List.not_mem_nil⟩⟩⟩
set_option maxRecDepth 20000 in
theorem inX7 : ∀ w ∈ u_ws RX7 TX7 12, w ∈ WT := List.forall_mem_cons.mpr ⟨(wt1 193 (by rfl) rfl), List.forall_mem_cons.mpr ⟨(wt1 195 (by rfl) rfl), List.forall_mem_cons.mpr ⟨(wt1 197 (by rfl) rfl), List.forall_mem_cons.mpr ⟨(wt1 199 (by rfl) rfl), List.forall_mem_cons.mpr ⟨(wt1 201 (by rfl) rfl), List.forall_mem_cons.mpr ⟨(wt1 203 (by rfl) rfl), List.forall_mem_cons.mpr ⟨(wt1 205 (by rfl) rfl), List.forall_mem_cons.mpr ⟨(wt1 207 (by rfl) rfl), List.forall_mem_cons.mpr ⟨(wt1 209 (by rfl) rfl), List.forall_mem_cons.mpr ⟨(wt1 211 (by rfl) rfl), List.forall_mem_cons.mpr ⟨(wt1 213 (by rfl) rfl), List.forall_mem_cons.mpr ⟨(wt1 215 (by rfl) rfl), fun _ h => absurd h List.not_mem_nil⟩⟩⟩⟩⟩⟩⟩⟩⟩⟩⟩⟩
set_option maxRecDepth 20000 in
theorem inX8 : ∀ w ∈ u_ws RX8 TX8 30, w ∈ WT := List.forall_mem_cons.mpr ⟨(wt4 190 (by rfl) rfl), List.forall_mem_cons.mpr ⟨(wt4 192 (by rfl) rfl), List.forall_mem_cons.mpr ⟨(wt4 194 (by rfl) rfl), List.forall_mem_cons.mpr ⟨(wt4 196 (by rfl) rfl), List.forall_mem_cons.mpr ⟨(wt4 198 (by rfl) rfl), List.forall_mem_cons.mpr ⟨(wt4 200 (by rfl) rfl), List.forall_mem_cons.mpr ⟨(wt4 202 (by rfl) rfl), List.forall_mem_cons.mpr ⟨(wt4 204 (by rfl) rfl), List.forall_mem_cons.mpr ⟨(wt4 206 (by rfl) rfl), List.forall_mem_cons.mpr ⟨(wt4 208 (by rfl) rfl), List.forall_mem_cons.mpr ⟨(wt4 210 (by rfl) rfl), List.forall_mem_cons.mpr ⟨(wt4 212 (by rfl) rfl), List.forall_mem_cons.mpr ⟨(wt4 214 (by rfl) rfl), List.forall_mem_cons.mpr ⟨(wt4 216 (by rfl) rfl), List.forall_mem_cons.mpr ⟨(wt4 218 (by rfl) rfl), List.forall_mem_cons.mpr ⟨(wt4 220 (by rfl) rfl), List.forall_mem_cons.mpr ⟨(wt4 222 (by rfl) rfl), List.forall_mem_cons.mpr ⟨(wt4 224 (by rfl) rfl), List.forall_mem_cons.mpr ⟨(wt4 226 (by rfl) rfl), List.forall_mem_cons.mpr ⟨(wt4 228 (by rfl) rfl), List.forall_mem_cons.mpr ⟨(wt4 230 (by rfl) rfl), List.forall_mem_cons.mpr ⟨(wt4 232 (by rfl) rfl), List.forall_mem_cons.mpr ⟨(wt4 234 (by rfl) rfl), List.forall_mem_cons.mpr ⟨(wt4 236 (by rfl) rfl), List.forall_mem_cons.mpr ⟨(wt4 238 (by rfl) rfl), List.forall_mem_cons.mpr ⟨(wt5 0 (by rfl) rfl), List.forall_mem_cons.mpr ⟨(wt5 2 (by rfl) rfl), List.forall_mem_cons.mpr ⟨(wt5 4 (by rfl) rfl), List.forall_mem_cons.mpr ⟨(wt5 6 (by rfl) rfl), List.forall_mem_cons.mpr ⟨(wt5 8 (by rfl) rfl), fun _ h => absurd h List.not_mem_nil⟩⟩⟩⟩⟩⟩⟩⟩⟩⟩⟩⟩⟩⟩⟩⟩⟩⟩⟩⟩⟩⟩⟩⟩⟩⟩⟩⟩⟩⟩
set_option maxRecDepth 20000 in
theorem nk_X7_9 : Cond.methodLinkNest RX7 9 yX0_init "EvenTrees" ∈ NW := List.mem_of_getElem? (i := 0) rfl
set_option maxRecDepth 20000 in
theorem nk_X7_130 : Cond.fieldLinkNest RX7 130 "EvenTrees$Pool" "made" "I" "EvenTrees" ∈ NW := List.mem_of_getElem? (i := 1) rfl
set_option maxRecDepth 20000 in
theorem nk_X7_18 : Cond.methodLinkNest RX7 18 yX2_init "EvenTrees" ∈ NW := List.mem_of_getElem? (i := 2) rfl
set_option maxRecDepth 20000 in
theorem nk_X7_314 : Cond.fieldLinkNest RX7 314 "EvenTrees$Row" "numbers" "[J" "EvenTrees" ∈ NW := List.mem_of_getElem? (i := 3) rfl
set_option maxRecDepth 20000 in
theorem nk_X7_303 : Cond.fieldLinkNest RX7 303 "EvenTrees$Row" "many" "I" "EvenTrees" ∈ NW := List.mem_of_getElem? (i := 4) rfl
set_option maxRecDepth 20000 in
theorem nk_X7_25 : Cond.methodLinkNest RX7 25 yX1_init "EvenTrees" ∈ NW := List.mem_of_getElem? (i := 5) rfl
set_option maxRecDepth 20000 in
theorem nk_X1_11 : Cond.methodLinkNest RX1 11 yX4_init "EvenTrees" ∈ NW := List.mem_of_getElem? (i := 6) rfl
set_option maxRecDepth 20000 in
theorem nk_X1_60 : Cond.fieldLinkNest RX1 60 "EvenTrees$Text" "many" "I" "EvenTrees" ∈ NW := List.mem_of_getElem? (i := 7) rfl
set_option maxRecDepth 20000 in
theorem nk_X7_306 : Cond.fieldLinkNest RX7 306 "EvenTrees$Text" "many" "I" "EvenTrees" ∈ NW := List.mem_of_getElem? (i := 8) rfl
set_option maxRecDepth 20000 in
theorem nk_X7_30 : Cond.fieldLinkNest RX7 30 "EvenTrees$Reader" "text" "LEvenTrees$Text;" "EvenTrees" ∈ NW := List.mem_of_getElem? (i := 9) rfl
set_option maxRecDepth 20000 in
theorem nk_X7_101 : Cond.fieldLinkNest RX7 101 "EvenTrees$Reader" "starts" "[I" "EvenTrees" ∈ NW := List.mem_of_getElem? (i := 10) rfl
set_option maxRecDepth 20000 in
theorem nk_X7_104 : Cond.fieldLinkNest RX7 104 "EvenTrees$Reader" "leftSizes" "[I" "EvenTrees" ∈ NW := List.mem_of_getElem? (i := 11) rfl
set_option maxRecDepth 20000 in
theorem nk_X7_107 : Cond.fieldLinkNest RX7 107 "EvenTrees$Reader" "rightSizes" "[I" "EvenTrees" ∈ NW := List.mem_of_getElem? (i := 12) rfl
set_option maxRecDepth 20000 in
theorem nk_X7_82 : Cond.fieldLinkNest RX7 82 "EvenTrees$Reader" "at" "I" "EvenTrees" ∈ NW := List.mem_of_getElem? (i := 13) rfl
set_option maxRecDepth 20000 in
theorem nk_X7_37 : Cond.methodLinkNest RX7 37 yX6_init "EvenTrees" ∈ NW := List.mem_of_getElem? (i := 14) rfl
set_option maxRecDepth 20000 in
theorem nk_X7_271 : Cond.fieldLinkNest RX7 271 "EvenTrees$Writer" "found" "I" "EvenTrees" ∈ NW := List.mem_of_getElem? (i := 15) rfl
set_option maxRecDepth 20000 in
theorem nk_X7_268 : Cond.fieldLinkNest RX7 268 "EvenTrees$Writer" "signs" "I" "EvenTrees" ∈ NW := List.mem_of_getElem? (i := 16) rfl
set_option maxRecDepth 20000 in
theorem nk_X7_44 : Cond.methodLinkNest RX7 44 yX5_init "EvenTrees" ∈ NW := List.mem_of_getElem? (i := 17) rfl
set_option maxRecDepth 20000 in
theorem nk_X7_259 : Cond.fieldLinkNest RX7 259 "EvenTrees$Ways" "total" "I" "EvenTrees" ∈ NW := List.mem_of_getElem? (i := 18) rfl
set_option maxRecDepth 20000 in
theorem nk_X7_264 : Cond.methodLinkNest RX7 264 yX6_writeTree "EvenTrees" ∈ NW := List.mem_of_getElem? (i := 19) rfl
set_option maxRecDepth 20000 in
theorem kw_X7_264 : KWSN RX7 264 RX7 yX6_writeTree cX6_writeTree 5 none 5 := ⟨nk_X7_264, (wt4 18 (by rfl) rfl), (wt1 6 (by rfl) rfl), (wt4 19 (by rfl) rfl), by decide +kernel⟩
set_option maxRecDepth 20000 in
theorem fk_X0_11 : Cond.fieldLink RX0 11 "EvenTrees$Pool" "numbers" "[I" ∈ WT := (wt1 31 (by rfl) rfl)
set_option maxRecDepth 20000 in
theorem fk_X0_15 : Cond.fieldLink RX0 15 "EvenTrees$Pool" "lefts" "[I" ∈ WT := (wt1 32 (by rfl) rfl)
set_option maxRecDepth 20000 in
theorem fk_X0_18 : Cond.fieldLink RX0 18 "EvenTrees$Pool" "rights" "[I" ∈ WT := (wt1 33 (by rfl) rfl)
set_option maxRecDepth 20000 in
theorem fk_X0_21 : Cond.fieldLink RX0 21 "EvenTrees$Pool" "kept" "[I" ∈ WT := (wt1 34 (by rfl) rfl)
set_option maxRecDepth 20000 in
theorem fk_X0_24 : Cond.fieldLink RX0 24 "EvenTrees$Pool" "seen" "[I" ∈ WT := (wt1 35 (by rfl) rfl)
set_option maxRecDepth 20000 in
theorem fk_X0_27 : Cond.fieldLink RX0 27 "EvenTrees$Pool" "at" "[I" ∈ WT := (wt1 36 (by rfl) rfl)
set_option maxRecDepth 20000 in
theorem fk_X0_30 : Cond.fieldLink RX0 30 "EvenTrees$Pool" "next" "I" ∈ WT := (wt1 37 (by rfl) rfl)
set_option maxRecDepth 20000 in
theorem fk_X0_34 : Cond.fieldLink RX0 34 "EvenTrees$Pool" "free" "I" ∈ WT := (wt1 38 (by rfl) rfl)
set_option maxRecDepth 20000 in
theorem fk_X0_37 : Cond.fieldLink RX0 37 "EvenTrees$Pool" "made" "I" ∈ WT := (wt1 39 (by rfl) rfl)
set_option maxRecDepth 20000 in
theorem fk_X0_40 : Cond.fieldLink RX0 40 "EvenTrees$Pool" "base" "I" ∈ WT := (wt1 41 (by rfl) rfl)
set_option maxRecDepth 20000 in
theorem fk_X2_9 : Cond.fieldLink RX2 9 "EvenTrees$Row" "numbers" "[J" ∈ WT := (wt1 70 (by rfl) rfl)
set_option maxRecDepth 20000 in
theorem fk_X2_15 : Cond.fieldLink RX2 15 "EvenTrees$Row" "many" "I" ∈ WT := (wt1 72 (by rfl) rfl)
set_option maxRecDepth 20000 in
theorem fk_X4_11 : Cond.fieldLink RX4 11 "EvenTrees$Text" "signs" "[I" ∈ WT := (wt1 92 (by rfl) rfl)
set_option maxRecDepth 20000 in
theorem fk_X4_15 : Cond.fieldLink RX4 15 "EvenTrees$Text" "many" "I" ∈ WT := (wt1 93 (by rfl) rfl)
set_option maxRecDepth 20000 in
theorem fk_X1_12 : Cond.fieldLink RX1 12 "EvenTrees$Reader" "text" "LEvenTrees$Text;" ∈ WT := (wt1 101 (by rfl) rfl)
set_option maxRecDepth 20000 in
theorem fk_X1_18 : Cond.fieldLink RX1 18 "EvenTrees$Reader" "starts" "[I" ∈ WT := (wt1 103 (by rfl) rfl)
set_option maxRecDepth 20000 in
theorem fk_X1_22 : Cond.fieldLink RX1 22 "EvenTrees$Reader" "values" "[I" ∈ WT := (wt1 105 (by rfl) rfl)
set_option maxRecDepth 20000 in
theorem fk_X1_25 : Cond.fieldLink RX1 25 "EvenTrees$Reader" "parents" "[I" ∈ WT := (wt1 106 (by rfl) rfl)
set_option maxRecDepth 20000 in
theorem fk_X1_28 : Cond.fieldLink RX1 28 "EvenTrees$Reader" "sidesOfParents" "[I" ∈ WT := (wt1 107 (by rfl) rfl)
set_option maxRecDepth 20000 in
theorem fk_X1_31 : Cond.fieldLink RX1 31 "EvenTrees$Reader" "sidesRead" "[I" ∈ WT := (wt1 108 (by rfl) rfl)
set_option maxRecDepth 20000 in
theorem fk_X1_34 : Cond.fieldLink RX1 34 "EvenTrees$Reader" "leftSizes" "[I" ∈ WT := (wt1 109 (by rfl) rfl)
set_option maxRecDepth 20000 in
theorem fk_X1_37 : Cond.fieldLink RX1 37 "EvenTrees$Reader" "rightSizes" "[I" ∈ WT := (wt1 111 (by rfl) rfl)
set_option maxRecDepth 20000 in
theorem fk_X1_40 : Cond.fieldLink RX1 40 "EvenTrees$Reader" "indexes" "[I" ∈ WT := (wt1 113 (by rfl) rfl)
set_option maxRecDepth 20000 in
theorem fk_X1_43 : Cond.fieldLink RX1 43 "EvenTrees$Reader" "at" "I" ∈ WT := (wt1 114 (by rfl) rfl)
set_option maxRecDepth 20000 in
theorem fk_X1_47 : Cond.fieldLink RX1 47 "EvenTrees$Reader" "number" "I" ∈ WT := (wt1 116 (by rfl) rfl)
set_option maxRecDepth 20000 in
theorem fk_X1_50 : Cond.fieldLink RX1 50 "EvenTrees$Reader" "many" "I" ∈ WT := (wt1 117 (by rfl) rfl)
set_option maxRecDepth 20000 in
theorem fk_X1_53 : Cond.fieldLink RX1 53 "EvenTrees$Reader" "open" "I" ∈ WT := (wt1 118 (by rfl) rfl)
set_option maxRecDepth 20000 in
theorem fk_X1_56 : Cond.fieldLink RX1 56 "EvenTrees$Reader" "whole" "Z" ∈ WT := (wt1 119 (by rfl) rfl)
set_option maxRecDepth 20000 in
theorem fk_X6_9 : Cond.fieldLink RX6 9 "EvenTrees$Writer" "wanted" "I" ∈ WT := (wt1 155 (by rfl) rfl)
set_option maxRecDepth 20000 in
theorem fk_X6_15 : Cond.fieldLink RX6 15 "EvenTrees$Writer" "found" "I" ∈ WT := (wt1 156 (by rfl) rfl)
set_option maxRecDepth 20000 in
theorem fk_X6_18 : Cond.fieldLink RX6 18 "EvenTrees$Writer" "signs" "I" ∈ WT := (wt1 158 (by rfl) rfl)
set_option maxRecDepth 20000 in
theorem fk_X5_9 : Cond.fieldLink RX5 9 "EvenTrees$Ways" "on" "[I" ∈ WT := (wt1 173 (by rfl) rfl)
set_option maxRecDepth 20000 in
theorem fk_X5_15 : Cond.fieldLink RX5 15 "EvenTrees$Ways" "total" "I" ∈ WT := (wt1 174 (by rfl) rfl)
set_option maxRecDepth 20000 in
theorem fk_X7_10 : Cond.fieldLink RX7 10 "EvenTrees" "pool" "LEvenTrees$Pool;" ∈ WT := (wt1 181 (by rfl) rfl)
set_option maxRecDepth 20000 in
theorem fk_X7_19 : Cond.fieldLink RX7 19 "EvenTrees" "told" "LEvenTrees$Row;" ∈ WT := (wt1 182 (by rfl) rfl)
set_option maxRecDepth 20000 in
theorem fk_X7_26 : Cond.fieldLink RX7 26 "EvenTrees" "reader" "LEvenTrees$Reader;" ∈ WT := (wt1 183 (by rfl) rfl)
set_option maxRecDepth 20000 in
theorem fk_X7_34 : Cond.fieldLink RX7 34 "EvenTrees" "text" "LEvenTrees$Text;" ∈ WT := (wt1 184 (by rfl) rfl)
set_option maxRecDepth 20000 in
theorem fk_X7_38 : Cond.fieldLink RX7 38 "EvenTrees" "writer" "LEvenTrees$Writer;" ∈ WT := (wt1 185 (by rfl) rfl)
set_option maxRecDepth 20000 in
theorem fk_X7_45 : Cond.fieldLink RX7 45 "EvenTrees" "marked" "LEvenTrees$Ways;" ∈ WT := (wt1 186 (by rfl) rfl)
set_option maxRecDepth 20000 in
theorem fk_X7_49 : Cond.fieldLink RX7 49 "EvenTrees" "trees" "[I" ∈ WT := (wt1 187 (by rfl) rfl)
set_option maxRecDepth 20000 in
theorem fk_X7_53 : Cond.fieldLink RX7 53 "EvenTrees" "sizes" "[I" ∈ WT := (wt1 188 (by rfl) rfl)
set_option maxRecDepth 20000 in
theorem fk_X7_56 : Cond.fieldLink RX7 56 "EvenTrees" "one" "[I" ∈ WT := (wt1 189 (by rfl) rfl)
set_option maxRecDepth 20000 in
theorem fk_X7_59 : Cond.fieldLink RX7 59 "EvenTrees" "other" "[I" ∈ WT := (wt1 190 (by rfl) rfl)
set_option maxRecDepth 20000 in
theorem fk_X7_62 : Cond.fieldLink RX7 62 "EvenTrees" "fresh" "[I" ∈ WT := (wt1 191 (by rfl) rfl)
set_option maxRecDepth 20000 in
theorem fk_X7_65 : Cond.fieldLink RX7 65 "EvenTrees" "tally" "[I" ∈ WT := (wt1 192 (by rfl) rfl)
set_option maxRecDepth 20000 in
theorem ck_J6_265 : Cond.constant RJ6 265 1431655765 ∈ WT := (wt2 151 (by rfl) rfl)
set_option maxRecDepth 20000 in
theorem ck_J6_266 : Cond.constant RJ6 266 858993459 ∈ WT := (wt2 152 (by rfl) rfl)
set_option maxRecDepth 20000 in
theorem ck_J6_267 : Cond.constant RJ6 267 252645135 ∈ WT := (wt2 153 (by rfl) rfl)
set_option maxRecDepth 20000 in
theorem ck_X7_157 : Cond.constantLong RX7 157 (-1) ∈ WT := (wt2 188 (by rfl) rfl)
set_option maxRecDepth 20000 in
theorem ck_X7_252 : Cond.constant RX7 252 (-1000000) ∈ WT := (wt3 199 (by rfl) rfl)
set_option maxRecDepth 20000 in
theorem fk_X8_7 : Cond.fieldLink RX8 7 "EvenTreesModel" "numbers" "[I" ∈ WT := (wt4 160 (by rfl) rfl)
set_option maxRecDepth 20000 in
theorem fk_X8_13 : Cond.fieldLink RX8 13 "EvenTreesModel" "nodes" "[I" ∈ WT := (wt4 161 (by rfl) rfl)
set_option maxRecDepth 20000 in
theorem fk_X8_16 : Cond.fieldLink RX8 16 "EvenTreesModel" "sizes" "[I" ∈ WT := (wt4 162 (by rfl) rfl)
set_option maxRecDepth 20000 in
theorem fk_X8_75 : Cond.fieldLink RX8 75 "EvenTreesModel" "made" "I" ∈ WT := (wt4 163 (by rfl) rfl)
set_option maxRecDepth 20000 in
theorem fk_X8_19 : Cond.fieldLink RX8 19 "EvenTreesModel" "text" "[B" ∈ WT := (wt4 164 (by rfl) rfl)
set_option maxRecDepth 20000 in
theorem fk_X8_62 : Cond.fieldLink RX8 62 "EvenTreesModel" "typed" "I" ∈ WT := (wt4 165 (by rfl) rfl)
set_option maxRecDepth 20000 in
theorem fk_X8_23 : Cond.fieldLink RX8 23 "EvenTreesModel" "row" "[J" ∈ WT := (wt4 166 (by rfl) rfl)
set_option maxRecDepth 20000 in
theorem fk_X8_59 : Cond.fieldLink RX8 59 "EvenTreesModel" "rowMany" "I" ∈ WT := (wt4 167 (by rfl) rfl)
set_option maxRecDepth 20000 in
theorem fk_X8_55 : Cond.fieldLink RX8 55 "EvenTreesModel" "thrown" "I" ∈ WT := (wt4 168 (by rfl) rfl)
set_option maxRecDepth 20000 in
theorem fk_X8_86 : Cond.fieldLink RX8 86 "EvenTreesModel" "madeBefore" "I" ∈ WT := (wt4 169 (by rfl) rfl)
set_option maxRecDepth 20000 in
theorem fk_X8_27 : Cond.fieldLink RX8 27 "EvenTreesModel" "way" "[I" ∈ WT := (wt4 170 (by rfl) rfl)
set_option maxRecDepth 20000 in
theorem fk_X8_89 : Cond.fieldLink RX8 89 "EvenTreesModel" "wayMany" "I" ∈ WT := (wt4 171 (by rfl) rfl)
set_option maxRecDepth 20000 in
theorem fk_X8_92 : Cond.fieldLink RX8 92 "EvenTreesModel" "wayBits" "I" ∈ WT := (wt4 172 (by rfl) rfl)
set_option maxRecDepth 20000 in
theorem fk_X8_30 : Cond.fieldLink RX8 30 "EvenTreesModel" "isNew" "[Z" ∈ WT := (wt4 173 (by rfl) rfl)
set_option maxRecDepth 20000 in
theorem fk_X8_110 : Cond.fieldLink RX8 110 "EvenTreesModel" "at" "I" ∈ WT := (wt4 174 (by rfl) rfl)
set_option maxRecDepth 20000 in
theorem fk_X8_107 : Cond.fieldLink RX8 107 "EvenTreesModel" "length" "I" ∈ WT := (wt4 175 (by rfl) rfl)
set_option maxRecDepth 20000 in
theorem fk_X8_121 : Cond.fieldLink RX8 121 "EvenTreesModel" "read" "I" ∈ WT := (wt4 176 (by rfl) rfl)
set_option maxRecDepth 20000 in
theorem fk_X8_34 : Cond.fieldLink RX8 34 "EvenTreesModel" "toldAt" "[I" ∈ WT := (wt4 177 (by rfl) rfl)
set_option maxRecDepth 20000 in
theorem fk_X8_37 : Cond.fieldLink RX8 37 "EvenTreesModel" "toldNumber" "[I" ∈ WT := (wt4 178 (by rfl) rfl)
set_option maxRecDepth 20000 in
theorem fk_X8_40 : Cond.fieldLink RX8 40 "EvenTreesModel" "toldAbove" "[I" ∈ WT := (wt4 179 (by rfl) rfl)
set_option maxRecDepth 20000 in
theorem fk_X8_43 : Cond.fieldLink RX8 43 "EvenTreesModel" "toldSide" "[I" ∈ WT := (wt4 180 (by rfl) rfl)
set_option maxRecDepth 20000 in
theorem fk_X8_46 : Cond.fieldLink RX8 46 "EvenTreesModel" "toldSides" "[I" ∈ WT := (wt4 181 (by rfl) rfl)
set_option maxRecDepth 20000 in
theorem fk_X8_49 : Cond.fieldLink RX8 49 "EvenTreesModel" "toldIndex" "[I" ∈ WT := (wt4 182 (by rfl) rfl)
set_option maxRecDepth 20000 in
theorem fk_X8_52 : Cond.fieldLink RX8 52 "EvenTreesModel" "toldStep" "[I" ∈ WT := (wt4 183 (by rfl) rfl)
set_option maxRecDepth 20000 in
theorem fk_X8_141 : Cond.fieldLink RX8 141 "EvenTreesModel" "toldMany" "I" ∈ WT := (wt4 184 (by rfl) rfl)
set_option maxRecDepth 20000 in
theorem fk_X8_179 : Cond.fieldLink RX8 179 "EvenTreesModel" "steps" "I" ∈ WT := (wt4 185 (by rfl) rfl)
set_option maxRecDepth 20000 in
theorem fk_X8_264 : Cond.fieldLink RX8 264 "EvenTreesModel" "lifted" "I" ∈ WT := (wt4 186 (by rfl) rfl)
set_option maxRecDepth 20000 in
theorem fk_X8_284 : Cond.fieldLink RX8 284 "EvenTreesModel" "writtenMany" "I" ∈ WT := (wt4 187 (by rfl) rfl)
set_option maxRecDepth 20000 in
theorem fk_X8_287 : Cond.fieldLink RX8 287 "EvenTreesModel" "writtenAsked" "I" ∈ WT := (wt4 188 (by rfl) rfl)
set_option maxRecDepth 20000 in
theorem fk_X8_290 : Cond.fieldLink RX8 290 "EvenTreesModel" "writtenSign" "I" ∈ WT := (wt4 189 (by rfl) rfl)
set_option maxRecDepth 20000 in
theorem ck_X8_117 : Cond.constantLong RX8 117 48 ∈ WT := (wt5 47 (by rfl) rfl)
set_option maxRecDepth 20000 in
theorem ck_X8_119 : Cond.constantLong RX8 119 57 ∈ WT := (wt5 48 (by rfl) rfl)
set_option maxRecDepth 20000 in
theorem ck_X8_69 : Cond.constantLong RX8 69 5 ∈ WT := (wt5 52 (by rfl) rfl)
set_option maxRecDepth 20000 in
theorem ck_X8_161 : Cond.constantLong RX8 161 255 ∈ WT := (wt5 93 (by rfl) rfl)
set_option maxRecDepth 20000 in
theorem ck_X8_71 : Cond.constantLong RX8 71 (-999) ∈ WT := (wt5 97 (by rfl) rfl)
set_option maxRecDepth 20000 in
theorem ck_X8_73 : Cond.constantLong RX8 73 999 ∈ WT := (wt5 98 (by rfl) rfl)
set_option maxRecDepth 20000 in
theorem ck_X8_240 : Cond.constantLong RX8 240 3 ∈ WT := (wt6 22 (by rfl) rfl)
set_option maxRecDepth 20000 in
theorem ck_X8_273 : Cond.constant RX8 273 (-1000000) ∈ WT := (wt6 104 (by rfl) rfl)
set_option maxRecDepth 20000 in
theorem ck_X8_320 : Cond.constantLong RX8 320 (-1) ∈ WT := (wt6 187 (by rfl) rfl)
set_option maxRecDepth 20000 in
theorem ck_X8_328 : Cond.constantLong RX8 328 7 ∈ WT := (wt6 208 (by rfl) rfl)
set_option maxRecDepth 20000 in
theorem ck_X8_330 : Cond.constantLong RX8 330 4611686018427387903 ∈ WT := (wt6 213 (by rfl) rfl)
set_option maxRecDepth 20000 in
theorem ck_L_218 : Cond.constantLong RL 218 4294967295 ∈ WT := (wt6 230 (by rfl) rfl)
set_option maxRecDepth 20000 in
theorem kw_L_19 : KWV RL 19 RX7 yX7_sign cX7_sign 2 (some .int) 1 := ⟨(wt1 218 (by rfl) rfl), (wt1 219 (by rfl) rfl), (wt1 220 (by rfl) rfl), (wt1 1 (by rfl) rfl), (wt1 221 (by rfl) rfl), by decide +kernel⟩
set_option maxRecDepth 20000 in
theorem kw_X7_68 : KWV RX7 68 RX4 yX4_addFour cX4_addFour 3 (some .int) 1 := ⟨(wt1 222 (by rfl) rfl), (wt1 223 (by rfl) rfl), (wt1 224 (by rfl) rfl), (wt1 5 (by rfl) rfl), (wt1 225 (by rfl) rfl), by decide +kernel⟩
set_option maxRecDepth 20000 in
theorem kw_L_24 : KWV RL 24 RX7 yX7_end cX7_end 2 (some .boolean) 1 := ⟨(wt1 226 (by rfl) rfl), (wt1 227 (by rfl) rfl), (wt1 228 (by rfl) rfl), (wt1 1 (by rfl) rfl), (wt1 229 (by rfl) rfl), by decide +kernel⟩
set_option maxRecDepth 20000 in
theorem kw_X7_74 : KWV RX7 74 RX4 yX4_cut cX4_cut 2 (some .boolean) 1 := ⟨(wt1 230 (by rfl) rfl), (wt1 231 (by rfl) rfl), (wt1 232 (by rfl) rfl), (wt1 5 (by rfl) rfl), (wt1 233 (by rfl) rfl), by decide +kernel⟩
set_option maxRecDepth 20000 in
theorem kw_L_29 : KWV RL 29 RX7 yX7_tells cX7_tells 3 (some .int) 1 := ⟨(wt1 234 (by rfl) rfl), (wt1 235 (by rfl) rfl), (wt1 236 (by rfl) rfl), (wt1 1 (by rfl) rfl), (wt1 237 (by rfl) rfl), by decide +kernel⟩
set_option maxRecDepth 20000 in
theorem kw_X7_78 : KWV RX7 78 RX1 yX1_readRow cX1_readRow 3 (some .int) 1 := ⟨(wt1 238 (by rfl) rfl), (wt1 239 (by rfl) rfl), (wt2 0 (by rfl) rfl), (wt1 4 (by rfl) rfl), (wt2 1 (by rfl) rfl), by decide +kernel⟩
set_option maxRecDepth 20000 in
theorem kw_X1_61 : KWV RX1 61 RX1 yX1_readNumber cX1_readNumber 4 (some .boolean) 0 := ⟨(wt2 2 (by rfl) rfl), (wt2 4 (by rfl) rfl), (wt0 0 (by rfl) rfl), (wt1 4 (by rfl) rfl), (wt2 5 (by rfl) rfl), by decide +kernel⟩
set_option maxRecDepth 20000 in
theorem kw_X1_65 : KWV RX1 65 RX4 yX4_signAt cX4_signAt 2 (some .int) 1 := ⟨(wt2 6 (by rfl) rfl), (wt2 7 (by rfl) rfl), (wt2 8 (by rfl) rfl), (wt1 5 (by rfl) rfl), (wt2 9 (by rfl) rfl), by decide +kernel⟩
set_option maxRecDepth 20000 in
theorem kw_X1_69 : KWS RX1 69 yX1_isDigit cX1_isDigit 1 (some .boolean) 1 := ⟨(wt2 10 (by rfl) rfl), (wt2 11 (by rfl) rfl), (wt1 4 (by rfl) rfl), (wt2 12 (by rfl) rfl), by decide +kernel⟩
set_option maxRecDepth 20000 in
theorem kw_X7_86 : KWS RX7 86 yX7_isPlace cX7_isPlace 1 (some .boolean) 1 := ⟨(wt2 13 (by rfl) rfl), (wt2 14 (by rfl) rfl), (wt1 1 (by rfl) rfl), (wt2 15 (by rfl) rfl), by decide +kernel⟩
set_option maxRecDepth 20000 in
theorem kw_X7_89 : KWV RX7 89 RX7 yX7_build cX7_build 3 (some .int) 2 := ⟨(wt2 16 (by rfl) rfl), (wt2 18 (by rfl) rfl), (wt0 1 (by rfl) rfl), (wt1 1 (by rfl) rfl), (wt2 19 (by rfl) rfl), by decide +kernel⟩
set_option maxRecDepth 20000 in
theorem kw_X7_120 : KWV RX7 120 RX7 yX7_begin cX7_begin 2 (some .int) 0 := ⟨(wt2 20 (by rfl) rfl), (wt2 22 (by rfl) rfl), (wt0 2 (by rfl) rfl), (wt1 1 (by rfl) rfl), (wt2 23 (by rfl) rfl), by decide +kernel⟩
set_option maxRecDepth 20000 in
theorem kw_X7_318 : KWV RX7 318 RX0 yX0_hasRoom cX0_hasRoom 1 (some .boolean) 0 := ⟨(wt2 24 (by rfl) rfl), (wt2 25 (by rfl) rfl), (wt2 26 (by rfl) rfl), (wt1 2 (by rfl) rfl), (wt2 27 (by rfl) rfl), by decide +kernel⟩
set_option maxRecDepth 20000 in
theorem kw_X7_321 : KWV RX7 321 RX0 yX0_forgetKept cX0_forgetKept 1 none 0 := ⟨(wt2 28 (by rfl) rfl), (wt2 29 (by rfl) rfl), (wt2 30 (by rfl) rfl), (wt1 2 (by rfl) rfl), (wt2 31 (by rfl) rfl), by decide +kernel⟩
set_option maxRecDepth 20000 in
theorem kw_X0_43 : KWS RX0 43 yJ7_fill_53178 cJ7_fill_53178 4 none 2 := ⟨(wt2 32 (by rfl) rfl), (wt2 33 (by rfl) rfl), (wt1 9 (by rfl) rfl), (wt2 34 (by rfl) rfl), by decide +kernel⟩
set_option maxRecDepth 20000 in
theorem kw_X7_324 : KWV RX7 324 RX0 yX0_keepAll cX0_keepAll 4 none 2 := ⟨(wt2 35 (by rfl) rfl), (wt2 36 (by rfl) rfl), (wt2 37 (by rfl) rfl), (wt1 2 (by rfl) rfl), (wt2 38 (by rfl) rfl), by decide +kernel⟩
set_option maxRecDepth 20000 in
theorem kw_X0_49 : KWV RX0 49 RX0 yX0_spread cX0_spread 5 none 2 := ⟨(wt2 39 (by rfl) rfl), (wt2 40 (by rfl) rfl), (wt2 41 (by rfl) rfl), (wt1 2 (by rfl) rfl), (wt2 42 (by rfl) rfl), by decide +kernel⟩
set_option maxRecDepth 20000 in
theorem kw_X0_67 : KWS RX0 67 yX3_stride cX3_stride 2 (some .int) 1 := ⟨(wt2 43 (by rfl) rfl), (wt2 44 (by rfl) rfl), (wt1 10 (by rfl) rfl), (wt2 45 (by rfl) rfl), by decide +kernel⟩
set_option maxRecDepth 20000 in
theorem kw_X0_57 : KWV RX0 57 RX0 yX0_leftOf cX0_leftOf 2 (some .int) 1 := ⟨(wt2 46 (by rfl) rfl), (wt2 47 (by rfl) rfl), (wt2 48 (by rfl) rfl), (wt1 2 (by rfl) rfl), (wt2 49 (by rfl) rfl), by decide +kernel⟩
set_option maxRecDepth 20000 in
theorem kw_X0_53 : KWS RX0 53 yX0_isNode cX0_isNode 1 (some .boolean) 1 := ⟨(wt2 50 (by rfl) rfl), (wt2 51 (by rfl) rfl), (wt1 2 (by rfl) rfl), (wt2 52 (by rfl) rfl), by decide +kernel⟩
set_option maxRecDepth 20000 in
theorem kw_X0_61 : KWV RX0 61 RX0 yX0_rightOf cX0_rightOf 2 (some .int) 1 := ⟨(wt2 53 (by rfl) rfl), (wt2 54 (by rfl) rfl), (wt2 55 (by rfl) rfl), (wt1 2 (by rfl) rfl), (wt2 56 (by rfl) rfl), by decide +kernel⟩
set_option maxRecDepth 20000 in
theorem kw_X7_327 : KWV RX7 327 RX0 yX0_built cX0_built 4 (some .int) 2 := ⟨(wt2 57 (by rfl) rfl), (wt2 58 (by rfl) rfl), (wt2 59 (by rfl) rfl), (wt1 2 (by rfl) rfl), (wt2 60 (by rfl) rfl), by decide +kernel⟩
set_option maxRecDepth 20000 in
theorem kw_X0_72 : KWV RX0 72 RX0 yX0_below cX0_below 5 (some .int) 3 := ⟨(wt2 61 (by rfl) rfl), (wt2 63 (by rfl) rfl), (wt0 3 (by rfl) rfl), (wt1 2 (by rfl) rfl), (wt2 64 (by rfl) rfl), by decide +kernel⟩
set_option maxRecDepth 20000 in
theorem kw_X0_76 : KWV RX0 76 RX0 yX0_make cX0_make 5 (some .int) 3 := ⟨(wt2 65 (by rfl) rfl), (wt2 66 (by rfl) rfl), (wt2 67 (by rfl) rfl), (wt1 2 (by rfl) rfl), (wt2 68 (by rfl) rfl), by decide +kernel⟩
set_option maxRecDepth 20000 in
theorem kw_X0_79 : KWV RX0 79 RX0 yX0_rootOf cX0_rootOf 2 (some .int) 1 := ⟨(wt2 69 (by rfl) rfl), (wt2 71 (by rfl) rfl), (wt0 4 (by rfl) rfl), (wt1 2 (by rfl) rfl), (wt2 72 (by rfl) rfl), by decide +kernel⟩
set_option maxRecDepth 20000 in
theorem kw_X7_126 : KWV RX7 126 RX7 yX7_keep cX7_keep 4 (some .int) 3 := ⟨(wt2 73 (by rfl) rfl), (wt2 75 (by rfl) rfl), (wt0 5 (by rfl) rfl), (wt1 1 (by rfl) rfl), (wt2 76 (by rfl) rfl), by decide +kernel⟩
set_option maxRecDepth 20000 in
theorem kw_L_33 : KWV RL 33 RX7 yX7_grows cX7_grows 4 (some .int) 1 := ⟨(wt2 77 (by rfl) rfl), (wt2 78 (by rfl) rfl), (wt2 79 (by rfl) rfl), (wt1 1 (by rfl) rfl), (wt2 80 (by rfl) rfl), by decide +kernel⟩
set_option maxRecDepth 20000 in
theorem kw_X7_93 : KWV RX7 93 RX1 yX1_readTree cX1_readTree 2 (some .boolean) 0 := ⟨(wt2 81 (by rfl) rfl), (wt2 82 (by rfl) rfl), (wt2 83 (by rfl) rfl), (wt1 4 (by rfl) rfl), (wt2 84 (by rfl) rfl), by decide +kernel⟩
set_option maxRecDepth 20000 in
theorem kw_X1_73 : KWV RX1 73 RX1 yX1_readPart cX1_readPart 2 (some .boolean) 0 := ⟨(wt2 85 (by rfl) rfl), (wt2 87 (by rfl) rfl), (wt0 6 (by rfl) rfl), (wt1 4 (by rfl) rfl), (wt2 88 (by rfl) rfl), by decide +kernel⟩
set_option maxRecDepth 20000 in
theorem kw_X1_76 : KWV RX1 76 RX1 yX1_close cX1_close 2 (some .boolean) 0 := ⟨(wt2 89 (by rfl) rfl), (wt2 91 (by rfl) rfl), (wt0 7 (by rfl) rfl), (wt1 4 (by rfl) rfl), (wt2 92 (by rfl) rfl), by decide +kernel⟩
set_option maxRecDepth 20000 in
theorem kw_X1_79 : KWV RX1 79 RX1 yX1_settle cX1_settle 2 none 1 := ⟨(wt2 93 (by rfl) rfl), (wt2 95 (by rfl) rfl), (wt0 8 (by rfl) rfl), (wt1 4 (by rfl) rfl), (wt2 96 (by rfl) rfl), by decide +kernel⟩
set_option maxRecDepth 20000 in
theorem kw_X1_83 : KWV RX1 83 RX1 yX1_openNode cX1_openNode 2 (some .boolean) 0 := ⟨(wt2 97 (by rfl) rfl), (wt2 99 (by rfl) rfl), (wt0 9 (by rfl) rfl), (wt1 4 (by rfl) rfl), (wt2 100 (by rfl) rfl), by decide +kernel⟩
set_option maxRecDepth 20000 in
theorem kw_X7_97 : KWV RX7 97 RX1 yX1_firstUneven cX1_firstUneven 2 (some .int) 0 := ⟨(wt2 101 (by rfl) rfl), (wt2 102 (by rfl) rfl), (wt2 103 (by rfl) rfl), (wt1 4 (by rfl) rfl), (wt2 104 (by rfl) rfl), by decide +kernel⟩
set_option maxRecDepth 20000 in
theorem kw_X1_86 : KWS RX1 86 yX3_isEven cX3_isEven 2 (some .boolean) 2 := ⟨(wt2 105 (by rfl) rfl), (wt2 106 (by rfl) rfl), (wt1 10 (by rfl) rfl), (wt2 107 (by rfl) rfl), by decide +kernel⟩
set_option maxRecDepth 20000 in
theorem kw_X7_110 : KWV RX7 110 RX2 yX2_tell__ cX2_tell__ 7 none 3 := ⟨(wt2 108 (by rfl) rfl), (wt2 109 (by rfl) rfl), (wt2 110 (by rfl) rfl), (wt1 3 (by rfl) rfl), (wt2 111 (by rfl) rfl), by decide +kernel⟩
set_option maxRecDepth 20000 in
theorem kw_X2_29 : KWV RX2 29 RX2 yX2_tell_ cX2_tell_ 5 none 2 := ⟨(wt2 112 (by rfl) rfl), (wt2 113 (by rfl) rfl), (wt2 114 (by rfl) rfl), (wt1 3 (by rfl) rfl), (wt2 115 (by rfl) rfl), by decide +kernel⟩
set_option maxRecDepth 20000 in
theorem kw_X2_26 : KWV RX2 26 RX2 yX2_tell cX2_tell 3 none 1 := ⟨(wt2 116 (by rfl) rfl), (wt2 117 (by rfl) rfl), (wt2 118 (by rfl) rfl), (wt1 3 (by rfl) rfl), (wt2 119 (by rfl) rfl), by decide +kernel⟩
set_option maxRecDepth 20000 in
theorem kw_X2_19 : KWV RX2 19 RX2 yX2_clear cX2_clear 1 none 0 := ⟨(wt2 120 (by rfl) rfl), (wt2 121 (by rfl) rfl), (wt2 122 (by rfl) rfl), (wt1 3 (by rfl) rfl), (wt2 123 (by rfl) rfl), by decide +kernel⟩
set_option maxRecDepth 20000 in
theorem kw_X2_22 : KWV RX2 22 RX2 yX2_add cX2_add 3 none 1 := ⟨(wt2 124 (by rfl) rfl), (wt2 125 (by rfl) rfl), (wt2 126 (by rfl) rfl), (wt1 3 (by rfl) rfl), (wt2 127 (by rfl) rfl), by decide +kernel⟩
set_option maxRecDepth 20000 in
theorem kw_X7_114 : KWV RX7 114 RX1 yX1_numbersByIndex cX1_numbersByIndex 5 (some .int) 1 := ⟨(wt2 128 (by rfl) rfl), (wt2 129 (by rfl) rfl), (wt2 130 (by rfl) rfl), (wt1 4 (by rfl) rfl), (wt2 131 (by rfl) rfl), by decide +kernel⟩
set_option maxRecDepth 20000 in
theorem kw_X1_92 : KWS RX1 92 yX3_stride cX3_stride 2 (some .int) 1 := ⟨(wt2 132 (by rfl) rfl), (wt2 44 (by rfl) rfl), (wt1 10 (by rfl) rfl), (wt2 45 (by rfl) rfl), by decide +kernel⟩
set_option maxRecDepth 20000 in
theorem kw_L_37 : KWV RL 37 RX7 yX7_fills cX7_fills 5 (some .int) 3 := ⟨(wt2 133 (by rfl) rfl), (wt2 134 (by rfl) rfl), (wt2 135 (by rfl) rfl), (wt1 1 (by rfl) rfl), (wt2 136 (by rfl) rfl), by decide +kernel⟩
set_option maxRecDepth 20000 in
theorem kw_X7_117 : KWS RX7 117 yX7_isNumber cX7_isNumber 1 (some .boolean) 1 := ⟨(wt2 137 (by rfl) rfl), (wt2 138 (by rfl) rfl), (wt1 1 (by rfl) rfl), (wt2 139 (by rfl) rfl), by decide +kernel⟩
set_option maxRecDepth 20000 in
theorem kw_X7_123 : KWV RX7 123 RX0 yX0_alike cX0_alike 8 (some .int) 2 := ⟨(wt2 140 (by rfl) rfl), (wt2 141 (by rfl) rfl), (wt2 142 (by rfl) rfl), (wt1 2 (by rfl) rfl), (wt2 143 (by rfl) rfl), by decide +kernel⟩
set_option maxRecDepth 20000 in
theorem kw_X0_87 : KWS RX0 87 yX3_depth cX3_depth 1 (some .int) 1 := ⟨(wt2 144 (by rfl) rfl), (wt2 145 (by rfl) rfl), (wt1 10 (by rfl) rfl), (wt2 146 (by rfl) rfl), by decide +kernel⟩
set_option maxRecDepth 20000 in
theorem kw_X3_9 : KWS RX3 9 yX3_stride cX3_stride 2 (some .int) 1 := ⟨(wt2 147 (by rfl) rfl), (wt2 44 (by rfl) rfl), (wt1 10 (by rfl) rfl), (wt2 45 (by rfl) rfl), by decide +kernel⟩
set_option maxRecDepth 20000 in
theorem kw_X3_15 : KWS RX3 15 yJ6_bitCount_0f7a4 cJ6_bitCount_0f7a4 1 (some .int) 1 := ⟨(wt2 148 (by rfl) rfl), (wt2 149 (by rfl) rfl), (wt1 11 (by rfl) rfl), (wt2 150 (by rfl) rfl), by decide +kernel⟩
set_option maxRecDepth 20000 in
theorem kw_L_42 : KWV RL 42 RX7 yX7_copies cX7_copies 3 (some .int) 2 := ⟨(wt2 154 (by rfl) rfl), (wt2 155 (by rfl) rfl), (wt2 156 (by rfl) rfl), (wt1 1 (by rfl) rfl), (wt2 157 (by rfl) rfl), by decide +kernel⟩
set_option maxRecDepth 20000 in
theorem kw_L_47 : KWV RL 47 RX7 yX7_sides cX7_sides 5 (some .int) 3 := ⟨(wt2 158 (by rfl) rfl), (wt2 159 (by rfl) rfl), (wt2 160 (by rfl) rfl), (wt1 1 (by rfl) rfl), (wt2 161 (by rfl) rfl), by decide +kernel⟩
set_option maxRecDepth 20000 in
theorem kw_X7_133 : KWS RX7 133 yX3_leftSize cX3_leftSize 1 (some .int) 1 := ⟨(wt2 162 (by rfl) rfl), (wt2 163 (by rfl) rfl), (wt1 10 (by rfl) rfl), (wt2 164 (by rfl) rfl), by decide +kernel⟩
set_option maxRecDepth 20000 in
theorem kw_X7_138 : KWS RX7 138 yX3_rightSize cX3_rightSize 1 (some .int) 1 := ⟨(wt2 165 (by rfl) rfl), (wt2 166 (by rfl) rfl), (wt1 10 (by rfl) rfl), (wt2 167 (by rfl) rfl), by decide +kernel⟩
set_option maxRecDepth 20000 in
theorem kw_X7_141 : KWV RX7 141 RX0 yX0_leftOf cX0_leftOf 2 (some .int) 1 := ⟨(wt2 168 (by rfl) rfl), (wt2 47 (by rfl) rfl), (wt2 48 (by rfl) rfl), (wt1 2 (by rfl) rfl), (wt2 49 (by rfl) rfl), by decide +kernel⟩
set_option maxRecDepth 20000 in
theorem kw_X7_144 : KWV RX7 144 RX0 yX0_rightOf cX0_rightOf 2 (some .int) 1 := ⟨(wt2 169 (by rfl) rfl), (wt2 54 (by rfl) rfl), (wt2 55 (by rfl) rfl), (wt1 2 (by rfl) rfl), (wt2 56 (by rfl) rfl), by decide +kernel⟩
set_option maxRecDepth 20000 in
theorem kw_L_51 : KWV RL 51 RX7 yX7_roots cX7_roots 6 (some .int) 4 := ⟨(wt2 170 (by rfl) rfl), (wt2 171 (by rfl) rfl), (wt2 172 (by rfl) rfl), (wt1 1 (by rfl) rfl), (wt2 173 (by rfl) rfl), by decide +kernel⟩
set_option maxRecDepth 20000 in
theorem kw_X7_147 : KWS RX7 147 yX3_isEven cX3_isEven 2 (some .boolean) 2 := ⟨(wt2 174 (by rfl) rfl), (wt2 106 (by rfl) rfl), (wt1 10 (by rfl) rfl), (wt2 107 (by rfl) rfl), by decide +kernel⟩
set_option maxRecDepth 20000 in
theorem kw_X7_151 : KWV RX7 151 RX0 yX0_make cX0_make 5 (some .int) 3 := ⟨(wt2 175 (by rfl) rfl), (wt2 66 (by rfl) rfl), (wt2 67 (by rfl) rfl), (wt1 2 (by rfl) rfl), (wt2 68 (by rfl) rfl), by decide +kernel⟩
set_option maxRecDepth 20000 in
theorem kw_L_56 : KWV RL 56 RX7 yX7_size cX7_size 3 (some .int) 1 := ⟨(wt2 176 (by rfl) rfl), (wt2 177 (by rfl) rfl), (wt2 178 (by rfl) rfl), (wt1 1 (by rfl) rfl), (wt2 179 (by rfl) rfl), by decide +kernel⟩
set_option maxRecDepth 20000 in
theorem kw_X7_154 : KWS RX7 154 yX3_steps cX3_steps 3 (some .int) 1 := ⟨(wt2 180 (by rfl) rfl), (wt2 181 (by rfl) rfl), (wt1 10 (by rfl) rfl), (wt2 182 (by rfl) rfl), by decide +kernel⟩
set_option maxRecDepth 20000 in
theorem kw_X3_32 : KWS RX3 32 yX3_leftSize cX3_leftSize 1 (some .int) 1 := ⟨(wt2 183 (by rfl) rfl), (wt2 163 (by rfl) rfl), (wt1 10 (by rfl) rfl), (wt2 164 (by rfl) rfl), by decide +kernel⟩
set_option maxRecDepth 20000 in
theorem kw_X3_35 : KWS RX3 35 yX3_rightSize cX3_rightSize 1 (some .int) 1 := ⟨(wt2 184 (by rfl) rfl), (wt2 166 (by rfl) rfl), (wt1 10 (by rfl) rfl), (wt2 167 (by rfl) rfl), by decide +kernel⟩
set_option maxRecDepth 20000 in
theorem kw_X3_38 : KWS RX3 38 yX3_stepsOfMore cX3_stepsOfMore 5 (some .int) 2 := ⟨(wt2 185 (by rfl) rfl), (wt2 186 (by rfl) rfl), (wt1 10 (by rfl) rfl), (wt2 187 (by rfl) rfl), by decide +kernel⟩
set_option maxRecDepth 20000 in
theorem kw_X7_159 : KWS RX7 159 yX3_depth cX3_depth 1 (some .int) 1 := ⟨(wt2 189 (by rfl) rfl), (wt2 145 (by rfl) rfl), (wt1 10 (by rfl) rfl), (wt2 146 (by rfl) rfl), by decide +kernel⟩
set_option maxRecDepth 20000 in
theorem kw_X7_162 : KWV RX7 162 RX2 yX2_tell_ cX2_tell_ 5 none 2 := ⟨(wt2 190 (by rfl) rfl), (wt2 113 (by rfl) rfl), (wt2 114 (by rfl) rfl), (wt1 3 (by rfl) rfl), (wt2 115 (by rfl) rfl), by decide +kernel⟩
set_option maxRecDepth 20000 in
theorem kw_L_60 : KWV RL 60 RX7 yX7_get cX7_get 3 (some .int) 2 := ⟨(wt2 191 (by rfl) rfl), (wt2 192 (by rfl) rfl), (wt2 193 (by rfl) rfl), (wt1 1 (by rfl) rfl), (wt2 194 (by rfl) rfl), by decide +kernel⟩
set_option maxRecDepth 20000 in
theorem kw_X7_165 : KWV RX7 165 RX7 yX7_isIndex cX7_isIndex 3 (some .boolean) 2 := ⟨(wt2 195 (by rfl) rfl), (wt2 197 (by rfl) rfl), (wt0 10 (by rfl) rfl), (wt1 1 (by rfl) rfl), (wt2 198 (by rfl) rfl), by decide +kernel⟩
set_option maxRecDepth 20000 in
theorem kw_X7_168 : KWV RX7 168 RX0 yX0_numberAt cX0_numberAt 5 (some .int) 2 := ⟨(wt2 199 (by rfl) rfl), (wt2 200 (by rfl) rfl), (wt2 201 (by rfl) rfl), (wt1 2 (by rfl) rfl), (wt2 202 (by rfl) rfl), by decide +kernel⟩
set_option maxRecDepth 20000 in
theorem kw_X0_64 : KWV RX0 64 RX0 yX0_numberOf cX0_numberOf 2 (some .int) 1 := ⟨(wt2 203 (by rfl) rfl), (wt2 204 (by rfl) rfl), (wt2 205 (by rfl) rfl), (wt1 2 (by rfl) rfl), (wt2 206 (by rfl) rfl), by decide +kernel⟩
set_option maxRecDepth 20000 in
theorem kw_L_64 : KWV RL 64 RX7 yX7_path cX7_path 3 (some .int) 2 := ⟨(wt2 207 (by rfl) rfl), (wt2 208 (by rfl) rfl), (wt2 209 (by rfl) rfl), (wt1 1 (by rfl) rfl), (wt2 210 (by rfl) rfl), by decide +kernel⟩
set_option maxRecDepth 20000 in
theorem kw_X7_171 : KWV RX7 171 RX2 yX2_tell cX2_tell 3 none 1 := ⟨(wt2 211 (by rfl) rfl), (wt2 117 (by rfl) rfl), (wt2 118 (by rfl) rfl), (wt1 3 (by rfl) rfl), (wt2 119 (by rfl) rfl), by decide +kernel⟩
set_option maxRecDepth 20000 in
theorem kw_X7_174 : KWS RX7 174 yX3_wayTo cX3_wayTo 3 (some .int) 1 := ⟨(wt2 212 (by rfl) rfl), (wt2 213 (by rfl) rfl), (wt1 10 (by rfl) rfl), (wt2 214 (by rfl) rfl), by decide +kernel⟩
set_option maxRecDepth 20000 in
theorem kw_L_68 : KWV RL 68 RX7 yX7_sets cX7_sets 5 (some .int) 4 := ⟨(wt2 215 (by rfl) rfl), (wt2 216 (by rfl) rfl), (wt2 217 (by rfl) rfl), (wt1 1 (by rfl) rfl), (wt2 218 (by rfl) rfl), by decide +kernel⟩
set_option maxRecDepth 20000 in
theorem kw_X7_177 : KWV RX7 177 RX7 yX7_readBoth cX7_readBoth 3 none 2 := ⟨(wt2 219 (by rfl) rfl), (wt2 221 (by rfl) rfl), (wt0 11 (by rfl) rfl), (wt1 1 (by rfl) rfl), (wt2 222 (by rfl) rfl), by decide +kernel⟩
set_option maxRecDepth 20000 in
theorem kw_X7_201 : KWV RX7 201 RX0 yX0_read cX0_read 5 none 3 := ⟨(wt2 223 (by rfl) rfl), (wt2 224 (by rfl) rfl), (wt2 225 (by rfl) rfl), (wt1 2 (by rfl) rfl), (wt2 226 (by rfl) rfl), by decide +kernel⟩
set_option maxRecDepth 20000 in
theorem kw_X7_181 : KWV RX7 181 RX7 yX7_markUnlike cX7_markUnlike 4 (some .int) 1 := ⟨(wt2 227 (by rfl) rfl), (wt2 229 (by rfl) rfl), (wt0 12 (by rfl) rfl), (wt1 1 (by rfl) rfl), (wt2 230 (by rfl) rfl), by decide +kernel⟩
set_option maxRecDepth 20000 in
theorem kw_X7_198 : KWV RX7 198 RX5 yX5_clear cX5_clear 1 none 0 := ⟨(wt2 231 (by rfl) rfl), (wt2 232 (by rfl) rfl), (wt2 233 (by rfl) rfl), (wt1 7 (by rfl) rfl), (wt2 234 (by rfl) rfl), by decide +kernel⟩
set_option maxRecDepth 20000 in
theorem kw_X5_19 : KWS RX5 19 yJ7_fill_53178 cJ7_fill_53178 4 none 2 := ⟨(wt2 235 (by rfl) rfl), (wt2 33 (by rfl) rfl), (wt1 9 (by rfl) rfl), (wt2 34 (by rfl) rfl), by decide +kernel⟩
set_option maxRecDepth 20000 in
theorem kw_X7_208 : KWV RX7 208 RX5 yX5_mark cX5_mark 4 none 1 := ⟨(wt2 236 (by rfl) rfl), (wt2 237 (by rfl) rfl), (wt2 238 (by rfl) rfl), (wt1 7 (by rfl) rfl), (wt2 239 (by rfl) rfl), by decide +kernel⟩
set_option maxRecDepth 20000 in
theorem kw_X5_25 : KWS RX5 25 yX3_above cX3_above 2 (some .int) 1 := ⟨(wt3 0 (by rfl) rfl), (wt3 1 (by rfl) rfl), (wt1 10 (by rfl) rfl), (wt3 2 (by rfl) rfl), by decide +kernel⟩
set_option maxRecDepth 20000 in
theorem kw_X7_184 : KWV RX7 184 RX7 yX7_renew cX7_renew 4 (some .int) 2 := ⟨(wt3 3 (by rfl) rfl), (wt3 5 (by rfl) rfl), (wt0 13 (by rfl) rfl), (wt1 1 (by rfl) rfl), (wt3 6 (by rfl) rfl), by decide +kernel⟩
set_option maxRecDepth 20000 in
theorem kw_X7_331 : KWV RX7 331 RX0 yX0_changed cX0_changed 6 (some .int) 4 := ⟨(wt3 7 (by rfl) rfl), (wt3 8 (by rfl) rfl), (wt3 9 (by rfl) rfl), (wt1 2 (by rfl) rfl), (wt3 10 (by rfl) rfl), by decide +kernel⟩
set_option maxRecDepth 20000 in
theorem kw_X0_82 : KWV RX0 82 RX5 yX5_has cX5_has 2 (some .boolean) 1 := ⟨(wt3 11 (by rfl) rfl), (wt3 12 (by rfl) rfl), (wt3 13 (by rfl) rfl), (wt1 7 (by rfl) rfl), (wt3 14 (by rfl) rfl), by decide +kernel⟩
set_option maxRecDepth 20000 in
theorem kw_L_72 : KWV RL 72 RX7 yX7_front cX7_front 4 (some .int) 3 := ⟨(wt3 15 (by rfl) rfl), (wt3 16 (by rfl) rfl), (wt3 17 (by rfl) rfl), (wt1 1 (by rfl) rfl), (wt3 18 (by rfl) rfl), by decide +kernel⟩
set_option maxRecDepth 20000 in
theorem kw_X7_187 : KWV RX7 187 RX7 yX7_putOne cX7_putOne 6 (some .int) 4 := ⟨(wt3 19 (by rfl) rfl), (wt3 21 (by rfl) rfl), (wt0 14 (by rfl) rfl), (wt1 1 (by rfl) rfl), (wt3 22 (by rfl) rfl), by decide +kernel⟩
set_option maxRecDepth 20000 in
theorem kw_X7_222 : KWV RX7 222 RX0 yX0_put cX0_put 5 (some .int) 4 := ⟨(wt3 23 (by rfl) rfl), (wt3 24 (by rfl) rfl), (wt3 25 (by rfl) rfl), (wt1 2 (by rfl) rfl), (wt3 26 (by rfl) rfl), by decide +kernel⟩
set_option maxRecDepth 20000 in
theorem kw_X0_99 : KWS RX0 99 yX0_fronted cX0_fronted 5 (some .int) 4 := ⟨(wt3 27 (by rfl) rfl), (wt3 28 (by rfl) rfl), (wt1 2 (by rfl) rfl), (wt3 29 (by rfl) rfl), by decide +kernel⟩
set_option maxRecDepth 20000 in
theorem kw_X0_136 : KWS RX0 136 yX3_rightSize cX3_rightSize 1 (some .int) 1 := ⟨(wt3 30 (by rfl) rfl), (wt2 166 (by rfl) rfl), (wt1 10 (by rfl) rfl), (wt2 167 (by rfl) rfl), by decide +kernel⟩
set_option maxRecDepth 20000 in
theorem kw_X0_103 : KWS RX0 103 yX0_backed cX0_backed 6 (some .int) 4 := ⟨(wt3 31 (by rfl) rfl), (wt3 32 (by rfl) rfl), (wt1 2 (by rfl) rfl), (wt3 33 (by rfl) rfl), by decide +kernel⟩
set_option maxRecDepth 20000 in
theorem kw_X0_126 : KWS RX0 126 yX3_leftSize cX3_leftSize 1 (some .int) 1 := ⟨(wt3 34 (by rfl) rfl), (wt2 163 (by rfl) rfl), (wt1 10 (by rfl) rfl), (wt2 164 (by rfl) rfl), by decide +kernel⟩
set_option maxRecDepth 20000 in
theorem kw_X0_106 : KWS RX0 106 yX0_pushed cX0_pushed 6 (some .int) 4 := ⟨(wt3 35 (by rfl) rfl), (wt3 36 (by rfl) rfl), (wt1 2 (by rfl) rfl), (wt3 37 (by rfl) rfl), by decide +kernel⟩
set_option maxRecDepth 20000 in
theorem kw_X0_93 : KWS RX0 93 yJ9_max_7cf53 cJ9_max_7cf53 2 (some .int) 2 := ⟨(wt3 38 (by rfl) rfl), (wt3 39 (by rfl) rfl), (wt1 12 (by rfl) rfl), (wt3 40 (by rfl) rfl), by decide +kernel⟩
set_option maxRecDepth 20000 in
theorem kw_X0_139 : KWS RX0 139 yJ9_min_7cf53 cJ9_min_7cf53 2 (some .int) 2 := ⟨(wt3 41 (by rfl) rfl), (wt3 42 (by rfl) rfl), (wt1 12 (by rfl) rfl), (wt3 43 (by rfl) rfl), by decide +kernel⟩
set_option maxRecDepth 20000 in
theorem kw_L_76 : KWV RL 76 RX7 yX7_back cX7_back 4 (some .int) 3 := ⟨(wt3 44 (by rfl) rfl), (wt3 45 (by rfl) rfl), (wt3 46 (by rfl) rfl), (wt1 1 (by rfl) rfl), (wt3 47 (by rfl) rfl), by decide +kernel⟩
set_option maxRecDepth 20000 in
theorem kw_L_80 : KWV RL 80 RX7 yX7_first cX7_first 3 (some .int) 2 := ⟨(wt3 48 (by rfl) rfl), (wt3 49 (by rfl) rfl), (wt3 50 (by rfl) rfl), (wt1 1 (by rfl) rfl), (wt3 51 (by rfl) rfl), by decide +kernel⟩
set_option maxRecDepth 20000 in
theorem kw_X7_191 : KWV RX7 191 RX7 yX7_takeOne cX7_takeOne 6 (some .int) 4 := ⟨(wt3 52 (by rfl) rfl), (wt3 54 (by rfl) rfl), (wt0 15 (by rfl) rfl), (wt1 1 (by rfl) rfl), (wt3 55 (by rfl) rfl), by decide +kernel⟩
set_option maxRecDepth 20000 in
theorem kw_X7_219 : KWV RX7 219 RX0 yX0_take cX0_take 4 (some .int) 3 := ⟨(wt3 56 (by rfl) rfl), (wt3 57 (by rfl) rfl), (wt3 58 (by rfl) rfl), (wt1 2 (by rfl) rfl), (wt3 59 (by rfl) rfl), by decide +kernel⟩
set_option maxRecDepth 20000 in
theorem kw_X0_113 : KWS RX0 113 yX0_firstGone cX0_firstGone 5 (some .int) 3 := ⟨(wt3 60 (by rfl) rfl), (wt3 61 (by rfl) rfl), (wt1 2 (by rfl) rfl), (wt3 62 (by rfl) rfl), by decide +kernel⟩
set_option maxRecDepth 20000 in
theorem kw_X0_117 : KWS RX0 117 yX0_lastGone cX0_lastGone 5 (some .int) 3 := ⟨(wt3 63 (by rfl) rfl), (wt3 64 (by rfl) rfl), (wt1 2 (by rfl) rfl), (wt3 65 (by rfl) rfl), by decide +kernel⟩
set_option maxRecDepth 20000 in
theorem kw_L_84 : KWV RL 84 RX7 yX7_last cX7_last 3 (some .int) 2 := ⟨(wt3 66 (by rfl) rfl), (wt3 67 (by rfl) rfl), (wt3 68 (by rfl) rfl), (wt1 1 (by rfl) rfl), (wt3 69 (by rfl) rfl), by decide +kernel⟩
set_option maxRecDepth 20000 in
theorem kw_L_88 : KWV RL 88 RX7 yX7_adds cX7_adds 7 (some .int) 5 := ⟨(wt3 70 (by rfl) rfl), (wt3 71 (by rfl) rfl), (wt3 72 (by rfl) rfl), (wt1 1 (by rfl) rfl), (wt3 73 (by rfl) rfl), by decide +kernel⟩
set_option maxRecDepth 20000 in
theorem kw_X7_194 : KWV RX7 194 RX7 yX7_isRange cX7_isRange 4 (some .boolean) 3 := ⟨(wt3 74 (by rfl) rfl), (wt3 76 (by rfl) rfl), (wt0 16 (by rfl) rfl), (wt1 1 (by rfl) rfl), (wt3 77 (by rfl) rfl), by decide +kernel⟩
set_option maxRecDepth 20000 in
theorem kw_X7_205 : KWS RX7 205 yX7_held cX7_held 1 (some .int) 1 := ⟨(wt3 78 (by rfl) rfl), (wt3 79 (by rfl) rfl), (wt1 1 (by rfl) rfl), (wt3 80 (by rfl) rfl), by decide +kernel⟩
set_option maxRecDepth 20000 in
theorem kw_X7_228 : KWS RX7 228 yJ9_min_7cf53 cJ9_min_7cf53 2 (some .int) 2 := ⟨(wt3 81 (by rfl) rfl), (wt3 42 (by rfl) rfl), (wt1 12 (by rfl) rfl), (wt3 43 (by rfl) rfl), by decide +kernel⟩
set_option maxRecDepth 20000 in
theorem kw_X7_286 : KWS RX7 286 yJ9_max_7cf53 cJ9_max_7cf53 2 (some .int) 2 := ⟨(wt3 82 (by rfl) rfl), (wt3 39 (by rfl) rfl), (wt1 12 (by rfl) rfl), (wt3 40 (by rfl) rfl), by decide +kernel⟩
set_option maxRecDepth 20000 in
theorem kw_L_93 : KWV RL 93 RX7 yX7_appends cX7_appends 6 (some .int) 3 := ⟨(wt3 83 (by rfl) rfl), (wt3 84 (by rfl) rfl), (wt3 85 (by rfl) rfl), (wt1 1 (by rfl) rfl), (wt3 86 (by rfl) rfl), by decide +kernel⟩
set_option maxRecDepth 20000 in
theorem kw_X7_212 : KWV RX7 212 RX0 yX0_putAll cX0_putAll 8 (some .int) 5 := ⟨(wt3 87 (by rfl) rfl), (wt3 88 (by rfl) rfl), (wt3 89 (by rfl) rfl), (wt1 2 (by rfl) rfl), (wt3 90 (by rfl) rfl), by decide +kernel⟩
set_option maxRecDepth 20000 in
theorem kw_X0_109 : KWV RX0 109 RX0 yX0_put cX0_put 5 (some .int) 4 := ⟨(wt3 91 (by rfl) rfl), (wt3 24 (by rfl) rfl), (wt3 25 (by rfl) rfl), (wt1 2 (by rfl) rfl), (wt3 26 (by rfl) rfl), by decide +kernel⟩
set_option maxRecDepth 20000 in
theorem kw_L_97 : KWV RL 97 RX7 yX7_turned cX7_turned 9 (some .int) 3 := ⟨(wt3 92 (by rfl) rfl), (wt3 93 (by rfl) rfl), (wt3 94 (by rfl) rfl), (wt1 1 (by rfl) rfl), (wt3 95 (by rfl) rfl), by decide +kernel⟩
set_option maxRecDepth 20000 in
theorem kw_X7_216 : KWV RX7 216 RX0 yX0_numberOf cX0_numberOf 2 (some .int) 1 := ⟨(wt3 96 (by rfl) rfl), (wt2 204 (by rfl) rfl), (wt2 205 (by rfl) rfl), (wt1 2 (by rfl) rfl), (wt2 206 (by rfl) rfl), by decide +kernel⟩
set_option maxRecDepth 20000 in
theorem kw_L_101 : KWV RL 101 RX7 yX7_reverses cX7_reverses 5 (some .int) 2 := ⟨(wt3 97 (by rfl) rfl), (wt3 98 (by rfl) rfl), (wt3 99 (by rfl) rfl), (wt1 1 (by rfl) rfl), (wt3 100 (by rfl) rfl), by decide +kernel⟩
set_option maxRecDepth 20000 in
theorem kw_L_105 : KWV RL 105 RX7 yX7_keeps cX7_keeps 5 (some .int) 3 := ⟨(wt3 101 (by rfl) rfl), (wt3 102 (by rfl) rfl), (wt3 103 (by rfl) rfl), (wt1 1 (by rfl) rfl), (wt3 104 (by rfl) rfl), by decide +kernel⟩
set_option maxRecDepth 20000 in
theorem kw_X7_225 : KWV RX7 225 RX0 yX0_takeMany cX0_takeMany 7 (some .int) 4 := ⟨(wt3 105 (by rfl) rfl), (wt3 106 (by rfl) rfl), (wt3 107 (by rfl) rfl), (wt1 2 (by rfl) rfl), (wt3 108 (by rfl) rfl), by decide +kernel⟩
set_option maxRecDepth 20000 in
theorem kw_X0_120 : KWV RX0 120 RX0 yX0_take cX0_take 4 (some .int) 3 := ⟨(wt3 109 (by rfl) rfl), (wt3 57 (by rfl) rfl), (wt3 58 (by rfl) rfl), (wt1 2 (by rfl) rfl), (wt3 59 (by rfl) rfl), by decide +kernel⟩
set_option maxRecDepth 20000 in
theorem kw_L_109 : KWV RL 109 RX7 yX7_skips cX7_skips 5 (some .int) 3 := ⟨(wt3 110 (by rfl) rfl), (wt3 111 (by rfl) rfl), (wt3 112 (by rfl) rfl), (wt1 1 (by rfl) rfl), (wt3 113 (by rfl) rfl), by decide +kernel⟩
set_option maxRecDepth 20000 in
theorem kw_L_113 : KWV RL 113 RX7 yX7_slips cX7_slips 7 (some .int) 4 := ⟨(wt3 114 (by rfl) rfl), (wt3 115 (by rfl) rfl), (wt3 116 (by rfl) rfl), (wt1 1 (by rfl) rfl), (wt3 117 (by rfl) rfl), by decide +kernel⟩
set_option maxRecDepth 20000 in
theorem kw_L_117 : KWV RL 117 RX7 yX7_swaps cX7_swaps 6 (some .int) 4 := ⟨(wt3 118 (by rfl) rfl), (wt3 119 (by rfl) rfl), (wt3 120 (by rfl) rfl), (wt1 1 (by rfl) rfl), (wt3 121 (by rfl) rfl), by decide +kernel⟩
set_option maxRecDepth 20000 in
theorem kw_L_121 : KWV RL 121 RX7 yX7_zips cX7_zips 7 (some .int) 4 := ⟨(wt3 122 (by rfl) rfl), (wt3 123 (by rfl) rfl), (wt3 124 (by rfl) rfl), (wt1 1 (by rfl) rfl), (wt3 125 (by rfl) rfl), by decide +kernel⟩
set_option maxRecDepth 20000 in
theorem kw_X7_233 : KWS RX7 233 yX7_joined cX7_joined 3 (some .int) 3 := ⟨(wt3 126 (by rfl) rfl), (wt3 127 (by rfl) rfl), (wt1 1 (by rfl) rfl), (wt3 128 (by rfl) rfl), by decide +kernel⟩
set_option maxRecDepth 20000 in
theorem kw_L_125 : KWV RL 125 RX7 yX7_parts cX7_parts 8 (some .int) 4 := ⟨(wt3 129 (by rfl) rfl), (wt3 130 (by rfl) rfl), (wt3 131 (by rfl) rfl), (wt1 1 (by rfl) rfl), (wt3 132 (by rfl) rfl), by decide +kernel⟩
set_option maxRecDepth 20000 in
theorem kw_L_129 : KWV RL 129 RX7 yX7_sorts cX7_sorts 6 (some .int) 2 := ⟨(wt3 133 (by rfl) rfl), (wt3 134 (by rfl) rfl), (wt3 135 (by rfl) rfl), (wt1 1 (by rfl) rfl), (wt3 136 (by rfl) rfl), by decide +kernel⟩
set_option maxRecDepth 20000 in
theorem kw_X7_236 : KWV RX7 236 RX7 yX7_sortInto cX7_sortInto 5 none 1 := ⟨(wt3 137 (by rfl) rfl), (wt3 139 (by rfl) rfl), (wt0 17 (by rfl) rfl), (wt1 1 (by rfl) rfl), (wt3 140 (by rfl) rfl), by decide +kernel⟩
set_option maxRecDepth 20000 in
theorem kw_X7_335 : KWS RX7 335 yJ7_fill_53178 cJ7_fill_53178 4 none 2 := ⟨(wt3 141 (by rfl) rfl), (wt2 33 (by rfl) rfl), (wt1 9 (by rfl) rfl), (wt2 34 (by rfl) rfl), by decide +kernel⟩
set_option maxRecDepth 20000 in
theorem kw_L_133 : KWV RL 133 RX7 yX7_merges cX7_merges 8 (some .int) 3 := ⟨(wt3 142 (by rfl) rfl), (wt3 143 (by rfl) rfl), (wt3 144 (by rfl) rfl), (wt1 1 (by rfl) rfl), (wt3 145 (by rfl) rfl), by decide +kernel⟩
set_option maxRecDepth 20000 in
theorem kw_L_137 : KWV RL 137 RX7 yX7_picks cX7_picks 7 (some .int) 4 := ⟨(wt3 146 (by rfl) rfl), (wt3 147 (by rfl) rfl), (wt3 148 (by rfl) rfl), (wt1 1 (by rfl) rfl), (wt3 149 (by rfl) rfl), by decide +kernel⟩
set_option maxRecDepth 20000 in
theorem kw_L_141 : KWV RL 141 RX7 yX7_mirrors cX7_mirrors 3 (some .int) 2 := ⟨(wt3 150 (by rfl) rfl), (wt3 151 (by rfl) rfl), (wt3 152 (by rfl) rfl), (wt1 1 (by rfl) rfl), (wt3 153 (by rfl) rfl), by decide +kernel⟩
set_option maxRecDepth 20000 in
theorem kw_X7_239 : KWV RX7 239 RX0 yX0_mirrored cX0_mirrored 4 (some .int) 2 := ⟨(wt3 154 (by rfl) rfl), (wt3 155 (by rfl) rfl), (wt3 156 (by rfl) rfl), (wt1 2 (by rfl) rfl), (wt3 157 (by rfl) rfl), by decide +kernel⟩
set_option maxRecDepth 20000 in
theorem kw_L_145 : KWV RL 145 RX7 yX7_heap cX7_heap 4 (some .int) 1 := ⟨(wt3 158 (by rfl) rfl), (wt3 159 (by rfl) rfl), (wt3 160 (by rfl) rfl), (wt1 1 (by rfl) rfl), (wt3 161 (by rfl) rfl), by decide +kernel⟩
set_option maxRecDepth 20000 in
theorem kw_X7_242 : KWS RX7 242 yX3_above cX3_above 2 (some .int) 1 := ⟨(wt3 162 (by rfl) rfl), (wt3 1 (by rfl) rfl), (wt1 10 (by rfl) rfl), (wt3 2 (by rfl) rfl), by decide +kernel⟩
set_option maxRecDepth 20000 in
theorem kw_L_149 : KWV RL 149 RX7 yX7_push cX7_push 4 (some .int) 3 := ⟨(wt3 163 (by rfl) rfl), (wt3 164 (by rfl) rfl), (wt3 165 (by rfl) rfl), (wt1 1 (by rfl) rfl), (wt3 166 (by rfl) rfl), by decide +kernel⟩
set_option maxRecDepth 20000 in
theorem kw_L_153 : KWV RL 153 RX7 yX7_pop cX7_pop 5 (some .int) 2 := ⟨(wt3 167 (by rfl) rfl), (wt3 168 (by rfl) rfl), (wt3 169 (by rfl) rfl), (wt1 1 (by rfl) rfl), (wt3 170 (by rfl) rfl), by decide +kernel⟩
set_option maxRecDepth 20000 in
theorem kw_X7_245 : KWV RX7 245 RX0 yX0_popped cX0_popped 6 (some .int) 2 := ⟨(wt3 171 (by rfl) rfl), (wt3 172 (by rfl) rfl), (wt3 173 (by rfl) rfl), (wt1 2 (by rfl) rfl), (wt3 174 (by rfl) rfl), by decide +kernel⟩
set_option maxRecDepth 20000 in
theorem kw_X0_123 : KWV RX0 123 RX0 yX0_farLeft cX0_farLeft 4 (some .int) 1 := ⟨(wt3 175 (by rfl) rfl), (wt3 177 (by rfl) rfl), (wt0 18 (by rfl) rfl), (wt1 2 (by rfl) rfl), (wt3 178 (by rfl) rfl), by decide +kernel⟩
set_option maxRecDepth 20000 in
theorem kw_X0_129 : KWS RX0 129 yX0_farLeftGone cX0_farLeftGone 4 (some .int) 3 := ⟨(wt3 179 (by rfl) rfl), (wt3 180 (by rfl) rfl), (wt1 2 (by rfl) rfl), (wt3 181 (by rfl) rfl), by decide +kernel⟩
set_option maxRecDepth 20000 in
theorem kw_X0_132 : KWS RX0 132 yX0_sifted cX0_sifted 8 (some .int) 5 := ⟨(wt3 182 (by rfl) rfl), (wt3 183 (by rfl) rfl), (wt1 2 (by rfl) rfl), (wt3 184 (by rfl) rfl), by decide +kernel⟩
set_option maxRecDepth 20000 in
theorem kw_L_157 : KWV RL 157 RX7 yX7_heaps cX7_heaps 4 (some .int) 2 := ⟨(wt3 185 (by rfl) rfl), (wt3 186 (by rfl) rfl), (wt3 187 (by rfl) rfl), (wt1 1 (by rfl) rfl), (wt3 188 (by rfl) rfl), by decide +kernel⟩
set_option maxRecDepth 20000 in
theorem kw_L_161 : KWV RL 161 RX7 yX7_numbers cX7_numbers 5 (some .int) 2 := ⟨(wt3 189 (by rfl) rfl), (wt3 190 (by rfl) rfl), (wt3 191 (by rfl) rfl), (wt1 1 (by rfl) rfl), (wt3 192 (by rfl) rfl), by decide +kernel⟩
set_option maxRecDepth 20000 in
theorem kw_X7_248 : KWV RX7 248 RX2 yX2_clear cX2_clear 1 none 0 := ⟨(wt3 193 (by rfl) rfl), (wt2 121 (by rfl) rfl), (wt2 122 (by rfl) rfl), (wt1 3 (by rfl) rfl), (wt2 123 (by rfl) rfl), by decide +kernel⟩
set_option maxRecDepth 20000 in
theorem kw_X7_249 : KWV RX7 249 RX2 yX2_add cX2_add 3 none 1 := ⟨(wt3 194 (by rfl) rfl), (wt2 125 (by rfl) rfl), (wt2 126 (by rfl) rfl), (wt1 3 (by rfl) rfl), (wt2 127 (by rfl) rfl), by decide +kernel⟩
set_option maxRecDepth 20000 in
theorem kw_L_165 : KWV RL 165 RX7 yX7_sum cX7_sum 8 (some .int) 3 := ⟨(wt3 195 (by rfl) rfl), (wt3 196 (by rfl) rfl), (wt3 197 (by rfl) rfl), (wt1 1 (by rfl) rfl), (wt3 198 (by rfl) rfl), by decide +kernel⟩
set_option maxRecDepth 20000 in
theorem kw_L_169 : KWV RL 169 RX7 yX7_finds cX7_finds 7 (some .int) 2 := ⟨(wt3 200 (by rfl) rfl), (wt3 201 (by rfl) rfl), (wt3 202 (by rfl) rfl), (wt1 1 (by rfl) rfl), (wt3 203 (by rfl) rfl), by decide +kernel⟩
set_option maxRecDepth 20000 in
theorem kw_L_173 : KWV RL 173 RX7 yX7_same cX7_same 6 (some .int) 2 := ⟨(wt3 204 (by rfl) rfl), (wt3 205 (by rfl) rfl), (wt3 206 (by rfl) rfl), (wt1 1 (by rfl) rfl), (wt3 207 (by rfl) rfl), by decide +kernel⟩
set_option maxRecDepth 20000 in
theorem kw_X7_253 : KWV RX7 253 RX7 yX7_nodesInBoth cX7_nodesInBoth 5 (some .int) 2 := ⟨(wt3 208 (by rfl) rfl), (wt3 210 (by rfl) rfl), (wt0 19 (by rfl) rfl), (wt1 1 (by rfl) rfl), (wt3 211 (by rfl) rfl), by decide +kernel⟩
set_option maxRecDepth 20000 in
theorem kw_X7_277 : KWV RX7 277 RX0 yX0_forget cX0_forget 1 none 0 := ⟨(wt3 212 (by rfl) rfl), (wt3 213 (by rfl) rfl), (wt3 214 (by rfl) rfl), (wt1 2 (by rfl) rfl), (wt3 215 (by rfl) rfl), by decide +kernel⟩
set_option maxRecDepth 20000 in
theorem kw_X7_297 : KWV RX7 297 RX7 yX7_seeAll cX7_seeAll 4 none 2 := ⟨(wt3 216 (by rfl) rfl), (wt3 218 (by rfl) rfl), (wt0 20 (by rfl) rfl), (wt1 1 (by rfl) rfl), (wt3 219 (by rfl) rfl), by decide +kernel⟩
set_option maxRecDepth 20000 in
theorem kw_X7_280 : KWV RX7 280 RX0 yX0_spread cX0_spread 5 none 2 := ⟨(wt3 220 (by rfl) rfl), (wt2 40 (by rfl) rfl), (wt2 41 (by rfl) rfl), (wt1 2 (by rfl) rfl), (wt2 42 (by rfl) rfl), by decide +kernel⟩
set_option maxRecDepth 20000 in
theorem kw_X7_289 : KWV RX7 289 RX0 yX0_seeAt cX0_seeAt 5 (some .int) 2 := ⟨(wt3 221 (by rfl) rfl), (wt3 222 (by rfl) rfl), (wt3 223 (by rfl) rfl), (wt1 2 (by rfl) rfl), (wt3 224 (by rfl) rfl), by decide +kernel⟩
set_option maxRecDepth 20000 in
theorem kw_X0_90 : KWV RX0 90 RX0 yX0_seenOf cX0_seenOf 2 (some .int) 1 := ⟨(wt3 225 (by rfl) rfl), (wt3 227 (by rfl) rfl), (wt0 21 (by rfl) rfl), (wt1 2 (by rfl) rfl), (wt3 228 (by rfl) rfl), by decide +kernel⟩
set_option maxRecDepth 20000 in
theorem kw_L_177 : KWV RL 177 RX7 yX7_search cX7_search 7 (some .int) 2 := ⟨(wt3 229 (by rfl) rfl), (wt3 230 (by rfl) rfl), (wt3 231 (by rfl) rfl), (wt1 1 (by rfl) rfl), (wt3 232 (by rfl) rfl), by decide +kernel⟩
set_option maxRecDepth 20000 in
theorem kw_L_181 : KWV RL 181 RX7 yX7_reaches cX7_reaches 5 (some .int) 2 := ⟨(wt3 233 (by rfl) rfl), (wt3 234 (by rfl) rfl), (wt3 235 (by rfl) rfl), (wt1 1 (by rfl) rfl), (wt3 236 (by rfl) rfl), by decide +kernel⟩
set_option maxRecDepth 20000 in
theorem kw_L_185 : KWV RL 185 RX7 yX7_occurs cX7_occurs 7 (some .int) 2 := ⟨(wt3 237 (by rfl) rfl), (wt3 238 (by rfl) rfl), (wt3 239 (by rfl) rfl), (wt1 1 (by rfl) rfl), (wt4 0 (by rfl) rfl), by decide +kernel⟩
set_option maxRecDepth 20000 in
theorem kw_X7_256 : KWV RX7 256 RX7 yX7_standsAt cX7_standsAt 4 (some .boolean) 2 := ⟨(wt4 1 (by rfl) rfl), (wt4 3 (by rfl) rfl), (wt0 22 (by rfl) rfl), (wt1 1 (by rfl) rfl), (wt4 4 (by rfl) rfl), by decide +kernel⟩
set_option maxRecDepth 20000 in
theorem kw_L_189 : KWV RL 189 RX7 yX7_differs cX7_differs 3 (some .int) 2 := ⟨(wt4 5 (by rfl) rfl), (wt4 6 (by rfl) rfl), (wt4 7 (by rfl) rfl), (wt1 1 (by rfl) rfl), (wt4 8 (by rfl) rfl), by decide +kernel⟩
set_option maxRecDepth 20000 in
theorem kw_L_193 : KWV RL 193 RX7 yX7_written cX7_written 3 (some .int) 2 := ⟨(wt4 9 (by rfl) rfl), (wt4 10 (by rfl) rfl), (wt4 11 (by rfl) rfl), (wt1 1 (by rfl) rfl), (wt4 12 (by rfl) rfl), by decide +kernel⟩
set_option maxRecDepth 20000 in
theorem kw_X7_262 : KWV RX7 262 RX6 yX6_begin cX6_begin 2 none 1 := ⟨(wt4 13 (by rfl) rfl), (wt4 14 (by rfl) rfl), (wt4 15 (by rfl) rfl), (wt1 6 (by rfl) rfl), (wt4 16 (by rfl) rfl), by decide +kernel⟩
set_option maxRecDepth 20000 in
theorem kw_X6_21 : KWV RX6 21 RX6 yX6_put cX6_put 2 none 1 := ⟨(wt4 20 (by rfl) rfl), (wt4 22 (by rfl) rfl), (wt0 23 (by rfl) rfl), (wt1 6 (by rfl) rfl), (wt4 23 (by rfl) rfl), by decide +kernel⟩
set_option maxRecDepth 20000 in
theorem kw_X6_31 : KWV RX6 31 RX6 yX6_putNumber cX6_putNumber 3 none 1 := ⟨(wt4 24 (by rfl) rfl), (wt4 26 (by rfl) rfl), (wt0 24 (by rfl) rfl), (wt1 6 (by rfl) rfl), (wt4 27 (by rfl) rfl), by decide +kernel⟩
set_option maxRecDepth 20000 in
theorem kw_X6_25 : KWS RX6 25 yJ9_abs_0f7a4 cJ9_abs_0f7a4 1 (some .int) 1 := ⟨(wt4 28 (by rfl) rfl), (wt4 29 (by rfl) rfl), (wt1 12 (by rfl) rfl), (wt4 30 (by rfl) rfl), by decide +kernel⟩
set_option maxRecDepth 20000 in
theorem kw_X6_34 : KWS RX6 34 yX6_writeTree cX6_writeTree 5 none 5 := ⟨(wt4 31 (by rfl) rfl), (wt4 18 (by rfl) rfl), (wt1 6 (by rfl) rfl), (wt4 19 (by rfl) rfl), by decide +kernel⟩
set_option maxRecDepth 20000 in
theorem kw_L_197 : KWV RL 197 RX7 yX7_costs cX7_costs 5 (some .int) 2 := ⟨(wt4 32 (by rfl) rfl), (wt4 33 (by rfl) rfl), (wt4 34 (by rfl) rfl), (wt1 1 (by rfl) rfl), (wt4 35 (by rfl) rfl), by decide +kernel⟩
set_option maxRecDepth 20000 in
theorem kw_X7_274 : KWS RX7 274 yX3_cost cX3_cost 2 (some .int) 2 := ⟨(wt4 36 (by rfl) rfl), (wt4 37 (by rfl) rfl), (wt1 10 (by rfl) rfl), (wt4 38 (by rfl) rfl), by decide +kernel⟩
set_option maxRecDepth 20000 in
theorem kw_X3_20 : KWS RX3 20 yX3_costAhead cX3_costAhead 3 (some .int) 1 := ⟨(wt4 39 (by rfl) rfl), (wt4 40 (by rfl) rfl), (wt1 10 (by rfl) rfl), (wt4 41 (by rfl) rfl), by decide +kernel⟩
set_option maxRecDepth 20000 in
theorem kw_X3_23 : KWS RX3 23 yX3_depth cX3_depth 1 (some .int) 1 := ⟨(wt4 42 (by rfl) rfl), (wt2 145 (by rfl) rfl), (wt1 10 (by rfl) rfl), (wt2 146 (by rfl) rfl), by decide +kernel⟩
set_option maxRecDepth 20000 in
theorem kw_X3_26 : KWS RX3 26 yX3_costFirst cX3_costFirst 3 (some .int) 1 := ⟨(wt4 43 (by rfl) rfl), (wt4 44 (by rfl) rfl), (wt1 10 (by rfl) rfl), (wt4 45 (by rfl) rfl), by decide +kernel⟩
set_option maxRecDepth 20000 in
theorem kw_X3_29 : KWS RX3 29 yX3_steps cX3_steps 3 (some .int) 1 := ⟨(wt4 46 (by rfl) rfl), (wt2 181 (by rfl) rfl), (wt1 10 (by rfl) rfl), (wt2 182 (by rfl) rfl), by decide +kernel⟩
set_option maxRecDepth 20000 in
theorem kw_L_201 : KWV RL 201 RX7 yX7_twins cX7_twins 7 (some .int) 1 := ⟨(wt4 47 (by rfl) rfl), (wt4 48 (by rfl) rfl), (wt4 49 (by rfl) rfl), (wt1 1 (by rfl) rfl), (wt4 50 (by rfl) rfl), by decide +kernel⟩
set_option maxRecDepth 20000 in
theorem kw_X7_283 : KWV RX7 283 RX0 yX0_countAt cX0_countAt 4 (some .int) 1 := ⟨(wt4 51 (by rfl) rfl), (wt4 52 (by rfl) rfl), (wt4 53 (by rfl) rfl), (wt1 2 (by rfl) rfl), (wt4 54 (by rfl) rfl), by decide +kernel⟩
set_option maxRecDepth 20000 in
theorem kw_L_205 : KWV RL 205 RX7 yX7_nodes cX7_nodes 7 (some .int) 0 := ⟨(wt4 55 (by rfl) rfl), (wt4 56 (by rfl) rfl), (wt4 57 (by rfl) rfl), (wt1 1 (by rfl) rfl), (wt4 58 (by rfl) rfl), by decide +kernel⟩
set_option maxRecDepth 20000 in
theorem kw_X7_292 : KWS RX7 292 yJ6_bitCount_0f7a4 cJ6_bitCount_0f7a4 1 (some .int) 1 := ⟨(wt4 59 (by rfl) rfl), (wt2 149 (by rfl) rfl), (wt1 11 (by rfl) rfl), (wt2 150 (by rfl) rfl), by decide +kernel⟩
set_option maxRecDepth 20000 in
theorem kw_L_210 : KWV RL 210 RX7 yX7_own cX7_own 6 (some .int) 1 := ⟨(wt4 60 (by rfl) rfl), (wt4 61 (by rfl) rfl), (wt4 62 (by rfl) rfl), (wt1 1 (by rfl) rfl), (wt4 63 (by rfl) rfl), by decide +kernel⟩
set_option maxRecDepth 20000 in
theorem kw_L_214 : KWV RL 214 RX7 yX7_level cX7_level 6 (some .int) 2 := ⟨(wt4 64 (by rfl) rfl), (wt4 65 (by rfl) rfl), (wt4 66 (by rfl) rfl), (wt1 1 (by rfl) rfl), (wt4 67 (by rfl) rfl), by decide +kernel⟩
set_option maxRecDepth 20000 in
theorem kw_L_220 : KWV RL 220 RX7 yX7_ways cX7_ways 5 (some .int) 2 := ⟨(wt4 68 (by rfl) rfl), (wt4 69 (by rfl) rfl), (wt4 70 (by rfl) rfl), (wt1 1 (by rfl) rfl), (wt4 71 (by rfl) rfl), by decide +kernel⟩
set_option maxRecDepth 20000 in
theorem kw_L_225 : KWV RL 225 RX7 yX7_count cX7_count 2 (some .int) 1 := ⟨(wt4 72 (by rfl) rfl), (wt4 73 (by rfl) rfl), (wt4 74 (by rfl) rfl), (wt1 1 (by rfl) rfl), (wt4 75 (by rfl) rfl), by decide +kernel⟩
set_option maxRecDepth 20000 in
theorem kw_X7_300 : KWV RX7 300 RX7 yX7_placesInUse cX7_placesInUse 3 (some .int) 0 := ⟨(wt4 76 (by rfl) rfl), (wt4 78 (by rfl) rfl), (wt0 25 (by rfl) rfl), (wt1 1 (by rfl) rfl), (wt4 79 (by rfl) rfl), by decide +kernel⟩
set_option maxRecDepth 20000 in
theorem kw_L_7 : KWV RL 7 RX7 yX7_row cX7_row 2 (some .long) 1 := ⟨(wt4 84 (by rfl) rfl), (wt4 85 (by rfl) rfl), (wt4 86 (by rfl) rfl), (wt1 1 (by rfl) rfl), (wt4 87 (by rfl) rfl), by decide +kernel⟩
set_option maxRecDepth 20000 in
theorem kw_L_235 : KWV RL 235 RX8 yX8_thrown cX8_thrown 1 (some .int) 0 := ⟨(wt5 12 (by rfl) rfl), (wt5 13 (by rfl) rfl), (wt5 14 (by rfl) rfl), (wt1 8 (by rfl) rfl), (wt5 15 (by rfl) rfl), by decide +kernel⟩
set_option maxRecDepth 20000 in
theorem kw_L_23 : KWV RL 23 RX8 yX8_sign cX8_sign 3 (some .int) 1 := ⟨(wt5 16 (by rfl) rfl), (wt5 17 (by rfl) rfl), (wt5 18 (by rfl) rfl), (wt1 8 (by rfl) rfl), (wt5 19 (by rfl) rfl), by decide +kernel⟩
set_option maxRecDepth 20000 in
theorem kw_L_28 : KWV RL 28 RX8 yX8_end cX8_end 2 (some .boolean) 1 := ⟨(wt5 20 (by rfl) rfl), (wt5 21 (by rfl) rfl), (wt5 22 (by rfl) rfl), (wt1 8 (by rfl) rfl), (wt5 23 (by rfl) rfl), by decide +kernel⟩
set_option maxRecDepth 20000 in
theorem kw_X8_65 : KWS RX8 65 yX8_in cX8_in 6 (some .boolean) 3 := ⟨(wt5 24 (by rfl) rfl), (wt5 25 (by rfl) rfl), (wt1 8 (by rfl) rfl), (wt5 26 (by rfl) rfl), by decide +kernel⟩
set_option maxRecDepth 20000 in
theorem kw_L_32 : KWV RL 32 RX8 yX8_tells cX8_tells 2 (some .int) 1 := ⟨(wt5 27 (by rfl) rfl), (wt5 28 (by rfl) rfl), (wt5 29 (by rfl) rfl), (wt1 8 (by rfl) rfl), (wt5 30 (by rfl) rfl), by decide +kernel⟩
set_option maxRecDepth 20000 in
theorem kw_X8_128 : KWV RX8 128 RX8 yX8_begin cX8_begin 1 none 0 := ⟨(wt5 31 (by rfl) rfl), (wt5 33 (by rfl) rfl), (wt0 27 (by rfl) rfl), (wt1 8 (by rfl) rfl), (wt5 34 (by rfl) rfl), by decide +kernel⟩
set_option maxRecDepth 20000 in
theorem kw_X8_131 : KWV RX8 131 RX8 yX8_readsRow cX8_readsRow 1 (some .boolean) 0 := ⟨(wt5 35 (by rfl) rfl), (wt5 37 (by rfl) rfl), (wt0 28 (by rfl) rfl), (wt1 8 (by rfl) rfl), (wt5 38 (by rfl) rfl), by decide +kernel⟩
set_option maxRecDepth 20000 in
theorem kw_X8_124 : KWV RX8 124 RX8 yX8_readsNumber cX8_readsNumber 4 (some .boolean) 0 := ⟨(wt5 39 (by rfl) rfl), (wt5 41 (by rfl) rfl), (wt0 29 (by rfl) rfl), (wt1 8 (by rfl) rfl), (wt5 42 (by rfl) rfl), by decide +kernel⟩
set_option maxRecDepth 20000 in
theorem kw_X8_113 : KWV RX8 113 RX8 yX8_here cX8_here 1 (some .int) 0 := ⟨(wt5 43 (by rfl) rfl), (wt5 45 (by rfl) rfl), (wt0 30 (by rfl) rfl), (wt1 8 (by rfl) rfl), (wt5 46 (by rfl) rfl), by decide +kernel⟩
set_option maxRecDepth 20000 in
theorem kw_X8_134 : KWS RX8 134 yX8_isPlace cX8_isPlace 1 (some .boolean) 1 := ⟨(wt5 49 (by rfl) rfl), (wt5 50 (by rfl) rfl), (wt1 8 (by rfl) rfl), (wt5 51 (by rfl) rfl), by decide +kernel⟩
set_option maxRecDepth 20000 in
theorem kw_X8_138 : KWV RX8 138 RX8 yX8_built cX8_built 2 none 0 := ⟨(wt5 53 (by rfl) rfl), (wt5 55 (by rfl) rfl), (wt0 31 (by rfl) rfl), (wt1 8 (by rfl) rfl), (wt5 56 (by rfl) rfl), by decide +kernel⟩
set_option maxRecDepth 20000 in
theorem kw_X8_99 : KWV RX8 99 RX8 yX8_number cX8_number 3 (some .int) 2 := ⟨(wt5 57 (by rfl) rfl), (wt5 59 (by rfl) rfl), (wt0 32 (by rfl) rfl), (wt1 8 (by rfl) rfl), (wt5 60 (by rfl) rfl), by decide +kernel⟩
set_option maxRecDepth 20000 in
theorem kw_X8_103 : KWV RX8 103 RX8 yX8_makes cX8_makes 4 none 3 := ⟨(wt5 61 (by rfl) rfl), (wt5 63 (by rfl) rfl), (wt0 33 (by rfl) rfl), (wt1 8 (by rfl) rfl), (wt5 64 (by rfl) rfl), by decide +kernel⟩
set_option maxRecDepth 20000 in
theorem kw_X8_82 : KWV RX8 82 RX8 yX8_takes cX8_takes 3 none 2 := ⟨(wt5 65 (by rfl) rfl), (wt5 67 (by rfl) rfl), (wt0 34 (by rfl) rfl), (wt1 8 (by rfl) rfl), (wt5 68 (by rfl) rfl), by decide +kernel⟩
set_option maxRecDepth 20000 in
theorem kw_X8_78 : KWV RX8 78 RX8 yX8_shares cX8_shares 9 none 7 := ⟨(wt5 69 (by rfl) rfl), (wt5 71 (by rfl) rfl), (wt0 35 (by rfl) rfl), (wt1 8 (by rfl) rfl), (wt5 72 (by rfl) rfl), by decide +kernel⟩
set_option maxRecDepth 20000 in
theorem kw_L_36 : KWV RL 36 RX8 yX8_grows cX8_grows 5 (some .int) 1 := ⟨(wt5 73 (by rfl) rfl), (wt5 74 (by rfl) rfl), (wt5 75 (by rfl) rfl), (wt1 8 (by rfl) rfl), (wt5 76 (by rfl) rfl), by decide +kernel⟩
set_option maxRecDepth 20000 in
theorem kw_X8_144 : KWV RX8 144 RX8 yX8_readsTree cX8_readsTree 4 (some .boolean) 0 := ⟨(wt5 77 (by rfl) rfl), (wt5 79 (by rfl) rfl), (wt0 36 (by rfl) rfl), (wt1 8 (by rfl) rfl), (wt5 80 (by rfl) rfl), by decide +kernel⟩
set_option maxRecDepth 20000 in
theorem kw_X8_147 : KWV RX8 147 RX8 yX8_unevenTold cX8_unevenTold 5 (some .int) 0 := ⟨(wt5 81 (by rfl) rfl), (wt5 83 (by rfl) rfl), (wt0 37 (by rfl) rfl), (wt1 8 (by rfl) rfl), (wt5 84 (by rfl) rfl), by decide +kernel⟩
set_option maxRecDepth 20000 in
theorem kw_X8_150 : KWV RX8 150 RX8 yX8_tell cX8_tell 3 none 1 := ⟨(wt5 85 (by rfl) rfl), (wt5 87 (by rfl) rfl), (wt0 38 (by rfl) rfl), (wt1 8 (by rfl) rfl), (wt5 88 (by rfl) rfl), by decide +kernel⟩
set_option maxRecDepth 20000 in
theorem kw_L_41 : KWV RL 41 RX8 yX8_fills cX8_fills 4 (some .int) 3 := ⟨(wt5 89 (by rfl) rfl), (wt5 90 (by rfl) rfl), (wt5 91 (by rfl) rfl), (wt1 8 (by rfl) rfl), (wt5 92 (by rfl) rfl), by decide +kernel⟩
set_option maxRecDepth 20000 in
theorem kw_X8_163 : KWS RX8 163 yX8_isNumber cX8_isNumber 1 (some .boolean) 1 := ⟨(wt5 94 (by rfl) rfl), (wt5 95 (by rfl) rfl), (wt1 8 (by rfl) rfl), (wt5 96 (by rfl) rfl), by decide +kernel⟩
set_option maxRecDepth 20000 in
theorem kw_X8_166 : KWV RX8 166 RX8 yX8_begins cX8_begins 1 none 0 := ⟨(wt5 99 (by rfl) rfl), (wt5 101 (by rfl) rfl), (wt0 39 (by rfl) rfl), (wt1 8 (by rfl) rfl), (wt5 102 (by rfl) rfl), by decide +kernel⟩
set_option maxRecDepth 20000 in
theorem kw_X8_154 : KWV RX8 154 RX8 yX8_fillsCouple cX8_fillsCouple 4 none 2 := ⟨(wt5 103 (by rfl) rfl), (wt5 105 (by rfl) rfl), (wt0 40 (by rfl) rfl), (wt1 8 (by rfl) rfl), (wt5 106 (by rfl) rfl), by decide +kernel⟩
set_option maxRecDepth 20000 in
theorem kw_X8_157 : KWV RX8 157 RX8 yX8_joins cX8_joins 5 none 4 := ⟨(wt5 107 (by rfl) rfl), (wt5 109 (by rfl) rfl), (wt0 41 (by rfl) rfl), (wt1 8 (by rfl) rfl), (wt5 110 (by rfl) rfl), by decide +kernel⟩
set_option maxRecDepth 20000 in
theorem kw_L_46 : KWV RL 46 RX8 yX8_copies cX8_copies 3 (some .int) 2 := ⟨(wt5 111 (by rfl) rfl), (wt5 112 (by rfl) rfl), (wt5 113 (by rfl) rfl), (wt1 8 (by rfl) rfl), (wt5 114 (by rfl) rfl), by decide +kernel⟩
set_option maxRecDepth 20000 in
theorem kw_L_50 : KWV RL 50 RX8 yX8_sides cX8_sides 5 (some .int) 3 := ⟨(wt5 115 (by rfl) rfl), (wt5 116 (by rfl) rfl), (wt5 117 (by rfl) rfl), (wt1 8 (by rfl) rfl), (wt5 118 (by rfl) rfl), by decide +kernel⟩
set_option maxRecDepth 20000 in
theorem kw_X8_169 : KWS RX8 169 yX8_leftSize cX8_leftSize 1 (some .int) 1 := ⟨(wt5 119 (by rfl) rfl), (wt5 120 (by rfl) rfl), (wt1 8 (by rfl) rfl), (wt5 121 (by rfl) rfl), by decide +kernel⟩
set_option maxRecDepth 20000 in
theorem kw_X8_173 : KWS RX8 173 yX8_rightSize cX8_rightSize 1 (some .int) 1 := ⟨(wt5 122 (by rfl) rfl), (wt5 123 (by rfl) rfl), (wt1 8 (by rfl) rfl), (wt5 124 (by rfl) rfl), by decide +kernel⟩
set_option maxRecDepth 20000 in
theorem kw_X8_176 : KWV RX8 176 RX8 yX8_asks cX8_asks 2 none 1 := ⟨(wt5 125 (by rfl) rfl), (wt5 127 (by rfl) rfl), (wt0 42 (by rfl) rfl), (wt1 8 (by rfl) rfl), (wt5 128 (by rfl) rfl), by decide +kernel⟩
set_option maxRecDepth 20000 in
theorem kw_L_55 : KWV RL 55 RX8 yX8_roots cX8_roots 5 (some .int) 4 := ⟨(wt5 129 (by rfl) rfl), (wt5 130 (by rfl) rfl), (wt5 131 (by rfl) rfl), (wt1 8 (by rfl) rfl), (wt5 132 (by rfl) rfl), by decide +kernel⟩
set_option maxRecDepth 20000 in
theorem kw_L_59 : KWV RL 59 RX8 yX8_size cX8_size 2 (some .int) 1 := ⟨(wt5 133 (by rfl) rfl), (wt5 134 (by rfl) rfl), (wt5 135 (by rfl) rfl), (wt1 8 (by rfl) rfl), (wt5 136 (by rfl) rfl), by decide +kernel⟩
set_option maxRecDepth 20000 in
theorem kw_X8_185 : KWV RX8 185 RX8 yX8_counts cX8_counts 2 none 1 := ⟨(wt5 137 (by rfl) rfl), (wt5 139 (by rfl) rfl), (wt0 43 (by rfl) rfl), (wt1 8 (by rfl) rfl), (wt5 140 (by rfl) rfl), by decide +kernel⟩
set_option maxRecDepth 20000 in
theorem kw_X8_182 : KWV RX8 182 RX8 yX8_countsMore cX8_countsMore 3 none 2 := ⟨(wt5 141 (by rfl) rfl), (wt5 143 (by rfl) rfl), (wt0 44 (by rfl) rfl), (wt1 8 (by rfl) rfl), (wt5 144 (by rfl) rfl), by decide +kernel⟩
set_option maxRecDepth 20000 in
theorem kw_X8_188 : KWS RX8 188 yX8_deepest cX8_deepest 3 (some .int) 1 := ⟨(wt5 145 (by rfl) rfl), (wt5 146 (by rfl) rfl), (wt1 8 (by rfl) rfl), (wt5 147 (by rfl) rfl), by decide +kernel⟩
set_option maxRecDepth 20000 in
theorem kw_L_63 : KWV RL 63 RX8 yX8_get cX8_get 3 (some .int) 2 := ⟨(wt5 148 (by rfl) rfl), (wt5 149 (by rfl) rfl), (wt5 150 (by rfl) rfl), (wt1 8 (by rfl) rfl), (wt5 151 (by rfl) rfl), by decide +kernel⟩
set_option maxRecDepth 20000 in
theorem kw_X8_191 : KWV RX8 191 RX8 yX8_isIndex cX8_isIndex 3 (some .boolean) 2 := ⟨(wt5 152 (by rfl) rfl), (wt5 154 (by rfl) rfl), (wt0 45 (by rfl) rfl), (wt1 8 (by rfl) rfl), (wt5 155 (by rfl) rfl), by decide +kernel⟩
set_option maxRecDepth 20000 in
theorem kw_L_67 : KWV RL 67 RX8 yX8_path cX8_path 3 (some .int) 2 := ⟨(wt5 156 (by rfl) rfl), (wt5 157 (by rfl) rfl), (wt5 158 (by rfl) rfl), (wt1 8 (by rfl) rfl), (wt5 159 (by rfl) rfl), by decide +kernel⟩
set_option maxRecDepth 20000 in
theorem kw_X8_95 : KWV RX8 95 RX8 yX8_laysWay cX8_laysWay 6 none 1 := ⟨(wt5 160 (by rfl) rfl), (wt5 162 (by rfl) rfl), (wt0 46 (by rfl) rfl), (wt1 8 (by rfl) rfl), (wt5 163 (by rfl) rfl), by decide +kernel⟩
set_option maxRecDepth 20000 in
theorem kw_L_71 : KWV RL 71 RX8 yX8_sets cX8_sets 5 (some .int) 4 := ⟨(wt5 164 (by rfl) rfl), (wt5 165 (by rfl) rfl), (wt5 166 (by rfl) rfl), (wt1 8 (by rfl) rfl), (wt5 167 (by rfl) rfl), by decide +kernel⟩
set_option maxRecDepth 20000 in
theorem kw_X8_195 : KWV RX8 195 RX8 yX8_clearsNew cX8_clearsNew 2 none 0 := ⟨(wt5 168 (by rfl) rfl), (wt5 170 (by rfl) rfl), (wt0 47 (by rfl) rfl), (wt1 8 (by rfl) rfl), (wt5 171 (by rfl) rfl), by decide +kernel⟩
set_option maxRecDepth 20000 in
theorem kw_X8_198 : KWV RX8 198 RX8 yX8_marks cX8_marks 4 none 2 := ⟨(wt5 172 (by rfl) rfl), (wt5 174 (by rfl) rfl), (wt0 48 (by rfl) rfl), (wt1 8 (by rfl) rfl), (wt5 175 (by rfl) rfl), by decide +kernel⟩
set_option maxRecDepth 20000 in
theorem kw_X8_202 : KWV RX8 202 RX8 yX8_renews cX8_renews 2 none 0 := ⟨(wt5 176 (by rfl) rfl), (wt5 178 (by rfl) rfl), (wt0 49 (by rfl) rfl), (wt1 8 (by rfl) rfl), (wt5 179 (by rfl) rfl), by decide +kernel⟩
set_option maxRecDepth 20000 in
theorem kw_X8_205 : KWV RX8 205 RX8 yX8_ends cX8_ends 2 (some .int) 1 := ⟨(wt5 180 (by rfl) rfl), (wt5 182 (by rfl) rfl), (wt0 50 (by rfl) rfl), (wt1 8 (by rfl) rfl), (wt5 183 (by rfl) rfl), by decide +kernel⟩
set_option maxRecDepth 20000 in
theorem kw_L_75 : KWV RL 75 RX8 yX8_front cX8_front 4 (some .int) 3 := ⟨(wt5 184 (by rfl) rfl), (wt5 185 (by rfl) rfl), (wt5 186 (by rfl) rfl), (wt1 8 (by rfl) rfl), (wt5 187 (by rfl) rfl), by decide +kernel⟩
set_option maxRecDepth 20000 in
theorem kw_X8_208 : KWV RX8 208 RX8 yX8_fronts cX8_fronts 7 none 6 := ⟨(wt5 188 (by rfl) rfl), (wt5 190 (by rfl) rfl), (wt0 51 (by rfl) rfl), (wt1 8 (by rfl) rfl), (wt5 191 (by rfl) rfl), by decide +kernel⟩
set_option maxRecDepth 20000 in
theorem kw_L_79 : KWV RL 79 RX8 yX8_back cX8_back 4 (some .int) 3 := ⟨(wt5 192 (by rfl) rfl), (wt5 193 (by rfl) rfl), (wt5 194 (by rfl) rfl), (wt1 8 (by rfl) rfl), (wt5 195 (by rfl) rfl), by decide +kernel⟩
set_option maxRecDepth 20000 in
theorem kw_X8_212 : KWV RX8 212 RX8 yX8_backs cX8_backs 2 none 1 := ⟨(wt5 196 (by rfl) rfl), (wt5 198 (by rfl) rfl), (wt0 52 (by rfl) rfl), (wt1 8 (by rfl) rfl), (wt5 199 (by rfl) rfl), by decide +kernel⟩
set_option maxRecDepth 20000 in
theorem kw_L_83 : KWV RL 83 RX8 yX8_first cX8_first 3 (some .int) 2 := ⟨(wt5 200 (by rfl) rfl), (wt5 201 (by rfl) rfl), (wt5 202 (by rfl) rfl), (wt1 8 (by rfl) rfl), (wt5 203 (by rfl) rfl), by decide +kernel⟩
set_option maxRecDepth 20000 in
theorem kw_X8_219 : KWV RX8 219 RX8 yX8_goesFirst cX8_goesFirst 1 none 0 := ⟨(wt5 204 (by rfl) rfl), (wt5 206 (by rfl) rfl), (wt0 53 (by rfl) rfl), (wt1 8 (by rfl) rfl), (wt5 207 (by rfl) rfl), by decide +kernel⟩
set_option maxRecDepth 20000 in
theorem kw_X8_215 : KWV RX8 215 RX8 yX8_firsts cX8_firsts 6 none 5 := ⟨(wt5 208 (by rfl) rfl), (wt5 210 (by rfl) rfl), (wt0 54 (by rfl) rfl), (wt1 8 (by rfl) rfl), (wt5 211 (by rfl) rfl), by decide +kernel⟩
set_option maxRecDepth 20000 in
theorem kw_L_87 : KWV RL 87 RX8 yX8_last cX8_last 3 (some .int) 2 := ⟨(wt5 212 (by rfl) rfl), (wt5 213 (by rfl) rfl), (wt5 214 (by rfl) rfl), (wt1 8 (by rfl) rfl), (wt5 215 (by rfl) rfl), by decide +kernel⟩
set_option maxRecDepth 20000 in
theorem kw_X8_222 : KWV RX8 222 RX8 yX8_goesLast cX8_goesLast 1 none 0 := ⟨(wt5 216 (by rfl) rfl), (wt5 218 (by rfl) rfl), (wt0 55 (by rfl) rfl), (wt1 8 (by rfl) rfl), (wt5 219 (by rfl) rfl), by decide +kernel⟩
set_option maxRecDepth 20000 in
theorem kw_L_92 : KWV RL 92 RX8 yX8_adds cX8_adds 7 (some .int) 5 := ⟨(wt5 220 (by rfl) rfl), (wt5 221 (by rfl) rfl), (wt5 222 (by rfl) rfl), (wt1 8 (by rfl) rfl), (wt5 223 (by rfl) rfl), by decide +kernel⟩
set_option maxRecDepth 20000 in
theorem kw_X8_225 : KWV RX8 225 RX8 yX8_isSpan cX8_isSpan 4 (some .boolean) 3 := ⟨(wt5 224 (by rfl) rfl), (wt5 226 (by rfl) rfl), (wt0 56 (by rfl) rfl), (wt1 8 (by rfl) rfl), (wt5 227 (by rfl) rfl), by decide +kernel⟩
set_option maxRecDepth 20000 in
theorem kw_X8_229 : KWS RX8 229 yJ9_min_7cf53 cJ9_min_7cf53 2 (some .int) 2 := ⟨(wt5 228 (by rfl) rfl), (wt3 42 (by rfl) rfl), (wt1 12 (by rfl) rfl), (wt3 43 (by rfl) rfl), by decide +kernel⟩
set_option maxRecDepth 20000 in
theorem kw_X8_234 : KWS RX8 234 yJ9_max_7cf53 cJ9_max_7cf53 2 (some .int) 2 := ⟨(wt5 229 (by rfl) rfl), (wt3 39 (by rfl) rfl), (wt1 12 (by rfl) rfl), (wt3 40 (by rfl) rfl), by decide +kernel⟩
set_option maxRecDepth 20000 in
theorem kw_L_96 : KWV RL 96 RX8 yX8_appends cX8_appends 5 (some .int) 3 := ⟨(wt5 230 (by rfl) rfl), (wt5 231 (by rfl) rfl), (wt5 232 (by rfl) rfl), (wt1 8 (by rfl) rfl), (wt5 233 (by rfl) rfl), by decide +kernel⟩
set_option maxRecDepth 20000 in
theorem kw_L_100 : KWV RL 100 RX8 yX8_turned cX8_turned 6 (some .int) 3 := ⟨(wt5 234 (by rfl) rfl), (wt5 235 (by rfl) rfl), (wt5 236 (by rfl) rfl), (wt1 8 (by rfl) rfl), (wt5 237 (by rfl) rfl), by decide +kernel⟩
set_option maxRecDepth 20000 in
theorem kw_L_104 : KWV RL 104 RX8 yX8_reverses cX8_reverses 4 (some .int) 2 := ⟨(wt5 238 (by rfl) rfl), (wt5 239 (by rfl) rfl), (wt6 0 (by rfl) rfl), (wt1 8 (by rfl) rfl), (wt6 1 (by rfl) rfl), by decide +kernel⟩
set_option maxRecDepth 20000 in
theorem kw_L_108 : KWV RL 108 RX8 yX8_keeps cX8_keeps 4 (some .int) 3 := ⟨(wt6 2 (by rfl) rfl), (wt6 3 (by rfl) rfl), (wt6 4 (by rfl) rfl), (wt1 8 (by rfl) rfl), (wt6 5 (by rfl) rfl), by decide +kernel⟩
set_option maxRecDepth 20000 in
theorem kw_L_112 : KWV RL 112 RX8 yX8_skips cX8_skips 5 (some .int) 3 := ⟨(wt6 6 (by rfl) rfl), (wt6 7 (by rfl) rfl), (wt6 8 (by rfl) rfl), (wt1 8 (by rfl) rfl), (wt6 9 (by rfl) rfl), by decide +kernel⟩
set_option maxRecDepth 20000 in
theorem kw_L_116 : KWV RL 116 RX8 yX8_slips cX8_slips 6 (some .int) 4 := ⟨(wt6 10 (by rfl) rfl), (wt6 11 (by rfl) rfl), (wt6 12 (by rfl) rfl), (wt1 8 (by rfl) rfl), (wt6 13 (by rfl) rfl), by decide +kernel⟩
set_option maxRecDepth 20000 in
theorem kw_L_120 : KWV RL 120 RX8 yX8_swaps cX8_swaps 5 (some .int) 4 := ⟨(wt6 14 (by rfl) rfl), (wt6 15 (by rfl) rfl), (wt6 16 (by rfl) rfl), (wt1 8 (by rfl) rfl), (wt6 17 (by rfl) rfl), by decide +kernel⟩
set_option maxRecDepth 20000 in
theorem kw_L_124 : KWV RL 124 RX8 yX8_zips cX8_zips 6 (some .int) 4 := ⟨(wt6 18 (by rfl) rfl), (wt6 19 (by rfl) rfl), (wt6 20 (by rfl) rfl), (wt1 8 (by rfl) rfl), (wt6 21 (by rfl) rfl), by decide +kernel⟩
set_option maxRecDepth 20000 in
theorem kw_X8_242 : KWS RX8 242 yX8_zipped cX8_zipped 3 (some .int) 3 := ⟨(wt6 23 (by rfl) rfl), (wt6 24 (by rfl) rfl), (wt1 8 (by rfl) rfl), (wt6 25 (by rfl) rfl), by decide +kernel⟩
set_option maxRecDepth 20000 in
theorem kw_X8_237 : KWS RX8 237 yX8_held cX8_held 1 (some .int) 1 := ⟨(wt6 26 (by rfl) rfl), (wt6 27 (by rfl) rfl), (wt1 8 (by rfl) rfl), (wt6 28 (by rfl) rfl), by decide +kernel⟩
set_option maxRecDepth 20000 in
theorem kw_X8_246 : KWV RX8 246 RX8 yX8_lays cX8_lays 2 none 1 := ⟨(wt6 29 (by rfl) rfl), (wt6 31 (by rfl) rfl), (wt0 57 (by rfl) rfl), (wt1 8 (by rfl) rfl), (wt6 32 (by rfl) rfl), by decide +kernel⟩
set_option maxRecDepth 20000 in
theorem kw_X8_249 : KWV RX8 249 RX8 yX8_builds cX8_builds 2 (some .int) 1 := ⟨(wt6 33 (by rfl) rfl), (wt6 35 (by rfl) rfl), (wt0 58 (by rfl) rfl), (wt1 8 (by rfl) rfl), (wt6 36 (by rfl) rfl), by decide +kernel⟩
set_option maxRecDepth 20000 in
theorem kw_L_128 : KWV RL 128 RX8 yX8_parts cX8_parts 6 (some .int) 4 := ⟨(wt6 37 (by rfl) rfl), (wt6 38 (by rfl) rfl), (wt6 39 (by rfl) rfl), (wt1 8 (by rfl) rfl), (wt6 40 (by rfl) rfl), by decide +kernel⟩
set_option maxRecDepth 20000 in
theorem kw_L_132 : KWV RL 132 RX8 yX8_sorts cX8_sorts 6 (some .int) 2 := ⟨(wt6 41 (by rfl) rfl), (wt6 42 (by rfl) rfl), (wt6 43 (by rfl) rfl), (wt1 8 (by rfl) rfl), (wt6 44 (by rfl) rfl), by decide +kernel⟩
set_option maxRecDepth 20000 in
theorem kw_L_136 : KWV RL 136 RX8 yX8_merges cX8_merges 7 (some .int) 3 := ⟨(wt6 45 (by rfl) rfl), (wt6 46 (by rfl) rfl), (wt6 47 (by rfl) rfl), (wt1 8 (by rfl) rfl), (wt6 48 (by rfl) rfl), by decide +kernel⟩
set_option maxRecDepth 20000 in
theorem kw_L_140 : KWV RL 140 RX8 yX8_picks cX8_picks 6 (some .int) 4 := ⟨(wt6 49 (by rfl) rfl), (wt6 50 (by rfl) rfl), (wt6 51 (by rfl) rfl), (wt1 8 (by rfl) rfl), (wt6 52 (by rfl) rfl), by decide +kernel⟩
set_option maxRecDepth 20000 in
theorem kw_L_144 : KWV RL 144 RX8 yX8_mirrors cX8_mirrors 4 (some .int) 2 := ⟨(wt6 53 (by rfl) rfl), (wt6 54 (by rfl) rfl), (wt6 55 (by rfl) rfl), (wt1 8 (by rfl) rfl), (wt6 56 (by rfl) rfl), by decide +kernel⟩
set_option maxRecDepth 20000 in
theorem kw_X8_252 : KWS RX8 252 yX8_mirrored cX8_mirrored 5 (some .int) 1 := ⟨(wt6 57 (by rfl) rfl), (wt6 58 (by rfl) rfl), (wt1 8 (by rfl) rfl), (wt6 59 (by rfl) rfl), by decide +kernel⟩
set_option maxRecDepth 20000 in
theorem kw_L_148 : KWV RL 148 RX8 yX8_heap cX8_heap 4 (some .int) 1 := ⟨(wt6 60 (by rfl) rfl), (wt6 61 (by rfl) rfl), (wt6 62 (by rfl) rfl), (wt1 8 (by rfl) rfl), (wt6 63 (by rfl) rfl), by decide +kernel⟩
set_option maxRecDepth 20000 in
theorem kw_X8_255 : KWV RX8 255 RX8 yX8_above cX8_above 2 (some .int) 1 := ⟨(wt6 64 (by rfl) rfl), (wt6 66 (by rfl) rfl), (wt0 59 (by rfl) rfl), (wt1 8 (by rfl) rfl), (wt6 67 (by rfl) rfl), by decide +kernel⟩
set_option maxRecDepth 20000 in
theorem kw_L_152 : KWV RL 152 RX8 yX8_push cX8_push 4 (some .int) 3 := ⟨(wt6 68 (by rfl) rfl), (wt6 69 (by rfl) rfl), (wt6 70 (by rfl) rfl), (wt1 8 (by rfl) rfl), (wt6 71 (by rfl) rfl), by decide +kernel⟩
set_option maxRecDepth 20000 in
theorem kw_X8_261 : KWV RX8 261 RX8 yX8_goesPush cX8_goesPush 2 none 1 := ⟨(wt6 72 (by rfl) rfl), (wt6 74 (by rfl) rfl), (wt0 60 (by rfl) rfl), (wt1 8 (by rfl) rfl), (wt6 75 (by rfl) rfl), by decide +kernel⟩
set_option maxRecDepth 20000 in
theorem kw_X8_258 : KWV RX8 258 RX8 yX8_pushes cX8_pushes 8 none 6 := ⟨(wt6 76 (by rfl) rfl), (wt6 78 (by rfl) rfl), (wt0 61 (by rfl) rfl), (wt1 8 (by rfl) rfl), (wt6 79 (by rfl) rfl), by decide +kernel⟩
set_option maxRecDepth 20000 in
theorem kw_L_156 : KWV RL 156 RX8 yX8_pop cX8_pop 3 (some .int) 2 := ⟨(wt6 80 (by rfl) rfl), (wt6 81 (by rfl) rfl), (wt6 82 (by rfl) rfl), (wt1 8 (by rfl) rfl), (wt6 83 (by rfl) rfl), by decide +kernel⟩
set_option maxRecDepth 20000 in
theorem kw_X8_267 : KWV RX8 267 RX8 yX8_lifts cX8_lifts 6 none 5 := ⟨(wt6 84 (by rfl) rfl), (wt6 86 (by rfl) rfl), (wt0 62 (by rfl) rfl), (wt1 8 (by rfl) rfl), (wt6 87 (by rfl) rfl), by decide +kernel⟩
set_option maxRecDepth 20000 in
theorem kw_X8_270 : KWV RX8 270 RX8 yX8_sifts cX8_sifts 12 none 1 := ⟨(wt6 88 (by rfl) rfl), (wt6 90 (by rfl) rfl), (wt0 63 (by rfl) rfl), (wt1 8 (by rfl) rfl), (wt6 91 (by rfl) rfl), by decide +kernel⟩
set_option maxRecDepth 20000 in
theorem kw_L_160 : KWV RL 160 RX8 yX8_heaps cX8_heaps 4 (some .int) 2 := ⟨(wt6 92 (by rfl) rfl), (wt6 93 (by rfl) rfl), (wt6 94 (by rfl) rfl), (wt1 8 (by rfl) rfl), (wt6 95 (by rfl) rfl), by decide +kernel⟩
set_option maxRecDepth 20000 in
theorem kw_L_164 : KWV RL 164 RX8 yX8_numbers cX8_numbers 4 (some .int) 2 := ⟨(wt6 96 (by rfl) rfl), (wt6 97 (by rfl) rfl), (wt6 98 (by rfl) rfl), (wt1 8 (by rfl) rfl), (wt6 99 (by rfl) rfl), by decide +kernel⟩
set_option maxRecDepth 20000 in
theorem kw_L_168 : KWV RL 168 RX8 yX8_sum cX8_sum 8 (some .int) 3 := ⟨(wt6 100 (by rfl) rfl), (wt6 101 (by rfl) rfl), (wt6 102 (by rfl) rfl), (wt1 8 (by rfl) rfl), (wt6 103 (by rfl) rfl), by decide +kernel⟩
set_option maxRecDepth 20000 in
theorem kw_X8_274 : KWV RX8 274 RX8 yX8_firstOf cX8_firstOf 6 (some .int) 4 := ⟨(wt6 105 (by rfl) rfl), (wt6 107 (by rfl) rfl), (wt0 64 (by rfl) rfl), (wt1 8 (by rfl) rfl), (wt6 108 (by rfl) rfl), by decide +kernel⟩
set_option maxRecDepth 20000 in
theorem kw_L_172 : KWV RL 172 RX8 yX8_finds cX8_finds 7 (some .int) 2 := ⟨(wt6 109 (by rfl) rfl), (wt6 110 (by rfl) rfl), (wt6 111 (by rfl) rfl), (wt1 8 (by rfl) rfl), (wt6 112 (by rfl) rfl), by decide +kernel⟩
set_option maxRecDepth 20000 in
theorem kw_L_180 : KWV RL 180 RX8 yX8_search cX8_search 7 (some .int) 2 := ⟨(wt6 113 (by rfl) rfl), (wt6 114 (by rfl) rfl), (wt6 115 (by rfl) rfl), (wt1 8 (by rfl) rfl), (wt6 116 (by rfl) rfl), by decide +kernel⟩
set_option maxRecDepth 20000 in
theorem kw_L_184 : KWV RL 184 RX8 yX8_reaches cX8_reaches 5 (some .int) 2 := ⟨(wt6 117 (by rfl) rfl), (wt6 118 (by rfl) rfl), (wt6 119 (by rfl) rfl), (wt1 8 (by rfl) rfl), (wt6 120 (by rfl) rfl), by decide +kernel⟩
set_option maxRecDepth 20000 in
theorem kw_L_188 : KWV RL 188 RX8 yX8_occurs cX8_occurs 7 (some .int) 2 := ⟨(wt6 121 (by rfl) rfl), (wt6 122 (by rfl) rfl), (wt6 123 (by rfl) rfl), (wt1 8 (by rfl) rfl), (wt6 124 (by rfl) rfl), by decide +kernel⟩
set_option maxRecDepth 20000 in
theorem kw_X8_278 : KWV RX8 278 RX8 yX8_stands cX8_stands 5 (some .boolean) 3 := ⟨(wt6 125 (by rfl) rfl), (wt6 127 (by rfl) rfl), (wt0 65 (by rfl) rfl), (wt1 8 (by rfl) rfl), (wt6 128 (by rfl) rfl), by decide +kernel⟩
set_option maxRecDepth 20000 in
theorem kw_L_192 : KWV RL 192 RX8 yX8_differs cX8_differs 5 (some .int) 2 := ⟨(wt6 129 (by rfl) rfl), (wt6 130 (by rfl) rfl), (wt6 131 (by rfl) rfl), (wt1 8 (by rfl) rfl), (wt6 132 (by rfl) rfl), by decide +kernel⟩
set_option maxRecDepth 20000 in
theorem kw_X8_281 : KWV RX8 281 RX8 yX8_markedMany cX8_markedMany 3 (some .int) 0 := ⟨(wt6 133 (by rfl) rfl), (wt6 135 (by rfl) rfl), (wt0 66 (by rfl) rfl), (wt1 8 (by rfl) rfl), (wt6 136 (by rfl) rfl), by decide +kernel⟩
set_option maxRecDepth 20000 in
theorem kw_L_196 : KWV RL 196 RX8 yX8_written cX8_written 3 (some .int) 2 := ⟨(wt6 137 (by rfl) rfl), (wt6 138 (by rfl) rfl), (wt6 139 (by rfl) rfl), (wt1 8 (by rfl) rfl), (wt6 140 (by rfl) rfl), by decide +kernel⟩
set_option maxRecDepth 20000 in
theorem kw_X8_299 : KWV RX8 299 RX8 yX8_writesPart cX8_writesPart 5 none 4 := ⟨(wt6 141 (by rfl) rfl), (wt6 143 (by rfl) rfl), (wt0 67 (by rfl) rfl), (wt1 8 (by rfl) rfl), (wt6 144 (by rfl) rfl), by decide +kernel⟩
set_option maxRecDepth 20000 in
theorem kw_X8_293 : KWV RX8 293 RX8 yX8_writes cX8_writes 2 none 1 := ⟨(wt6 145 (by rfl) rfl), (wt6 147 (by rfl) rfl), (wt0 68 (by rfl) rfl), (wt1 8 (by rfl) rfl), (wt6 148 (by rfl) rfl), by decide +kernel⟩
set_option maxRecDepth 20000 in
theorem kw_X8_296 : KWV RX8 296 RX8 yX8_writesNumber cX8_writesNumber 3 none 1 := ⟨(wt6 149 (by rfl) rfl), (wt6 151 (by rfl) rfl), (wt0 69 (by rfl) rfl), (wt1 8 (by rfl) rfl), (wt6 152 (by rfl) rfl), by decide +kernel⟩
set_option maxRecDepth 20000 in
theorem kw_L_200 : KWV RL 200 RX8 yX8_costs cX8_costs 4 (some .int) 2 := ⟨(wt6 153 (by rfl) rfl), (wt6 154 (by rfl) rfl), (wt6 155 (by rfl) rfl), (wt1 8 (by rfl) rfl), (wt6 156 (by rfl) rfl), by decide +kernel⟩
set_option maxRecDepth 20000 in
theorem kw_X8_302 : KWS RX8 302 yX8_frontCost cX8_frontCost 3 (some .int) 1 := ⟨(wt6 157 (by rfl) rfl), (wt6 158 (by rfl) rfl), (wt1 8 (by rfl) rfl), (wt6 159 (by rfl) rfl), by decide +kernel⟩
set_option maxRecDepth 20000 in
theorem kw_X8_305 : KWS RX8 305 yX8_firstCost cX8_firstCost 3 (some .int) 1 := ⟨(wt6 160 (by rfl) rfl), (wt6 161 (by rfl) rfl), (wt1 8 (by rfl) rfl), (wt6 162 (by rfl) rfl), by decide +kernel⟩
set_option maxRecDepth 20000 in
theorem kw_L_204 : KWV RL 204 RX8 yX8_twins cX8_twins 7 (some .int) 1 := ⟨(wt6 163 (by rfl) rfl), (wt6 164 (by rfl) rfl), (wt6 165 (by rfl) rfl), (wt1 8 (by rfl) rfl), (wt6 166 (by rfl) rfl), by decide +kernel⟩
set_option maxRecDepth 20000 in
theorem kw_X8_311 : KWV RX8 311 RX8 yX8_isFirst cX8_isFirst 3 (some .boolean) 2 := ⟨(wt6 167 (by rfl) rfl), (wt6 169 (by rfl) rfl), (wt0 70 (by rfl) rfl), (wt1 8 (by rfl) rfl), (wt6 170 (by rfl) rfl), by decide +kernel⟩
set_option maxRecDepth 20000 in
theorem kw_X8_308 : KWV RX8 308 RX8 yX8_node cX8_node 3 (some .int) 2 := ⟨(wt6 171 (by rfl) rfl), (wt6 173 (by rfl) rfl), (wt0 71 (by rfl) rfl), (wt1 8 (by rfl) rfl), (wt6 174 (by rfl) rfl), by decide +kernel⟩
set_option maxRecDepth 20000 in
theorem kw_X8_317 : KWV RX8 317 RX8 yX8_hasNode cX8_hasNode 5 (some .boolean) 3 := ⟨(wt6 175 (by rfl) rfl), (wt6 177 (by rfl) rfl), (wt0 72 (by rfl) rfl), (wt1 8 (by rfl) rfl), (wt6 178 (by rfl) rfl), by decide +kernel⟩
set_option maxRecDepth 20000 in
theorem kw_X8_314 : KWV RX8 314 RX8 yX8_oftenOf cX8_oftenOf 5 (some .int) 2 := ⟨(wt6 179 (by rfl) rfl), (wt6 181 (by rfl) rfl), (wt0 73 (by rfl) rfl), (wt1 8 (by rfl) rfl), (wt6 182 (by rfl) rfl), by decide +kernel⟩
set_option maxRecDepth 20000 in
theorem kw_L_176 : KWV RL 176 RX8 yX8_same cX8_same 8 (some .int) 2 := ⟨(wt6 183 (by rfl) rfl), (wt6 184 (by rfl) rfl), (wt6 185 (by rfl) rfl), (wt1 8 (by rfl) rfl), (wt6 186 (by rfl) rfl), by decide +kernel⟩
set_option maxRecDepth 20000 in
theorem kw_L_209 : KWV RL 209 RX8 yX8_nodes cX8_nodes 6 (some .int) 0 := ⟨(wt6 188 (by rfl) rfl), (wt6 189 (by rfl) rfl), (wt6 190 (by rfl) rfl), (wt1 8 (by rfl) rfl), (wt6 191 (by rfl) rfl), by decide +kernel⟩
set_option maxRecDepth 20000 in
theorem kw_X8_322 : KWV RX8 322 RX8 yX8_isAhead cX8_isAhead 4 (some .boolean) 2 := ⟨(wt6 192 (by rfl) rfl), (wt6 194 (by rfl) rfl), (wt0 74 (by rfl) rfl), (wt1 8 (by rfl) rfl), (wt6 195 (by rfl) rfl), by decide +kernel⟩
set_option maxRecDepth 20000 in
theorem kw_X8_325 : KWV RX8 325 RX8 yX8_placesOf cX8_placesOf 5 (some .int) 2 := ⟨(wt6 196 (by rfl) rfl), (wt6 198 (by rfl) rfl), (wt0 75 (by rfl) rfl), (wt1 8 (by rfl) rfl), (wt6 199 (by rfl) rfl), by decide +kernel⟩
set_option maxRecDepth 20000 in
theorem kw_L_213 : KWV RL 213 RX8 yX8_own cX8_own 5 (some .int) 1 := ⟨(wt6 200 (by rfl) rfl), (wt6 201 (by rfl) rfl), (wt6 202 (by rfl) rfl), (wt1 8 (by rfl) rfl), (wt6 203 (by rfl) rfl), by decide +kernel⟩
set_option maxRecDepth 20000 in
theorem kw_L_217 : KWV RL 217 RX8 yX8_level cX8_level 6 (some .int) 2 := ⟨(wt6 204 (by rfl) rfl), (wt6 205 (by rfl) rfl), (wt6 206 (by rfl) rfl), (wt1 8 (by rfl) rfl), (wt6 207 (by rfl) rfl), by decide +kernel⟩
set_option maxRecDepth 20000 in
theorem kw_L_224 : KWV RL 224 RX8 yX8_ways cX8_ways 5 (some .int) 2 := ⟨(wt6 209 (by rfl) rfl), (wt6 210 (by rfl) rfl), (wt6 211 (by rfl) rfl), (wt1 8 (by rfl) rfl), (wt6 212 (by rfl) rfl), by decide +kernel⟩
set_option maxRecDepth 20000 in
theorem kw_L_228 : KWV RL 228 RX8 yX8_count cX8_count 2 (some .int) 1 := ⟨(wt6 214 (by rfl) rfl), (wt6 215 (by rfl) rfl), (wt6 216 (by rfl) rfl), (wt1 8 (by rfl) rfl), (wt6 217 (by rfl) rfl), by decide +kernel⟩
set_option maxRecDepth 20000 in
theorem kw_X8_332 : KWV RX8 332 RX8 yX8_fullPlaces cX8_fullPlaces 3 (some .int) 0 := ⟨(wt6 218 (by rfl) rfl), (wt6 220 (by rfl) rfl), (wt0 76 (by rfl) rfl), (wt1 8 (by rfl) rfl), (wt6 221 (by rfl) rfl), by decide +kernel⟩
set_option maxRecDepth 20000 in
theorem kw_L_234 : KWV RL 234 RX8 yX8_row cX8_row 2 (some .long) 1 := ⟨(wt6 222 (by rfl) rfl), (wt6 223 (by rfl) rfl), (wt6 224 (by rfl) rfl), (wt1 8 (by rfl) rfl), (wt6 225 (by rfl) rfl), by decide +kernel⟩
set_option maxRecDepth 20000 in
theorem kw_X8_335 : KWV RX8 335 RX8 yX8_lost cX8_lost 1 (some .int) 0 := ⟨(wt6 226 (by rfl) rfl), (wt6 228 (by rfl) rfl), (wt0 77 (by rfl) rfl), (wt1 8 (by rfl) rfl), (wt6 229 (by rfl) rfl), by decide +kernel⟩
