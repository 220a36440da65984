-- THE METHODS as partial functions, written by program out of the bytecode
def Pool_make_L0 (k2 : St → Option (Int × St)) : Nat → St → Option (Int × St)
  | 0, _ => none
  | n + 1, s18 => gf s18 30 fun v19 => if v19 < 6144 then (gf s18 30 fun v20 => rd s18 10 6144 v20 fun v21 => if v21 = 0 then (k2 s18) else (gf s18 30 fun v22 => oadd v22 1 fun v23 => pf s18 30 v23 fun s24 => Pool_make_L0 k2 n s24)) else (k2 s18)
def Pool_make (σ : St) (p1 : Int) (p2 : Int) (p3 : Int) : Res := jn (fun (s1 : St) => gf s1 30 fun v3 => if v3 < 6144 then (gf s1 30 fun v4 => wr s1 7 6144 v4 p1 fun s5 => wr s5 8 6144 v4 p2 fun s6 => wr s6 9 6144 v4 p3 fun s7 => gf s7 30 fun v8 => oadd v8 1 fun v9 => pf s7 30 v9 fun s10 => gf s10 31 fun v11 => osub v11 1 fun v12 => pf s10 31 v12 fun s13 => gf s13 32 fun v14 => oadd v14 1 fun v15 => pf s13 32 v15 fun s16 => some (v4, s16)) else (some (0, s1))) fun k2 => Pool_make_L0 k2 FU σ
def Jint_bitCount (p1 : Int) : Option Int := opure (bushr p1 1) fun v1 => opure (band v1 1431655765) fun v2 => osub p1 v2 fun v3 => opure (band v3 858993459) fun v4 => opure (bushr v3 2) fun v5 => opure (band v5 858993459) fun v6 => oadd v4 v6 fun v7 => opure (bushr v7 4) fun v8 => oadd v7 v8 fun v9 => opure (band v9 252645135) fun v10 => opure (bushr v10 8) fun v11 => oadd v10 v11 fun v12 => opure (bushr v12 16) fun v13 => oadd v12 v13 fun v14 => opure (band v14 63) fun v15 => some v15
def Shape_stride (p1 : Int) : Option Int := oadd p1 1 fun v1 => opure (bshr v1 1) fun v2 => opure (bor v1 v2) fun v3 => opure (bshr v3 2) fun v4 => opure (bor v3 v4) fun v5 => opure (bshr v5 4) fun v6 => opure (bor v5 v6) fun v7 => opure (bshr v7 8) fun v8 => opure (bor v7 v8) fun v9 => opure (bshr v9 1) fun v10 => osub v9 v10 fun v11 => some v11
def Shape_depth (p1 : Int) : Option Int := bndp (Shape_stride p1) fun v1 => osub v1 1 fun v2 => bndp (Jint_bitCount v2) fun v3 => some v3
def Pool_alike_L19 (p1 : Int) (p2 : Int) : Nat → St → Int → Int → Int → Option (Int × St)
  | 0, _, _, _, _ => none
  | n + 1, s9, x5, x6, x7 => if x7 < 0 then (some (x5, s9)) else (oadd p1 1 fun v10 => opure (bshr v10 x7) fun v11 => orem v11 2 fun v12 => oif (v12 = 0) inferInstance 1 0 fun v13 => jn (fun (s14 : St) (x15 : Int) => jn (fun (s17 : St) (x18 : Int) => oadd x7 (-1) fun v20 => Pool_alike_L19 p1 p2 n s17 x15 x18 v20) fun k19 => if v13 = 0 then (bnd (Pool_make s14 p2 x6 x6) fun v21 s22 => k19 s22 v21) else (bnd (Pool_make s14 p2 x6 x5) fun v23 s24 => k19 s24 v23)) fun k16 => if v13 = 0 then (bnd (Pool_make s9 p2 x6 x5) fun v25 s26 => k16 s26 v25) else (bnd (Pool_make s9 p2 x5 x5) fun v27 s28 => k16 s28 v27))
def Pool_alike (σ : St) (p1 : Int) (p2 : Int) : Res := bnd (Pool_make σ p2 0 0) fun v1 s2 => bndp (Shape_depth p1) fun v3 => osub v3 1 fun v4 => Pool_alike_L19 p1 p2 FU s2 0 v1 v4
def Jarr_fill_kept_L5 (p2 : Int) : Nat → St → Int → Option (Int × St)
  | 0, _, _ => none
  | n + 1, s3, x1 => if x1 < 6144 then (wr s3 10 6144 x1 p2 fun s4 => oadd x1 1 fun v5 => Jarr_fill_kept_L5 p2 n s4 v5) else (some (0, s3))
def Jarr_fill_kept (σ : St) (p2 : Int) : Res := Jarr_fill_kept_L5 p2 FU σ 0
def Pool_forgetKept (σ : St) : Res := bnd (Jarr_fill_kept σ 0) fun _ s2 => wr s2 10 6144 0 1 fun s3 => pf s3 31 6143 fun s4 => pf s4 30 1 fun s5 => some (0, s5)
def Pool_hasRoom (σ : St) : Option Int := gf σ 31 fun v1 => oif (v1 < 4096) inferInstance 0 1 fun v2 => retZp v2
def Pool_isNode (p1 : Int) : Option Int := if 0 < p1 then (if p1 < 6144 then (some 1) else (some 0)) else (some 0)
def Pool_leftOf (σ : St) (p1 : Int) : Option Int := bndp (Pool_isNode p1) fun v1 => if v1 = 0 then (some 0) else (rd σ 8 6144 p1 fun v2 => some v2)
def Pool_rightOf (σ : St) (p1 : Int) : Option Int := bndp (Pool_isNode p1) fun v1 => if v1 = 0 then (some 0) else (rd σ 9 6144 p1 fun v2 => some v2)
def Pool_spread_L9 (p2 : Int) : Nat → St → Int → Option (Int × St)
  | 0, _, _ => none
  | n + 1, s4, x2 => if x2 < p2 then (bndp (Shape_stride x2) fun v5 => oadd x2 v5 fun v6 => jn (fun (s7 : St) => omul 2 v5 fun v9 => oadd x2 v9 fun v10 => jn (fun (s11 : St) => oadd x2 1 fun v13 => Pool_spread_L9 p2 n s11 v13) fun k12 => if v10 < p2 then (omul 2 v5 fun v14 => oadd x2 v14 fun v15 => rd s7 12 256 x2 fun v16 => bndp (Pool_rightOf s7 v16) fun v17 => wr s7 12 256 v15 v17 fun s18 => k12 s18) else (k12 s7)) fun k8 => if v6 < p2 then (oadd x2 v5 fun v19 => rd s4 12 256 x2 fun v20 => bndp (Pool_leftOf s4 v20) fun v21 => wr s4 12 256 v19 v21 fun s22 => k8 s22) else (k8 s4)) else (some (0, s4))
def Pool_spread (σ : St) (p1 : Int) (p2 : Int) : Res := wr σ 12 256 0 p1 fun s1 => Pool_spread_L9 p2 FU s1 0
def Pool_keepAll_L8 (p2 : Int) : Nat → St → Int → Option (Int × St)
  | 0, _, _ => none
  | n + 1, s5, x3 => if x3 < p2 then (rd s5 12 256 x3 fun v6 => bndp (Pool_isNode v6) fun v7 => jn (fun (s8 : St) => oadd x3 1 fun v10 => Pool_keepAll_L8 p2 n s8 v10) fun k9 => if v7 = 0 then (k9 s5) else (rd s5 12 256 x3 fun v11 => rd s5 10 6144 v11 fun v12 => if v12 = 0 then (rd s5 12 256 x3 fun v13 => wr s5 10 6144 v13 1 fun s14 => gf s14 31 fun v15 => osub v15 1 fun v16 => pf s14 31 v16 fun s17 => k9 s17) else (k9 s5))) else (some (0, s5))
def Pool_keepAll (σ : St) (p1 : Int) (p2 : Int) : Res := bnd (Pool_spread σ p1 p2) fun _ s2 => Pool_keepAll_L8 p2 FU s2 0
def E_begin_L19 (k8 : St → Option (Int × St)) : Nat → St → Int → Option (Int × St)
  | 0, _, _ => none
  | n + 1, s11, x9 => if x9 < 6 then (rd s11 24 6 x9 fun v12 => rd s11 25 6 x9 fun v13 => bnd (Pool_keepAll s11 v12 v13) fun _ s15 => oadd x9 1 fun v16 => E_begin_L19 k8 n s15 v16) else (k8 s11)
def E_begin (σ : St) : Res := bndp (Pool_hasRoom σ) fun v1 => jn (fun (s2 : St) => gf s2 32 fun v4 => some (v4, s2)) fun k3 => if v1 = 0 then (bnd (Pool_forgetKept σ) fun _ s6 => jn (fun (s7 : St) => k3 s7) fun k8 => E_begin_L19 k8 FU s6 0) else (k3 σ)
def E_isNumber (p1 : Int) : Option Int := if p1 < (-999) then (some 0) else (if 999 < p1 then (some 0) else (some 1))
def E_isPlace (p1 : Int) : Option Int := if p1 < 0 then (some 0) else (if p1 < 6 then (some 1) else (some 0))
def E_keep (σ : St) (p1 : Int) (p2 : Int) (p3 : Int) : Res := wr σ 24 6 p1 p2 fun s1 => wr s1 25 6 p1 p3 fun s2 => some (p3, s2)
def E_fills (σ : St) (p1 : Int) (p2 : Int) (p3 : Int) : Res := if p1 < 0 then (some ((-1), σ)) else (if 255 < p1 then (some ((-1), σ)) else (bndp (E_isNumber p2) fun v1 => if v1 = 0 then (some ((-1), σ)) else (bndp (E_isPlace p3) fun v2 => if v2 = 0 then (some ((-1), σ)) else (bnd (E_begin σ) fun v3 s4 => bnd (Pool_alike s4 p1 p2) fun v5 s6 => bnd (E_keep s6 p3 v5 p1) fun v7 s8 => gf s8 32 fun v9 => osub v9 v3 fun v10 => some (v10, s8)))))
def Shape_leftSize (p1 : Int) : Option Int := odiv p1 2 fun v1 => some v1
def Shape_rightSize (p1 : Int) : Option Int := if p1 < 2 then (some 0) else (osub p1 1 fun v1 => odiv v1 2 fun v2 => some v2)
def E_sides (σ : St) (p1 : Int) (p2 : Int) (p3 : Int) : Res := bndp (E_isPlace p1) fun v1 => if v1 = 0 then (some ((-1), σ)) else (bndp (E_isPlace p3) fun v2 => if v2 = 0 then (some ((-1), σ)) else (if p2 < 0 then (some ((-1), σ)) else (if 1 < p2 then (some ((-1), σ)) else (jn (fun (x3 : Int) => if x3 = 0 then (some ((-2), σ)) else (jn (fun (x5 : Int) => bnd (E_keep σ p3 x5 x3) fun v7 s8 => some (v7, s8)) fun k6 => if p2 = 0 then (rd σ 24 6 p1 fun v11 => bndp (Pool_leftOf σ v11) fun v12 => k6 v12) else (rd σ 24 6 p1 fun v9 => bndp (Pool_rightOf σ v9) fun v10 => k6 v10))) fun k4 => if p2 = 0 then (rd σ 25 6 p1 fun v15 => bndp (Shape_leftSize v15) fun v16 => k4 v16) else (rd σ 25 6 p1 fun v13 => bndp (Shape_rightSize v13) fun v14 => k4 v14)))))
def Pool_numberOf (σ : St) (p1 : Int) : Option Int := bndp (Pool_isNode p1) fun v1 => if v1 = 0 then (some 0) else (rd σ 7 6144 p1 fun v2 => some v2)
def Pool_numberAt_L5 (k2 : Int → Option (Int)) (σ : St) : Nat → Int → Int → Option (Int)
  | 0, _, _ => none
  | n + 1, x4, x5 => if 0 < x5 then (orem x5 2 fun v7 => jn (fun (x8 : Int) => osub x5 1 fun v10 => odiv v10 2 fun v11 => Pool_numberAt_L5 k2 σ n x8 v11) fun k9 => if v7 = 1 then (bndp (Pool_leftOf σ x4) fun v13 => k9 v13) else (bndp (Pool_rightOf σ x4) fun v12 => k9 v12)) else (k2 x4)
def Pool_numberAt (σ : St) (p1 : Int) (p2 : Int) : Option Int := jn (fun (x1 : Int) => bndp (Pool_numberOf σ x1) fun v3 => some v3) fun k2 => Pool_numberAt_L5 k2 σ FU p1 p2
def E_isIndex (σ : St) (p1 : Int) (p2 : Int) : Option Int := bndp (E_isPlace p1) fun v1 => if v1 = 0 then (some 0) else (if p2 < 0 then (some 0) else (rd σ 25 6 p1 fun v2 => if p2 < v2 then (some 1) else (some 0)))
def E_get (σ : St) (p1 : Int) (p2 : Int) : Option Int := bndp (E_isIndex σ p1 p2) fun v1 => if v1 = 0 then (some (-1000)) else (rd σ 24 6 p1 fun v2 => bndp (Pool_numberAt σ v2 p2) fun v3 => some v3)
def Jarr_fill_on_L5 (p2 : Int) : Nat → St → Int → Option (Int × St)
  | 0, _, _ => none
  | n + 1, s3, x1 => if x1 < 255 then (wr s3 23 255 x1 p2 fun s4 => oadd x1 1 fun v5 => Jarr_fill_on_L5 p2 n s4 v5) else (some (0, s3))
def Jarr_fill_on (σ : St) (p2 : Int) : Res := Jarr_fill_on_L5 p2 FU σ 0
def Ways_clear (σ : St) : Res := bnd (Jarr_fill_on σ 0) fun _ s2 => pf s2 44 0 fun s3 => some (0, s3)
def Shape_above (p1 : Int) : Option Int := if 0 < p1 then (bndp (Shape_stride p1) fun v1 => odiv v1 2 fun v2 => oadd p1 1 fun v3 => osub v2 1 fun v4 => opure (band v3 v4) fun v5 => oadd v2 v5 fun v6 => osub v6 1 fun v7 => some v7) else (some (-1))
def Ways_mark_L4 : Nat → St → Int → Int → Option (Int × St)
  | 0, _, _, _ => none
  | n + 1, s4, x1, x2 => if x2 < 8 then (if x1 < 0 then (some (0, s4)) else (if x1 < 255 then (rd s4 23 255 x1 fun v5 => if v5 = 0 then (wr s4 23 255 x1 1 fun s6 => gf s6 44 fun v7 => oadd v7 1 fun v8 => pf s6 44 v8 fun s9 => bndp (Shape_above x1) fun v10 => oadd x2 1 fun v11 => Ways_mark_L4 n s9 v10 v11) else (some (0, s4))) else (some (0, s4)))) else (some (0, s4))
def Ways_mark (σ : St) (p1 : Int) : Res := Ways_mark_L4 FU σ p1 0
def E_markUnlike_L11 (p1 : Int) : Nat → St → Int → Int → Option (Int × St)
  | 0, _, _, _ => none
  | n + 1, s6, x3, x4 => if x4 < p1 then (rd s6 26 256 x4 fun v7 => rd s6 27 256 x4 fun v8 => jn (fun (s9 : St) (x10 : Int) => oadd x4 1 fun v12 => E_markUnlike_L11 p1 n s9 x10 v12) fun k11 => if v7 = v8 then (k11 s6 x3) else (bnd (Ways_mark s6 x4) fun _ s14 => oadd x3 1 fun v15 => k11 s14 v15)) else (some (x3, s6))
def E_markUnlike (σ : St) (p1 : Int) : Res := bnd (Ways_clear σ) fun _ s2 => E_markUnlike_L11 p1 FU s2 0 0
def Pool_read_one_L9 (p2 : Int) : Nat → St → Int → Option (Int × St)
  | 0, _, _ => none
  | n + 1, s5, x3 => if x3 < p2 then (rd s5 12 256 x3 fun v6 => bndp (Pool_numberOf s5 v6) fun v7 => wr s5 26 256 x3 v7 fun s8 => oadd x3 1 fun v9 => Pool_read_one_L9 p2 n s8 v9) else (some (0, s5))
def Pool_read_one (σ : St) (p1 : Int) (p2 : Int) : Res := bnd (Pool_spread σ p1 p2) fun _ s2 => Pool_read_one_L9 p2 FU s2 0
def Pool_read_other_L9 (p2 : Int) : Nat → St → Int → Option (Int × St)
  | 0, _, _ => none
  | n + 1, s5, x3 => if x3 < p2 then (rd s5 12 256 x3 fun v6 => bndp (Pool_numberOf s5 v6) fun v7 => wr s5 27 256 x3 v7 fun s8 => oadd x3 1 fun v9 => Pool_read_other_L9 p2 n s8 v9) else (some (0, s5))
def Pool_read_other (σ : St) (p1 : Int) (p2 : Int) : Res := bnd (Pool_spread σ p1 p2) fun _ s2 => Pool_read_other_L9 p2 FU s2 0
def E_readBoth (σ : St) (p1 : Int) (p2 : Int) : Res := rd σ 24 6 p1 fun v1 => rd σ 25 6 p1 fun v2 => bnd (Pool_read_one σ v1 v2) fun _ s4 => rd s4 24 6 p2 fun v5 => rd s4 25 6 p2 fun v6 => bnd (Pool_read_other s4 v5 v6) fun _ s8 => some (0, s8)
def Pool_below (σ : St) (p1 : Int) (p2 : Int) (p3 : Int) : Option Int := bndp (Shape_stride p1) fun v1 => omul p2 v1 fun v2 => oadd p1 v2 fun v3 => if v3 < p3 then (rd σ 12 256 v3 fun v4 => some v4) else (some 0)
def Pool_rootOf (σ : St) (p1 : Int) : Option Int := if 0 < p1 then (rd σ 12 256 0 fun v1 => some v1) else (some 0)
def Ways_has (σ : St) (p1 : Int) : Option Int := if p1 < 0 then (some 0) else (if p1 < 255 then (rd σ 23 255 p1 fun v1 => if v1 = 0 then (some 0) else (some 1)) else (some 0))
def Pool_changed_one_L11 (k5 : St → Option (Int × St)) (p2 : Int) : Nat → St → Int → Option (Int × St)
  | 0, _, _ => none
  | n + 1, s9, x7 => if x7 < 0 then (k5 s9) else (bndp (Ways_has s9 x7) fun v10 => jn (fun (s11 : St) => oadd x7 (-1) fun v13 => Pool_changed_one_L11 k5 p2 n s11 v13) fun k12 => if v10 = 0 then (k12 s9) else (rd s9 26 256 x7 fun v14 => bndp (Pool_below s9 x7 1 p2) fun v15 => bndp (Pool_below s9 x7 2 p2) fun v16 => bnd (Pool_make s9 v14 v15 v16) fun v17 s18 => wr s18 12 256 x7 v17 fun s19 => k12 s19))
def Pool_changed_one (σ : St) (p1 : Int) (p2 : Int) : Res := bnd (Pool_spread σ p1 p2) fun _ s2 => osub p2 1 fun v3 => jn (fun (s4 : St) => bndp (Pool_rootOf s4 p2) fun v6 => some (v6, s4)) fun k5 => Pool_changed_one_L11 k5 p2 FU s2 v3
def E_renew (σ : St) (p1 : Int) (p2 : Int) : Res := bnd (E_begin σ) fun v1 s2 => rd s2 24 6 p1 fun v3 => rd s2 25 6 p1 fun v4 => bnd (Pool_changed_one s2 v3 v4) fun v5 s6 => rd s6 25 6 p1 fun v7 => bnd (E_keep s6 p2 v5 v7) fun v8 s9 => gf s9 32 fun v10 => osub v10 v1 fun v11 => some (v11, s9)
def E_sets (σ : St) (p1 : Int) (p2 : Int) (p3 : Int) (p4 : Int) : Res := bndp (E_isIndex σ p1 p2) fun v1 => if v1 = 0 then (some ((-1), σ)) else (bndp (E_isNumber p3) fun v2 => if v2 = 0 then (some ((-1), σ)) else (bndp (E_isPlace p4) fun v3 => if v3 = 0 then (some ((-1), σ)) else (bnd (E_readBoth σ p1 p1) fun _ s5 => wr s5 26 256 p2 p3 fun s6 => rd s6 25 6 p1 fun v7 => bnd (E_markUnlike s6 v7) fun v8 s9 => bnd (E_renew s9 p1 p4) fun v10 s11 => some (v10, s11))))
def Pool_backed : Nat → St → Int → Int → Int → Res
  | 0, _, _, _, _ => none
  | d + 1, σ, p2, p3, p4 => if 0 < p4 then (bndp (Pool_leftOf σ p3) fun v1 => bndp (Pool_rightOf σ p3) fun v2 => orem p4 2 fun v3 => jn (fun (s4 : St) (x5 : Int) (x6 : Int) => bndp (Pool_numberOf s4 p3) fun v8 => bnd (Pool_make s4 v8 x5 x6) fun v9 s10 => some (v9, s10)) fun k7 => if v3 = 1 then (bndp (Shape_leftSize p4) fun v14 => bnd (Pool_backed d σ p2 v1 v14) fun v15 s16 => k7 s16 v15 v2) else (bndp (Shape_rightSize p4) fun v11 => bnd (Pool_backed d σ p2 v2 v11) fun v12 s13 => k7 s13 v1 v12)) else (bnd (Pool_make σ p2 0 0) fun v17 s18 => some (v17, s18))
def Pool_fronted : Nat → St → Int → Int → Int → Res
  | 0, _, _, _, _ => none
  | d + 1, σ, p2, p3, p4 => if 0 < p4 then (bndp (Pool_numberOf σ p3) fun v1 => bndp (Pool_rightOf σ p3) fun v2 => bndp (Shape_rightSize p4) fun v3 => bnd (Pool_fronted d σ v1 v2 v3) fun v4 s5 => bndp (Pool_leftOf s5 p3) fun v6 => bnd (Pool_make s5 p2 v4 v6) fun v7 s8 => some (v7, s8)) else (bnd (Pool_make σ p2 0 0) fun v9 s10 => some (v9, s10))
def Pool_pushed : Nat → St → Int → Int → Int → Res
  | 0, _, _, _, _ => none
  | d + 1, σ, p2, p3, p4 => if 0 < p4 then (bndp (Pool_numberOf σ p3) fun v1 => opure (imax p2 v1) fun v2 => bndp (Pool_rightOf σ p3) fun v3 => bndp (Shape_rightSize p4) fun v4 => bnd (Pool_pushed d σ v2 v3 v4) fun v5 s6 => opure (imin p2 v1) fun v7 => bndp (Pool_leftOf s6 p3) fun v8 => bnd (Pool_make s6 v7 v5 v8) fun v9 s10 => some (v9, s10)) else (bnd (Pool_make σ p2 0 0) fun v11 s12 => some (v11, s12))
def Pool_put (σ : St) (p1 : Int) (p2 : Int) (p3 : Int) (p4 : Int) : Res := if p4 = 0 then (bnd (Pool_fronted RD σ p1 p2 p3) fun v2 s3 => some (v2, s3)) else if p4 = 1 then (bnd (Pool_backed RD σ p1 p2 p3) fun v5 s6 => some (v5, s6)) else (bnd (Pool_pushed RD σ p1 p2 p3) fun v7 s8 => some (v7, s8))
def E_putOne (σ : St) (p1 : Int) (p2 : Int) (p3 : Int) (p4 : Int) : Res := bndp (E_isPlace p1) fun v1 => if v1 = 0 then (some ((-1), σ)) else (bndp (E_isNumber p2) fun v2 => if v2 = 0 then (some ((-1), σ)) else (bndp (E_isPlace p3) fun v3 => if v3 = 0 then (some ((-1), σ)) else (rd σ 25 6 p1 fun v4 => if v4 = 255 then (some ((-2), σ)) else (bnd (E_begin σ) fun v5 s6 => rd s6 24 6 p1 fun v7 => rd s6 25 6 p1 fun v8 => bnd (Pool_put s6 p2 v7 v8 p4) fun v9 s10 => rd s10 25 6 p1 fun v11 => oadd v11 1 fun v12 => bnd (E_keep s10 p3 v9 v12) fun v13 s14 => gf s14 32 fun v15 => osub v15 v5 fun v16 => some (v16, s14)))))
def E_front (σ : St) (p1 : Int) (p2 : Int) (p3 : Int) : Res := bnd (E_putOne σ p1 p2 p3 0) fun v1 s2 => some (v1, s2)
def E_back (σ : St) (p1 : Int) (p2 : Int) (p3 : Int) : Res := bnd (E_putOne σ p1 p2 p3 1) fun v1 s2 => some (v1, s2)
def Pool_firstGone : Nat → St → Int → Int → Res
  | 0, _, _, _ => none
  | d + 1, σ, p2, p3 => if 1 < p3 then (bndp (Pool_leftOf σ p2) fun v1 => bndp (Shape_leftSize p3) fun v2 => bnd (Pool_firstGone d σ v1 v2) fun v3 s4 => bndp (Pool_numberOf s4 v1) fun v5 => bndp (Pool_rightOf s4 p2) fun v6 => bnd (Pool_make s4 v5 v6 v3) fun v7 s8 => some (v7, s8)) else (some (0, σ))
def Pool_lastGone : Nat → St → Int → Int → Res
  | 0, _, _, _ => none
  | d + 1, σ, p2, p3 => if 1 < p3 then (bndp (Pool_leftOf σ p2) fun v1 => bndp (Pool_rightOf σ p2) fun v2 => orem p3 2 fun v3 => jn (fun (s4 : St) (x5 : Int) (x6 : Int) => bndp (Pool_numberOf s4 p2) fun v8 => bnd (Pool_make s4 v8 x5 x6) fun v9 s10 => some (v9, s10)) fun k7 => if v3 = 0 then (bndp (Shape_leftSize p3) fun v14 => bnd (Pool_lastGone d σ v1 v14) fun v15 s16 => k7 s16 v15 v2) else (bndp (Shape_rightSize p3) fun v11 => bnd (Pool_lastGone d σ v2 v11) fun v12 s13 => k7 s13 v1 v12)) else (some (0, σ))
def Pool_take (σ : St) (p1 : Int) (p2 : Int) (p3 : Int) : Res := if p3 = 2 then (bnd (Pool_firstGone RD σ p1 p2) fun v3 s4 => some (v3, s4)) else (bnd (Pool_lastGone RD σ p1 p2) fun v1 s2 => some (v1, s2))
def Row_add (σ : St) (p1 : Int) : Res := gf σ 34 fun v1 => if v1 < 16 then (gf σ 34 fun v2 => wrL σ 13 16 v2 p1 fun s3 => gf s3 34 fun v4 => oadd v4 1 fun v5 => pf s3 34 v5 fun s6 => some (0, s6)) else (some (0, σ))
def Row_clear (σ : St) : Res := pf σ 34 0 fun s1 => some (0, s1)
def Row_tell (σ : St) (p1 : Int) : Res := bnd (Row_clear σ) fun _ s2 => bnd (Row_add s2 p1) fun _ s4 => some (0, s4)
def E_takeOne (σ : St) (p1 : Int) (p2 : Int) (p3 : Int) (p4 : Int) : Res := rd σ 24 6 p1 fun v1 => bndp (Pool_numberAt σ v1 p2) fun v2 => bnd (Row_tell σ v2) fun _ s4 => bnd (E_begin s4) fun v5 s6 => rd s6 24 6 p1 fun v7 => rd s6 25 6 p1 fun v8 => bnd (Pool_take s6 v7 v8 p4) fun v9 s10 => rd s10 25 6 p1 fun v11 => osub v11 1 fun v12 => bnd (E_keep s10 p3 v9 v12) fun v13 s14 => gf s14 32 fun v15 => osub v15 v5 fun v16 => some (v16, s14)
def E_first (σ : St) (p1 : Int) (p2 : Int) : Res := bndp (E_isPlace p1) fun v1 => if v1 = 0 then (some ((-1), σ)) else (bndp (E_isPlace p2) fun v2 => if v2 = 0 then (some ((-1), σ)) else (rd σ 25 6 p1 fun v3 => if v3 = 0 then (some ((-2), σ)) else (bnd (E_takeOne σ p1 0 p2 2) fun v4 s5 => some (v4, s5))))
def E_last (σ : St) (p1 : Int) (p2 : Int) : Res := bndp (E_isPlace p1) fun v1 => if v1 = 0 then (some ((-1), σ)) else (bndp (E_isPlace p2) fun v2 => if v2 = 0 then (some ((-1), σ)) else (rd σ 25 6 p1 fun v3 => if v3 = 0 then (some ((-2), σ)) else (rd σ 25 6 p1 fun v4 => osub v4 1 fun v5 => bnd (E_takeOne σ p1 v5 p2 3) fun v6 s7 => some (v6, s7))))
def E_held (p1 : Int) : Option Int := opure (imin 999 p1) fun v1 => opure (imax (-999) v1) fun v2 => some v2
def E_isRange (σ : St) (p1 : Int) (p2 : Int) (p3 : Int) : Option Int := bndp (E_isPlace p1) fun v1 => if v1 = 0 then (some 0) else (if p2 < 0 then (some 0) else (if p3 < p2 then (some 0) else (rd σ 25 6 p1 fun v2 => if v2 < p3 then (some 0) else (some 1))))
def E_adds_L69 (k10 : St → Option (Int × St)) (p3 : Int) (p4 : Int) : Nat → St → Int → Option (Int × St)
  | 0, _, _ => none
  | n + 1, s15, x13 => if x13 < p3 then (if p4 = 0 then (k10 s15) else (rd s15 26 256 x13 fun v16 => oadd v16 p4 fun v17 => bndp (E_held v17) fun v18 => wr s15 26 256 x13 v18 fun s19 => bnd (Ways_mark s19 x13) fun _ s21 => oadd x13 1 fun v22 => E_adds_L69 k10 p3 p4 n s21 v22)) else (k10 s15)
def E_adds (σ : St) (p1 : Int) (p2 : Int) (p3 : Int) (p4 : Int) (p5 : Int) : Res := bndp (E_isRange σ p1 p2 p3) fun v1 => if v1 = 0 then (some ((-1), σ)) else (if p4 < (-999) then (some ((-1), σ)) else (if 999 < p4 then (some ((-1), σ)) else (bndp (E_isPlace p5) fun v2 => if v2 = 0 then (some ((-1), σ)) else (bnd (Ways_clear σ) fun _ s4 => rd s4 24 6 p1 fun v5 => rd s4 25 6 p1 fun v6 => bnd (Pool_read_one s4 v5 v6) fun _ s8 => jn (fun (s9 : St) => bnd (E_renew s9 p1 p5) fun v11 s12 => some (v11, s12)) fun k10 => E_adds_L69 k10 p3 p4 FU s8 p2))))
def Pool_putAll_other_L6 (p2 : Int) (p4 : Int) (p5 : Int) : Nat → St → Int → Int → Option (Int × St)
  | 0, _, _, _ => none
  | n + 1, s4, x1, x2 => if x2 < p4 then (rd s4 27 256 x2 fun v5 => oadd p2 x2 fun v6 => bnd (Pool_put s4 v5 x1 v6 p5) fun v7 s8 => oadd x2 1 fun v9 => Pool_putAll_other_L6 p2 p4 p5 n s8 v7 v9) else (some (x1, s4))
def Pool_putAll_other (σ : St) (p1 : Int) (p2 : Int) (p4 : Int) (p5 : Int) : Res := Pool_putAll_other_L6 p2 p4 p5 FU σ p1 0
def E_appends (σ : St) (p1 : Int) (p2 : Int) (p3 : Int) : Res := bndp (E_isPlace p1) fun v1 => if v1 = 0 then (some ((-1), σ)) else (bndp (E_isPlace p2) fun v2 => if v2 = 0 then (some ((-1), σ)) else (bndp (E_isPlace p3) fun v3 => if v3 = 0 then (some ((-1), σ)) else (rd σ 25 6 p1 fun v4 => rd σ 25 6 p2 fun v5 => oadd v4 v5 fun v6 => if 255 < v6 then (some ((-2), σ)) else (bnd (E_begin σ) fun v7 s8 => rd s8 24 6 p2 fun v9 => rd s8 25 6 p2 fun v10 => bnd (Pool_read_other s8 v9 v10) fun _ s12 => rd s12 24 6 p1 fun v13 => rd s12 25 6 p1 fun v14 => rd s12 25 6 p2 fun v15 => bnd (Pool_putAll_other s12 v13 v14 v15 1) fun v16 s17 => bnd (E_keep s17 p3 v16 v6) fun v18 s19 => gf s19 32 fun v20 => osub v20 v7 fun v21 => some (v21, s19)))))
def E_turned_L60 (k9 : St → Int → Option (Int × St)) (p2 : Int) (v3 : Int) : Nat → St → Int → Int → Option (Int × St)
  | 0, _, _, _ => none
  | n + 1, s17, x14, x15 => if x15 < p2 then (bndp (Pool_numberOf s17 x14) fun v18 => bnd (Pool_take s17 x14 v3 2) fun v19 s20 => osub v3 1 fun v21 => bnd (Pool_put s20 v18 v19 v21 1) fun v22 s23 => oadd x15 1 fun v24 => E_turned_L60 k9 p2 v3 n s23 v22 v24) else (k9 s17 x14)
def E_turned (σ : St) (p1 : Int) (p2 : Int) (p3 : Int) : Res := bndp (E_isPlace p1) fun v1 => if v1 = 0 then (some ((-1), σ)) else (bndp (E_isPlace p3) fun v2 => if v2 = 0 then (some ((-1), σ)) else (if p2 < 0 then (some ((-1), σ)) else (if 255 < p2 then (some ((-1), σ)) else (rd σ 25 6 p1 fun v3 => if v3 = 0 then (some ((-2), σ)) else (bnd (E_begin σ) fun v4 s5 => rd s5 24 6 p1 fun v6 => jn (fun (s7 : St) (x8 : Int) => bnd (E_keep s7 p3 x8 v3) fun v10 s11 => gf s11 32 fun v12 => osub v12 v4 fun v13 => some (v13, s11)) fun k9 => E_turned_L60 k9 p2 v3 FU s5 v6 0)))))
def Pool_takeMany_L6 (p2 : Int) (p3 : Int) (p4 : Int) : Nat → St → Int → Int → Option (Int × St)
  | 0, _, _, _ => none
  | n + 1, s4, x1, x2 => if x2 < p3 then (osub p2 x2 fun v5 => bnd (Pool_take s4 x1 v5 p4) fun v6 s7 => oadd x2 1 fun v8 => Pool_takeMany_L6 p2 p3 p4 n s7 v6 v8) else (some (x1, s4))
def Pool_takeMany (σ : St) (p1 : Int) (p2 : Int) (p3 : Int) (p4 : Int) : Res := Pool_takeMany_L6 p2 p3 p4 FU σ p1 0
def E_keeps (σ : St) (p1 : Int) (p2 : Int) (p3 : Int) : Res := bndp (E_isRange σ p1 0 p2) fun v1 => if v1 = 0 then (some ((-1), σ)) else (bndp (E_isPlace p3) fun v2 => if v2 = 0 then (some ((-1), σ)) else (bnd (E_begin σ) fun v3 s4 => rd s4 24 6 p1 fun v5 => rd s4 25 6 p1 fun v6 => rd s4 25 6 p1 fun v7 => osub v7 p2 fun v8 => bnd (Pool_takeMany s4 v5 v6 v8 3) fun v9 s10 => bnd (E_keep s10 p3 v9 p2) fun v11 s12 => gf s12 32 fun v13 => osub v13 v3 fun v14 => some (v14, s12)))
def E_skips (σ : St) (p1 : Int) (p2 : Int) (p3 : Int) : Res := bndp (E_isRange σ p1 0 p2) fun v1 => if v1 = 0 then (some ((-1), σ)) else (bndp (E_isPlace p3) fun v2 => if v2 = 0 then (some ((-1), σ)) else (bnd (E_begin σ) fun v3 s4 => rd s4 24 6 p1 fun v5 => rd s4 25 6 p1 fun v6 => bnd (Pool_takeMany s4 v5 v6 p2 2) fun v7 s8 => rd s8 25 6 p1 fun v9 => osub v9 p2 fun v10 => bnd (E_keep s8 p3 v7 v10) fun v11 s12 => gf s12 32 fun v13 => osub v13 v3 fun v14 => some (v14, s12)))
def E_heap_L36 (k7 : Int → Option (Int × St)) (s5 : St) (p1 : Int) : Nat → Int → Int → Option (Int × St)
  | 0, _, _ => none
  | n + 1, x11, x12 => rd s5 25 6 p1 fun v14 => if x12 < v14 then (if x11 = (-1) then (rd s5 26 256 x12 fun v15 => bndp (Shape_above x12) fun v16 => rd s5 26 256 v16 fun v17 => jn (fun (x18 : Int) => oadd x12 1 fun v20 => E_heap_L36 k7 s5 p1 n x18 v20) fun k19 => if v15 < v17 then (k19 x12) else (k19 x11)) else (k7 x11)) else (k7 x11)
def E_heap (σ : St) (p1 : Int) : Res := bndp (E_isPlace p1) fun v1 => if v1 = 0 then (some ((-1), σ)) else (rd σ 24 6 p1 fun v2 => rd σ 25 6 p1 fun v3 => bnd (Pool_read_one σ v2 v3) fun _ s5 => jn (fun (x6 : Int) => bnd (Row_tell s5 x6) fun _ s9 => oif (x6 = (-1)) inferInstance 1 0 fun v10 => some (v10, s9)) fun k7 => E_heap_L36 k7 s5 p1 FU (-1) 1)
def Pool_farLeft_L4 (k2 : Int → Option (Int)) (σ : St) : Nat → Int → Int → Option (Int)
  | 0, _, _ => none
  | n + 1, x4, x5 => if x5 < 8 then (bndp (Pool_leftOf σ x4) fun v7 => if v7 = 0 then (k2 x4) else (bndp (Pool_leftOf σ x4) fun v8 => oadd x5 1 fun v9 => Pool_farLeft_L4 k2 σ n v8 v9)) else (k2 x4)
def Pool_farLeft (σ : St) (p1 : Int) : Option Int := jn (fun (x1 : Int) => bndp (Pool_numberOf σ x1) fun v3 => some v3) fun k2 => Pool_farLeft_L4 k2 σ FU p1 0
def Pool_farLeftGone : Nat → St → Int → Int → Res
  | 0, _, _, _ => none
  | d + 1, σ, p2, p3 => if 1 < p3 then (bndp (Pool_leftOf σ p2) fun v1 => bndp (Shape_leftSize p3) fun v2 => bnd (Pool_farLeftGone d σ v1 v2) fun v3 s4 => bndp (Pool_numberOf s4 p2) fun v5 => bndp (Pool_rightOf s4 p2) fun v6 => bnd (Pool_make s4 v5 v6 v3) fun v7 s8 => some (v7, s8)) else (some (0, σ))
def Pool_sifted : Nat → St → Int → Int → Int → Int → Res
  | 0, _, _, _, _, _ => none
  | d + 1, σ, p2, p3, p4, p5 => jn (fun (x1 : Int) => jn (fun (x3 : Int) => jn (bnd (Pool_make σ p2 p3 p4) fun v6 s7 => some (v6, s7)) fun k5 => if 0 < p5 then (if p3 = 0 then (k5) else (jn (jn (bndp (Pool_leftOf σ p3) fun v10 => bndp (Pool_rightOf σ p3) fun v11 => osub p5 1 fun v12 => bnd (Pool_sifted d σ p2 v10 v11 v12) fun v13 s14 => bndp (Pool_numberOf s14 p3) fun v15 => bnd (Pool_make s14 v15 v13 p4) fun v16 s17 => some (v16, s17)) fun k9 => if p4 = 0 then (k9) else (bndp (Pool_numberOf σ p3) fun v18 => bndp (Pool_numberOf σ p4) fun v19 => if v19 < v18 then (bndp (Pool_leftOf σ p4) fun v20 => bndp (Pool_rightOf σ p4) fun v21 => osub p5 1 fun v22 => bnd (Pool_sifted d σ p2 v20 v21 v22) fun v23 s24 => bndp (Pool_numberOf s24 p4) fun v25 => bnd (Pool_make s24 v25 p3 v23) fun v26 s27 => some (v26, s27)) else (k9))) fun k8 => if x1 = 0 then (k8) else (if x3 = 0 then (k8) else (k5)))) else (k5)) fun k4 => jn (k4 1) fun k28 => if p4 = 0 then (k28) else (bndp (Pool_numberOf σ p4) fun v29 => if v29 < p2 then (k4 0) else (k28))) fun k2 => jn (k2 1) fun k30 => if p3 = 0 then (k30) else (bndp (Pool_numberOf σ p3) fun v31 => if v31 < p2 then (k2 0) else (k30))
def Pool_popped (σ : St) (p1 : Int) (p2 : Int) : Res := if 1 < p2 then (bndp (Pool_leftOf σ p1) fun v1 => bndp (Pool_farLeft σ v1) fun v2 => bndp (Shape_leftSize p2) fun v3 => bnd (Pool_farLeftGone RD σ v1 v3) fun v4 s5 => bndp (Pool_rightOf s5 p1) fun v6 => bnd (Pool_sifted RD s5 v2 v6 v4 8) fun v7 s8 => some (v7, s8)) else (some (0, σ))
def E_pop (σ : St) (p1 : Int) (p2 : Int) : Res := bndp (E_isPlace p1) fun v1 => if v1 = 0 then (some ((-1), σ)) else (bndp (E_isPlace p2) fun v2 => if v2 = 0 then (some ((-1), σ)) else (rd σ 25 6 p1 fun v3 => if v3 = 0 then (some ((-2), σ)) else (rd σ 24 6 p1 fun v4 => bndp (Pool_numberOf σ v4) fun v5 => bnd (Row_tell σ v5) fun _ s7 => bnd (E_begin s7) fun v8 s9 => rd s9 24 6 p1 fun v10 => bnd (Pool_popped s9 v10 v3) fun v11 s12 => osub v3 1 fun v13 => bnd (E_keep s12 p2 v11 v13) fun v14 s15 => gf s15 32 fun v16 => osub v16 v8 fun v17 => some (v17, s15))))
def Pool_putAll_one_L6 (p2 : Int) (p4 : Int) (p5 : Int) : Nat → St → Int → Int → Option (Int × St)
  | 0, _, _, _ => none
  | n + 1, s4, x1, x2 => if x2 < p4 then (rd s4 26 256 x2 fun v5 => oadd p2 x2 fun v6 => bnd (Pool_put s4 v5 x1 v6 p5) fun v7 s8 => oadd x2 1 fun v9 => Pool_putAll_one_L6 p2 p4 p5 n s8 v7 v9) else (some (x1, s4))
def Pool_putAll_one (σ : St) (p1 : Int) (p2 : Int) (p4 : Int) (p5 : Int) : Res := Pool_putAll_one_L6 p2 p4 p5 FU σ p1 0
def E_heaps (σ : St) (p1 : Int) (p2 : Int) : Res := bndp (E_isPlace p1) fun v1 => if v1 = 0 then (some ((-1), σ)) else (bndp (E_isPlace p2) fun v2 => if v2 = 0 then (some ((-1), σ)) else (bnd (E_begin σ) fun v3 s4 => rd s4 24 6 p1 fun v5 => rd s4 25 6 p1 fun v6 => bnd (Pool_read_one s4 v5 v6) fun _ s8 => rd s8 25 6 p1 fun v9 => bnd (Pool_putAll_one s8 0 0 v9 4) fun v10 s11 => rd s11 25 6 p1 fun v12 => bnd (E_keep s11 p2 v10 v12) fun v13 s14 => gf s14 32 fun v15 => osub v15 v3 fun v16 => some (v16, s14)))
def Row_tell1 (σ : St) (p1 : Int) (p2 : Int) : Res := bnd (Row_tell σ p1) fun _ s2 => bnd (Row_add s2 p2) fun _ s4 => some (0, s4)
def E_sum_L62 (k11 : Int → Int → Int → Option (Int × St)) (s7 : St) (p3 : Int) : Nat → Int → Int → Int → Int → Option (Int × St)
  | 0, _, _, _, _ => none
  | n + 1, x20, x21, x22, x23 => if x23 < p3 then (rd s7 26 256 x23 fun v25 => oadd x22 v25 fun v26 => rd s7 26 256 x23 fun v27 => rd s7 26 256 x20 fun v28 => oif (v27 < v28) inferInstance x23 x20 fun v29 => rd s7 26 256 x23 fun v30 => rd s7 26 256 x21 fun v31 => oif (v31 < v30) inferInstance x23 x21 fun v32 => oadd x23 1 fun v33 => E_sum_L62 k11 s7 p3 n v29 v32 v26 v33) else (k11 x20 x21 x22)
def E_sum (σ : St) (p1 : Int) (p2 : Int) (p3 : Int) : Res := bndp (E_isRange σ p1 p2 p3) fun v1 => if v1 = 0 then (some ((-1000000), σ)) else (rd σ 24 6 p1 fun v2 => rd σ 25 6 p1 fun v3 => bnd (Pool_read_one σ v2 v3) fun _ s5 => bnd (Row_clear s5) fun _ s7 => if p2 = p3 then (some (0, s7)) else (jn (fun (x8 : Int) (x9 : Int) (x10 : Int) => rd s7 26 256 x8 fun v12 => rd s7 26 256 x9 fun v13 => bnd (Row_tell1 s7 v12 v13) fun _ s15 => bnd (Row_add s15 x8) fun _ s17 => bnd (Row_add s17 x9) fun _ s19 => some (x10, s19)) fun k11 => E_sum_L62 k11 s7 p3 FU p2 p2 0 p2))
def Pool_forget (σ : St) : Res := gf σ 33 fun v1 => oadd v1 256 fun v2 => pf σ 33 v2 fun s3 => some (0, s3)
def Pool_seenOf (σ : St) (p1 : Int) : Option Int := rd σ 11 6144 p1 fun v1 => gf σ 33 fun v2 => osub v1 v2 fun v3 => opure (imax 0 v3) fun v4 => some v4
def Pool_seeAt (σ : St) (p1 : Int) (p2 : Int) : Res := rd σ 12 256 p1 fun v1 => bndp (Pool_isNode v1) fun v2 => if v2 = 0 then (some (0, σ)) else (bndp (Pool_seenOf σ v1) fun v3 => gf σ 33 fun v4 => opure (bor v3 p2) fun v5 => oadd v4 v5 fun v6 => wr σ 11 6144 v1 v6 fun s7 => some (v3, s7))
def E_seeAll_L21 (p1 : Int) (p2 : Int) : Nat → St → Int → Option (Int × St)
  | 0, _, _ => none
  | n + 1, s7, x5 => rd s7 25 6 p1 fun v8 => if x5 < v8 then (bnd (Pool_seeAt s7 x5 p2) fun v9 s10 => oadd x5 1 fun v11 => E_seeAll_L21 p1 p2 n s10 v11) else (some (0, s7))
def E_seeAll (σ : St) (p1 : Int) (p2 : Int) : Res := rd σ 24 6 p1 fun v1 => rd σ 25 6 p1 fun v2 => bnd (Pool_spread σ v1 v2) fun _ s4 => E_seeAll_L21 p1 p2 FU s4 0
def E_nodesInBoth_L37 (p2 : Int) : Nat → St → Int → Int → Option (Int × St)
  | 0, _, _, _ => none
  | n + 1, s12, x9, x10 => rd s12 25 6 p2 fun v13 => if x10 < v13 then (bnd (Pool_seeAt s12 x10 2) fun v14 s15 => oif (v14 = 1) inferInstance 1 0 fun v16 => oadd x9 v16 fun v17 => oadd x10 1 fun v18 => E_nodesInBoth_L37 p2 n s15 v17 v18) else (some (x9, s12))
def E_nodesInBoth (σ : St) (p1 : Int) (p2 : Int) : Res := bnd (Pool_forget σ) fun _ s2 => bnd (E_seeAll s2 p1 1) fun _ s4 => rd s4 24 6 p2 fun v5 => rd s4 25 6 p2 fun v6 => bnd (Pool_spread s4 v5 v6) fun _ s8 => E_nodesInBoth_L37 p2 FU s8 0 0
def E_same_L41 (k9 : Int → Option (Int × St)) (s4 : St) (v7 : Int) : Nat → Int → Option (Int × St)
  | 0, _ => none
  | n + 1, x22 => if x22 < v7 then (rd s4 26 256 x22 fun v24 => rd s4 27 256 x22 fun v25 => if v24 = v25 then (oadd x22 1 fun v26 => E_same_L41 k9 s4 v7 n v26) else (k9 x22)) else (k9 x22)
def E_same (σ : St) (p1 : Int) (p2 : Int) : Res := bndp (E_isPlace p1) fun v1 => if v1 = 0 then (some ((-1), σ)) else (bndp (E_isPlace p2) fun v2 => if v2 = 0 then (some ((-1), σ)) else (bnd (E_readBoth σ p1 p2) fun _ s4 => rd s4 25 6 p1 fun v5 => rd s4 25 6 p2 fun v6 => opure (imin v5 v6) fun v7 => jn (fun (x8 : Int) => rd s4 25 6 p1 fun v10 => jn (fun (x11 : Int) => jn (fun (x13 : Int) => bnd (E_nodesInBoth s4 p1 p2) fun v15 s16 => bnd (Row_tell1 s16 x13 v15) fun _ s18 => oif (x11 = 0) inferInstance 0 1 fun v19 => some (v19, s18)) fun k14 => if x11 = 0 then (k14 x8) else (k14 (-1))) fun k12 => jn (k12 0) fun k20 => if x8 = v10 then (rd s4 25 6 p2 fun v21 => if x8 = v21 then (k12 1) else (k20)) else (k20)) fun k9 => E_same_L41 k9 s4 v7 FU 0))
def E_nodes_L47 (k23 : St → Int → Int → Option (Int × St)) (x13 : Int) : Nat → St → Int → Int → Int → Option (Int × St)
  | 0, _, _, _, _ => none
  | n + 1, s31, x27, x28, x29 => rd s31 25 6 x13 fun v32 => if x29 < v32 then (opure (bshl 1 x13) fun v33 => bnd (Pool_seeAt s31 x29 v33) fun v34 s35 => oif (v34 = 0) inferInstance 1 0 fun v36 => oadd x27 v36 fun v37 => opure (bshl 1 x13) fun v38 => opure (band v34 v38) fun v39 => jn (fun (x40 : Int) => oadd x28 x40 fun v42 => oadd x29 1 fun v43 => E_nodes_L47 k23 x13 n s35 v37 v42 v43) fun k41 => jn (k41 0) fun k44 => if v39 = 0 then (bndp (Jint_bitCount v34) fun v45 => if v45 = 1 then (k41 1) else (k44)) else (k44)) else (k23 s31 x27 x28)
def E_nodes_L16 (k7 : St → Int → Int → Int → Option (Int × St)) : Nat → St → Int → Int → Int → Int → Option (Int × St)
  | 0, _, _, _, _, _ => none
  | n + 1, s15, x10, x11, x12, x13 => if x13 < 6 then (rd s15 24 6 x13 fun v16 => rd s15 25 6 x13 fun v17 => bnd (Pool_spread s15 v16 v17) fun _ s19 => jn (fun (s20 : St) (x21 : Int) (x22 : Int) => rd s20 25 6 x13 fun v24 => oadd x12 v24 fun v25 => oadd x13 1 fun v26 => E_nodes_L16 k7 n s20 x21 x22 v25 v26) fun k23 => E_nodes_L47 k23 x13 FU s19 x10 x11 0) else (k7 s15 x10 x11 x12)
def E_nodes (σ : St) : Res := bnd (Pool_forget σ) fun _ s2 => jn (fun (s3 : St) (x4 : Int) (x5 : Int) (x6 : Int) => bnd (Row_tell1 s3 x5 x6) fun _ s9 => some (x4, s9)) fun k7 => E_nodes_L16 k7 FU s2 0 0 0 0
def E_placesInUse_L4 (σ : St) : Nat → Int → Int → Option (Int)
  | 0, _, _ => none
  | n + 1, x1, x2 => if x2 < 6 then (rd σ 25 6 x2 fun v4 => jn (fun (x5 : Int) => opure (bor x1 x5) fun v7 => oadd x2 1 fun v8 => E_placesInUse_L4 σ n v7 v8) fun k6 => if 0 < v4 then (opure (bshl 1 x2) fun v9 => k6 v9) else (k6 0)) else (some x1)
def E_placesInUse (σ : St) : Option Int := E_placesInUse_L4 σ FU 0 0
def E_count (σ : St) (p1 : Int) : Option Int := if p1 = 0 then (bndp (E_placesInUse σ) fun v2 => some v2) else if p1 = 1 then (gf σ 32 fun v4 => some v4) else if p1 = 2 then (gf σ 34 fun v6 => some v6) else if p1 = 3 then (gf σ 35 fun v8 => some v8) else if p1 = 4 then (some 1) else (some (-1))
def E_row (σ : St) (p1 : Int) : Option Int := jn (none) fun k1 => if p1 < 0 then (k1) else (gf σ 34 fun v2 => if p1 < v2 then (rd σ 13 16 p1 fun v3 => some v3) else (k1))
def Shape_stepsOfMore_L7 : Nat → Int → Int → Int → Option (Int)
  | 0, _, _, _ => none
  | n + 1, x1, x2, x3 => if 0 < x2 then (if 0 < x3 then (orem x3 2 fun v5 => jn (fun (x6 : Int) => oadd x1 1 fun v8 => osub x3 1 fun v9 => odiv v9 2 fun v10 => Shape_stepsOfMore_L7 n v8 x6 v10) fun k7 => if v5 = 1 then (bndp (Shape_leftSize x2) fun v12 => k7 v12) else (bndp (Shape_rightSize x2) fun v11 => k7 v11)) else (some x1)) else (some x1)
def Shape_stepsOfMore (p1 : Int) (p2 : Int) : Option Int := Shape_stepsOfMore_L7 FU 1 p1 p2
def Shape_steps_L4 : Nat → Int → Int → Option (Int)
  | 0, _, _ => none
  | n + 1, x1, x2 => if 0 < x2 then (bndp (Shape_leftSize x2) fun v4 => bndp (Shape_rightSize x2) fun v5 => bndp (Shape_stepsOfMore v4 v5) fun v6 => oadd 1 v6 fun v7 => oadd x1 v7 fun v8 => osub x2 1 fun v9 => odiv v9 2 fun v10 => Shape_steps_L4 n v8 v10) else (some x1)
def Shape_steps (p1 : Int) : Option Int := Shape_steps_L4 FU 1 p1
def E_size (σ : St) (p1 : Int) : Res := bndp (E_isPlace p1) fun v1 => if v1 = 0 then (some ((-1), σ)) else (rd σ 25 6 p1 fun v2 => bndp (Shape_steps v2) fun v3 => jn (fun (x4 : Int) => bnd (Row_tell1 σ v3 x4) fun _ s7 => some (v2, s7)) fun k5 => if v2 = 0 then (k5 (-1)) else (osub v2 1 fun v8 => bndp (Shape_depth v8) fun v9 => k5 v9))
def E_own_L67 (k13 : St → Int → Int → Option (Int × St)) (p1 : Int) : Nat → St → Int → Int → Int → Option (Int × St)
  | 0, _, _, _, _ => none
  | n + 1, s20, x16, x17, x18 => rd s20 25 6 p1 fun v21 => if x18 < v21 then (bnd (Pool_seeAt s20 x18 2) fun v22 s23 => opure (band v22 2) fun v24 => oif (v24 = 0) inferInstance 1 0 fun v25 => oadd x16 v25 fun v26 => oif (v22 = 0) inferInstance 1 0 fun v27 => oadd x17 v27 fun v28 => oadd x18 1 fun v29 => E_own_L67 k13 p1 n s23 v26 v28 v29) else (k13 s20 x16 x17)
def E_own_L18 (k5 : St → Option (Int × St)) (p1 : Int) : Nat → St → Int → Option (Int × St)
  | 0, _, _ => none
  | n + 1, s32, x30 => if x30 < 6 then (jn (fun (s33 : St) => oadd x30 1 fun v35 => E_own_L18 k5 p1 n s33 v35) fun k34 => if x30 = p1 then (k34 s32) else (bnd (E_seeAll s32 x30 1) fun _ s37 => k34 s37)) else (k5 s32)
def E_own (σ : St) (p1 : Int) : Res := bndp (E_isPlace p1) fun v1 => if v1 = 0 then (some ((-1), σ)) else (bnd (Pool_forget σ) fun _ s3 => jn (fun (s4 : St) => rd s4 24 6 p1 fun v6 => rd s4 25 6 p1 fun v7 => bnd (Pool_spread s4 v6 v7) fun _ s9 => jn (fun (s10 : St) (x11 : Int) (x12 : Int) => bnd (Row_tell s10 x12) fun _ s15 => some (x11, s15)) fun k13 => E_own_L67 k13 p1 FU s9 0 0 0) fun k5 => E_own_L18 k5 p1 FU s3 0)
