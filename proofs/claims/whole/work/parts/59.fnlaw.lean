def fb_L_law_18 (L : Nat) (xs : Nat → Int32) (k18 : Int64 × Int32 × (Nat → Int32) × Int32 × Int32 × Int32 × (Nat → Int32) × (Nat → Int32) × (Nat → Int32) × (Nat → Int64) × Int32 × Int32 × Int32 × (Nat → Int32) × (Nat → Int32) × (Nat → Int32) × (Nat → Int64) × Int32 × Int32 × Int32 × Int32 × Int32 × Int32 × Int32 × Int32 × (Nat → Int32) × (Nat → Int32) × (Nat → Int32) × (Nat → Int32) × (Nat → Int32) × (Nat → Int32) × (Nat → Int32) × (Nat → Int32) × (Nat → Int32) × Int32 → Option Int32) (bn : Int64) (zp : Int32) (ch : Nat → Int32) (ct : Int32) (lo : Int32) (oc : Int32) (kd : Nat → Int32) (dp : Nat → Int32) (su : Nat → Int32) (nm : Nat → Int64) (ct2 : Int32) (lo2 : Int32) (oc2 : Int32) (kd2 : Nat → Int32) (dp2 : Nat → Int32) (su2 : Nat → Int32) (nm2 : Nat → Int64) (bg : Int32) (ln : Int32) (mt : Int32) (en : Int32) (sx : Int32) (pl : Int32) (ov : Int32) (tk : Int32) (na : Nat → Int32) (cu : Nat → Int32) (pa : Nat → Int32) (re : Nat → Int32) (cl : Nat → Int32) (si : Nat → Int32) (lt : Nat → Int32) (pg : Nat → Int32) (rd : Nat → Int32) (x3 : Int32) : Option Int32 :=
  if ((Int32.ofNat L) - 3) < x3 then
    some 1
  else
    jv_gd (jv_ig x3 L) <|
    if ((xs x3.toNatClampNeg) &&& 31) = 0 then
      jv_gd (jv_ig (x3 + 1) L) <|
      Option.bind (fn_V_letter bn (((xs (x3 + 1).toNatClampNeg).toUInt32 % 65536).toInt32)) fun o_127 =>
      jv_gd (jv_ig (x3 + 1) L) <|
      Option.bind (fn_M_letter bg na (((xs (x3 + 1).toNatClampNeg).toUInt32 % 65536).toInt32)) fun o_137 =>
      if o_127.1 = o_137.1 then
        k18 (o_127.2, zp, ch, ct, lo, oc, kd, dp, su, nm, ct2, lo2, oc2, kd2, dp2, su2, nm2, o_137.2.1, ln, mt, en, sx, pl, ov, tk, o_137.2.2, cu, pa, re, cl, si, lt, pg, rd, x3 + 3)
      else
        some 0
    else
    if ((xs x3.toNatClampNeg) &&& 31) = 1 then
      Option.bind (fn_V_open bn ct lo oc kd dp su nm) fun o_146 =>
      Option.bind (fn_M_open na bg cu pa re cl si lt) fun o_150 =>
      if o_146.1 = o_150.1 then
        k18 (o_146.2.1, zp, ch, o_146.2.2.1, o_146.2.2.2.1, o_146.2.2.2.2.1, o_146.2.2.2.2.2.1, o_146.2.2.2.2.2.2.1, o_146.2.2.2.2.2.2.2.1, o_146.2.2.2.2.2.2.2.2, ct2, lo2, oc2, kd2, dp2, su2, nm2, o_150.2.1, ln, mt, en, sx, pl, ov, tk, na, o_150.2.2.1, o_150.2.2.2.1, o_150.2.2.2.2.1, o_150.2.2.2.2.2.1, o_150.2.2.2.2.2.2.1, o_150.2.2.2.2.2.2.2, pg, rd, x3 + 3)
      else
        some 0
    else
    if ((xs x3.toNatClampNeg) &&& 31) = 2 then
      Option.bind (fn_V_close ct su lo oc kd) fun o_159 =>
      Option.bind (fn_M_close cu re cl) fun o_163 =>
      if o_159.1 = o_163.1 then
        k18 (bn, zp, ch, ct, o_159.2.1, o_159.2.2.1, o_159.2.2.2, dp, su, nm, ct2, lo2, oc2, kd2, dp2, su2, nm2, bg, ln, mt, en, sx, pl, ov, tk, na, cu, pa, re, o_163.2, si, lt, pg, rd, x3 + 3)
      else
        some 0
    else
    if ((xs x3.toNatClampNeg) &&& 31) = 3 then
      jv_gd (jv_ig (x3 + 1) L) <|
      Option.bind (fn_V_test bn ct lo oc kd dp su nm (xs (x3 + 1).toNatClampNeg)) fun o_177 =>
      jv_gd (jv_ig (x3 + 1) L) <|
      Option.bind (fn_M_test na bg cu pa re cl si lt (xs (x3 + 1).toNatClampNeg)) fun o_186 =>
      if o_177.1 = o_186.1 then
        k18 (o_177.2.1, zp, ch, o_177.2.2.1, o_177.2.2.2.1, o_177.2.2.2.2.1, o_177.2.2.2.2.2.1, o_177.2.2.2.2.2.2.1, o_177.2.2.2.2.2.2.2.1, o_177.2.2.2.2.2.2.2.2, ct2, lo2, oc2, kd2, dp2, su2, nm2, o_186.2.1, ln, mt, en, sx, pl, ov, tk, na, o_186.2.2.1, o_186.2.2.2.1, o_186.2.2.2.2.1, o_186.2.2.2.2.2.1, o_186.2.2.2.2.2.2.1, o_186.2.2.2.2.2.2.2, pg, rd, x3 + 3)
      else
        some 0
    else
    if ((xs x3.toNatClampNeg) &&& 31) = 4 then
      Option.bind (fn_V_reset ct lo oc) fun o_195 =>
      Option.bind (fn_M_reset cu) fun o_199 =>
      k18 (bn, zp, ch, o_195.1, o_195.2.1, o_195.2.2, kd, dp, su, nm, ct2, lo2, oc2, kd2, dp2, su2, nm2, bg, ln, mt, en, sx, pl, ov, tk, na, o_199, pa, re, cl, si, lt, pg, rd, x3 + 3)
    else
    if ((xs x3.toNatClampNeg) &&& 31) = 5 then
      Option.bind (fn_V_nodes ct) fun o_206 =>
      Option.bind (fn_M_nodes cu) fun o_210 =>
      if o_206 = o_210 then
        k18 (bn, zp, ch, ct, lo, oc, kd, dp, su, nm, ct2, lo2, oc2, kd2, dp2, su2, nm2, bg, ln, mt, en, sx, pl, ov, tk, na, cu, pa, re, cl, si, lt, pg, rd, x3 + 3)
      else
        some 0
    else
    if ((xs x3.toNatClampNeg) &&& 31) = 6 then
      jv_gd (jv_ig (x3 + 1) L) <|
      Option.bind (fn_V_kind ct kd (xs (x3 + 1).toNatClampNeg)) fun o_224 =>
      jv_gd (jv_ig (x3 + 1) L) <|
      Option.bind (fn_M_kind cu pa re cl (xs (x3 + 1).toNatClampNeg)) fun o_233 =>
      if o_224 = o_233 then
        k18 (bn, zp, ch, ct, lo, oc, kd, dp, su, nm, ct2, lo2, oc2, kd2, dp2, su2, nm2, bg, ln, mt, en, sx, pl, ov, tk, na, cu, pa, re, cl, si, lt, pg, rd, x3 + 3)
      else
        some 0
    else
    if ((xs x3.toNatClampNeg) &&& 31) = 7 then
      jv_gd (jv_ig (x3 + 1) L) <|
      Option.bind (fn_V_depth ct dp (xs (x3 + 1).toNatClampNeg)) fun o_247 =>
      jv_gd (jv_ig (x3 + 1) L) <|
      Option.bind (fn_M_depth cu pa (xs (x3 + 1).toNatClampNeg)) fun o_256 =>
      if o_247 = o_256 then
        k18 (bn, zp, ch, ct, lo, oc, kd, dp, su, nm, ct2, lo2, oc2, kd2, dp2, su2, nm2, bg, ln, mt, en, sx, pl, ov, tk, na, cu, pa, re, cl, si, lt, pg, rd, x3 + 3)
      else
        some 0
    else
    if ((xs x3.toNatClampNeg) &&& 31) = 8 then
      jv_gd (jv_ig (x3 + 1) L) <|
      jv_gd (jv_ig (x3 + 2) L) <|
      Option.bind (fn_V_name ct nm (xs (x3 + 1).toNatClampNeg) (xs (x3 + 2).toNatClampNeg)) fun o_275 =>
      jv_gd (jv_ig (x3 + 1) L) <|
      jv_gd (jv_ig (x3 + 2) L) <|
      Option.bind (fn_M_name cu si lt (xs (x3 + 1).toNatClampNeg) (xs (x3 + 2).toNatClampNeg)) fun o_289 =>
      if o_275 = o_289 then
        k18 (bn, zp, ch, ct, lo, oc, kd, dp, su, nm, ct2, lo2, oc2, kd2, dp2, su2, nm2, bg, ln, mt, en, sx, pl, ov, tk, na, cu, pa, re, cl, si, lt, pg, rd, x3 + 3)
      else
        some 0
    else
    if ((xs x3.toNatClampNeg) &&& 31) = 9 then
      Option.bind (fn_V_write ct lo oc kd dp su nm zp ch) fun o_298 =>
      Option.bind (fn_M_write cu pa re cl si lt ln pg) fun o_302 =>
      if o_298.1 = o_302.1 then
        k18 (bn, o_298.2.1, o_298.2.2, ct, lo, oc, kd, dp, su, nm, ct2, lo2, oc2, kd2, dp2, su2, nm2, bg, o_302.2.1, mt, en, sx, pl, ov, tk, na, cu, pa, re, cl, si, lt, o_302.2.2, rd, x3 + 3)
      else
        some 0
    else
    if ((xs x3.toNatClampNeg) &&& 31) = 10 then
      Option.bind (fn_V_read zp ch ct lo oc kd dp su nm ct2 lo2 oc2 kd2 dp2 su2 nm2) fun o_311 =>
      Option.bind (fn_M_read ln pg mt en sx pl ov tk cu pa re cl si lt rd) fun o_315 =>
      if o_311.1 = o_315.1 then
        k18 (bn, zp, ch, o_311.2.1, o_311.2.2.1, o_311.2.2.2.1, o_311.2.2.2.2.1, o_311.2.2.2.2.2.1, o_311.2.2.2.2.2.2.1, o_311.2.2.2.2.2.2.2.1, o_311.2.2.2.2.2.2.2.2.1, o_311.2.2.2.2.2.2.2.2.2.1, o_311.2.2.2.2.2.2.2.2.2.2.1, o_311.2.2.2.2.2.2.2.2.2.2.2.1, o_311.2.2.2.2.2.2.2.2.2.2.2.2.1, o_311.2.2.2.2.2.2.2.2.2.2.2.2.2.1, o_311.2.2.2.2.2.2.2.2.2.2.2.2.2.2, bg, ln, o_315.2.1, o_315.2.2.1, o_315.2.2.2.1, o_315.2.2.2.2.1, o_315.2.2.2.2.2.1, o_315.2.2.2.2.2.2.1, na, o_315.2.2.2.2.2.2.2.1, o_315.2.2.2.2.2.2.2.2.1, o_315.2.2.2.2.2.2.2.2.2.1, o_315.2.2.2.2.2.2.2.2.2.2.1, o_315.2.2.2.2.2.2.2.2.2.2.2.1, o_315.2.2.2.2.2.2.2.2.2.2.2.2.1, pg, o_315.2.2.2.2.2.2.2.2.2.2.2.2.2, x3 + 3)
      else
        some 0
    else
    if ((xs x3.toNatClampNeg) &&& 31) = 11 then
      Option.bind (fn_V_length zp) fun o_324 =>
      Option.bind (fn_M_length ln) fun o_328 =>
      if o_324 = o_328 then
        k18 (bn, zp, ch, ct, lo, oc, kd, dp, su, nm, ct2, lo2, oc2, kd2, dp2, su2, nm2, bg, ln, mt, en, sx, pl, ov, tk, na, cu, pa, re, cl, si, lt, pg, rd, x3 + 3)
      else
        some 0
    else
    if ((xs x3.toNatClampNeg) &&& 31) = 12 then
      jv_gd (jv_ig (x3 + 1) L) <|
      Option.bind (fn_V_at zp ch (xs (x3 + 1).toNatClampNeg)) fun o_342 =>
      jv_gd (jv_ig (x3 + 1) L) <|
      Option.bind (fn_M_at ln pg (xs (x3 + 1).toNatClampNeg)) fun o_351 =>
      if o_342 = o_351 then
        k18 (bn, zp, ch, ct, lo, oc, kd, dp, su, nm, ct2, lo2, oc2, kd2, dp2, su2, nm2, bg, ln, mt, en, sx, pl, ov, tk, na, cu, pa, re, cl, si, lt, pg, rd, x3 + 3)
      else
        some 0
    else
    if ((xs x3.toNatClampNeg) &&& 31) = 13 then
      jv_gd (jv_ig (x3 + 1) L) <|
      Option.bind (fn_V_put zp ch (((xs (x3 + 1).toNatClampNeg).toUInt32 % 65536).toInt32)) fun o_366 =>
      jv_gd (jv_ig (x3 + 1) L) <|
      Option.bind (fn_M_put ln pg (((xs (x3 + 1).toNatClampNeg).toUInt32 % 65536).toInt32)) fun o_376 =>
      if o_366.1 = o_376.1 then
        k18 (bn, o_366.2.1, o_366.2.2, ct, lo, oc, kd, dp, su, nm, ct2, lo2, oc2, kd2, dp2, su2, nm2, bg, o_376.2.1, mt, en, sx, pl, ov, tk, na, cu, pa, re, cl, si, lt, o_376.2.2, rd, x3 + 3)
      else
        some 0
    else
    if ((xs x3.toNatClampNeg) &&& 31) = 14 then
      jv_gd (jv_ig (x3 + 1) L) <|
      jv_gd (jv_ig (x3 + 2) L) <|
      Option.bind (fn_V_poke zp ch (xs (x3 + 1).toNatClampNeg) (((xs (x3 + 2).toNatClampNeg).toUInt32 % 65536).toInt32)) fun o_396 =>
      jv_gd (jv_ig (x3 + 1) L) <|
      jv_gd (jv_ig (x3 + 2) L) <|
      Option.bind (fn_M_poke ln pg (xs (x3 + 1).toNatClampNeg) (((xs (x3 + 2).toNatClampNeg).toUInt32 % 65536).toInt32)) fun o_411 =>
      if o_396.1 = o_411.1 then
        k18 (bn, zp, o_396.2, ct, lo, oc, kd, dp, su, nm, ct2, lo2, oc2, kd2, dp2, su2, nm2, bg, ln, mt, en, sx, pl, ov, tk, na, cu, pa, re, cl, si, lt, o_411.2, rd, x3 + 3)
      else
        some 0
    else
    if ((xs x3.toNatClampNeg) &&& 31) = 15 then
      jv_gd (jv_ig (x3 + 1) L) <|
      Option.bind (fn_V_cut zp (xs (x3 + 1).toNatClampNeg)) fun o_425 =>
      jv_gd (jv_ig (x3 + 1) L) <|
      Option.bind (fn_M_cut ln (xs (x3 + 1).toNatClampNeg)) fun o_434 =>
      if o_425.1 = o_434.1 then
        k18 (bn, o_425.2, ch, ct, lo, oc, kd, dp, su, nm, ct2, lo2, oc2, kd2, dp2, su2, nm2, bg, o_434.2, mt, en, sx, pl, ov, tk, na, cu, pa, re, cl, si, lt, pg, rd, x3 + 3)
      else
        some 0
    else
    if ((xs x3.toNatClampNeg) &&& 31) = 16 then
      jv_gd (jv_ig (x3 + 1) L) <|
      Option.bind (fn_V_attempts ct kd dp su nm (xs (x3 + 1).toNatClampNeg)) fun o_448 =>
      jv_gd (jv_ig (x3 + 1) L) <|
      Option.bind (fn_M_attempts cu pa re si lt (xs (x3 + 1).toNatClampNeg)) fun o_457 =>
      if o_448 = o_457 then
        k18 (bn, zp, ch, ct, lo, oc, kd, dp, su, nm, ct2, lo2, oc2, kd2, dp2, su2, nm2, bg, ln, mt, en, sx, pl, ov, tk, na, cu, pa, re, cl, si, lt, pg, rd, x3 + 3)
      else
        some 0
    else
    if ((xs x3.toNatClampNeg) &&& 31) = 17 then
      jv_gd (jv_ig (x3 + 1) L) <|
      Option.bind (fn_V_flaky ct kd dp su nm (xs (x3 + 1).toNatClampNeg)) fun o_471 =>
      jv_gd (jv_ig (x3 + 1) L) <|
      Option.bind (fn_M_flaky cu pa re si lt (xs (x3 + 1).toNatClampNeg)) fun o_480 =>
      if o_471 = o_480 then
        k18 (bn, zp, ch, ct, lo, oc, kd, dp, su, nm, ct2, lo2, oc2, kd2, dp2, su2, nm2, bg, ln, mt, en, sx, pl, ov, tk, na, cu, pa, re, cl, si, lt, pg, rd, x3 + 3)
      else
        some 0
    else
      k18 (bn, zp, ch, ct, lo, oc, kd, dp, su, nm, ct2, lo2, oc2, kd2, dp2, su2, nm2, bg, ln, mt, en, sx, pl, ov, tk, na, cu, pa, re, cl, si, lt, pg, rd, x3 + 3)
def fl_L_law_18 (L : Nat) (xs : Nat → Int32) : Nat → Int64 × Int32 × (Nat → Int32) × Int32 × Int32 × Int32 × (Nat → Int32) × (Nat → Int32) × (Nat → Int32) × (Nat → Int64) × Int32 × Int32 × Int32 × (Nat → Int32) × (Nat → Int32) × (Nat → Int32) × (Nat → Int64) × Int32 × Int32 × Int32 × Int32 × Int32 × Int32 × Int32 × Int32 × (Nat → Int32) × (Nat → Int32) × (Nat → Int32) × (Nat → Int32) × (Nat → Int32) × (Nat → Int32) × (Nat → Int32) × (Nat → Int32) × (Nat → Int32) × Int32 → Option Int32 := jv_lp (fun k z => fb_L_law_18 L xs k z.1 z.2.1 z.2.2.1 z.2.2.2.1 z.2.2.2.2.1 z.2.2.2.2.2.1 z.2.2.2.2.2.2.1 z.2.2.2.2.2.2.2.1 z.2.2.2.2.2.2.2.2.1 z.2.2.2.2.2.2.2.2.2.1 z.2.2.2.2.2.2.2.2.2.2.1 z.2.2.2.2.2.2.2.2.2.2.2.1 z.2.2.2.2.2.2.2.2.2.2.2.2.1 z.2.2.2.2.2.2.2.2.2.2.2.2.2.1 z.2.2.2.2.2.2.2.2.2.2.2.2.2.2.1 z.2.2.2.2.2.2.2.2.2.2.2.2.2.2.2.1 z.2.2.2.2.2.2.2.2.2.2.2.2.2.2.2.2.1 z.2.2.2.2.2.2.2.2.2.2.2.2.2.2.2.2.2.1 z.2.2.2.2.2.2.2.2.2.2.2.2.2.2.2.2.2.2.1 z.2.2.2.2.2.2.2.2.2.2.2.2.2.2.2.2.2.2.2.1 z.2.2.2.2.2.2.2.2.2.2.2.2.2.2.2.2.2.2.2.2.1 z.2.2.2.2.2.2.2.2.2.2.2.2.2.2.2.2.2.2.2.2.2.1 z.2.2.2.2.2.2.2.2.2.2.2.2.2.2.2.2.2.2.2.2.2.2.1 z.2.2.2.2.2.2.2.2.2.2.2.2.2.2.2.2.2.2.2.2.2.2.2.1 z.2.2.2.2.2.2.2.2.2.2.2.2.2.2.2.2.2.2.2.2.2.2.2.2.1 z.2.2.2.2.2.2.2.2.2.2.2.2.2.2.2.2.2.2.2.2.2.2.2.2.2.1 z.2.2.2.2.2.2.2.2.2.2.2.2.2.2.2.2.2.2.2.2.2.2.2.2.2.2.1 z.2.2.2.2.2.2.2.2.2.2.2.2.2.2.2.2.2.2.2.2.2.2.2.2.2.2.2.1 z.2.2.2.2.2.2.2.2.2.2.2.2.2.2.2.2.2.2.2.2.2.2.2.2.2.2.2.2.1 z.2.2.2.2.2.2.2.2.2.2.2.2.2.2.2.2.2.2.2.2.2.2.2.2.2.2.2.2.2.1 z.2.2.2.2.2.2.2.2.2.2.2.2.2.2.2.2.2.2.2.2.2.2.2.2.2.2.2.2.2.2.1 z.2.2.2.2.2.2.2.2.2.2.2.2.2.2.2.2.2.2.2.2.2.2.2.2.2.2.2.2.2.2.2.1 z.2.2.2.2.2.2.2.2.2.2.2.2.2.2.2.2.2.2.2.2.2.2.2.2.2.2.2.2.2.2.2.2.1 z.2.2.2.2.2.2.2.2.2.2.2.2.2.2.2.2.2.2.2.2.2.2.2.2.2.2.2.2.2.2.2.2.2.1 z.2.2.2.2.2.2.2.2.2.2.2.2.2.2.2.2.2.2.2.2.2.2.2.2.2.2.2.2.2.2.2.2.2.2)
def fn_L_law (L : Nat) (xs : Nat → Int32) : Option Int32 :=
  Option.bind (fn_V_init ) fun o_4 =>
  Option.bind (fn_M_init ) fun o_12 =>
  fl_L_law_18 L xs 4000 (o_4.1, o_4.2.1, o_4.2.2.1, o_4.2.2.2.1, o_4.2.2.2.2.1, o_4.2.2.2.2.2.1, o_4.2.2.2.2.2.2.1, o_4.2.2.2.2.2.2.2.1, o_4.2.2.2.2.2.2.2.2.1, o_4.2.2.2.2.2.2.2.2.2.1, o_4.2.2.2.2.2.2.2.2.2.2.1, o_4.2.2.2.2.2.2.2.2.2.2.2.1, o_4.2.2.2.2.2.2.2.2.2.2.2.2.1, o_4.2.2.2.2.2.2.2.2.2.2.2.2.2.1, o_4.2.2.2.2.2.2.2.2.2.2.2.2.2.2.1, o_4.2.2.2.2.2.2.2.2.2.2.2.2.2.2.2.1, o_4.2.2.2.2.2.2.2.2.2.2.2.2.2.2.2.2, o_12.1, o_12.2.1, o_12.2.2.1, o_12.2.2.2.1, o_12.2.2.2.2.1, o_12.2.2.2.2.2.1, o_12.2.2.2.2.2.2.1, o_12.2.2.2.2.2.2.2.1, o_12.2.2.2.2.2.2.2.2.1, o_12.2.2.2.2.2.2.2.2.2.1, o_12.2.2.2.2.2.2.2.2.2.2.1, o_12.2.2.2.2.2.2.2.2.2.2.2.1, o_12.2.2.2.2.2.2.2.2.2.2.2.2.1, o_12.2.2.2.2.2.2.2.2.2.2.2.2.2.1, o_12.2.2.2.2.2.2.2.2.2.2.2.2.2.2.1, o_12.2.2.2.2.2.2.2.2.2.2.2.2.2.2.2.1, o_12.2.2.2.2.2.2.2.2.2.2.2.2.2.2.2.2, 0)
